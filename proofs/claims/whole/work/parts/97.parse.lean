/-! THE TWO READERS OF A LAW: what they read and write -/
abbrev Tk : Type := Nat × Nat
def sy (n : Nat) (B : Nat → Nat) (p : Nat) : Nat := if p < n ∧ B p < 128 then B p else 128
def Vs (v : Int32) (s : Nat) : Prop := (s < 128 ∧ v = nI s) ∨ (s = 128 ∧ (v < 0 ∨ nI 127 < v))
theorem Vs.ne {v : Int32} {s c : Nat} (h : Vs v s) (hc : c < 128) : v = nI c ↔ s = c := by
  rcases h with ⟨h1, rfl⟩ | ⟨rfl, h2 | h2⟩
  · exact nI_eq (by omega) (by omega)
  · refine ⟨fun q => ?_, fun q => by omega⟩
    rw [q] at h2
    exact absurd h2 (nI_pos (by omega))
  · refine ⟨fun q => ?_, fun q => by omega⟩
    rw [q] at h2
    exact absurd h2 (nI_nlt (by omega) (by decide))
theorem Vs.i {v : Int32} {s c : Nat} (h : Vs v s) (hc : c < 128) {α : Type} (x y : α) : (if v = nI c then x else y) = if s = c then x else y := ifI (h.ne hc) x y
theorem iteS {p : Prop} [Decidable p] {a b : Int32} {σ : Sx} : (if p then some (a, σ) else some (b, σ)) = some ((if p then a else b), σ) := by
  split <;> rfl
set_option maxRecDepth 100000 in
theorem t8 : ∀ b, b < 128 → (nI b).toInt8.toInt32 = nI b := by decide
set_option maxRecDepth 100000 in
theorem t8n : ∀ b, b < 128 → (nI (b + 128)).toInt8.toInt32 < 0 := by decide
def chC (n : Nat) (B : Nat → Nat) (p : Nat) : Int32 := if p < n then nI (B p) else -1
def chM (n : Nat) (B : Nat → Nat) (p : Nat) : Int32 := if p < n then (nI (B p)).toInt8.toInt32 else -1
theorem Vs_C {n : Nat} {B : Nat → Nat} (hB : ∀ j, j < n → B j < 256) (p : Nat) : Vs (chC n B p) (sy n B p) := by
  unfold chC sy Vs
  by_cases h : p < n
  · have := hB p h
    by_cases h2 : B p < 128
    · rw [if_pos h, if_pos ⟨h, h2⟩]
      exact Or.inl ⟨h2, rfl⟩
    · rw [if_pos h, if_neg (fun q => h2 q.2)]
      exact Or.inr ⟨rfl, Or.inr (nI_lt (by omega) (by omega))⟩
  · rw [if_neg h, if_neg (fun q => h q.1)]
    exact Or.inr ⟨rfl, Or.inl (by decide)⟩
theorem Vs_M {n : Nat} {B : Nat → Nat} (hB : ∀ j, j < n → B j < 256) (p : Nat) : Vs (chM n B p) (sy n B p) := by
  unfold chM sy Vs
  by_cases h : p < n
  · have := hB p h
    by_cases h2 : B p < 128
    · rw [if_pos h, if_pos ⟨h, h2⟩]
      exact Or.inl ⟨h2, t8 _ h2⟩
    · rw [if_pos h, if_neg (fun q => h2 q.2)]
      refine Or.inr ⟨rfl, Or.inl ?_⟩
      have := t8n (B p - 128) (by omega)
      rw [show B p - 128 + 128 = B p by omega] at this
      exact this
  · rw [if_neg h, if_neg (fun q => h q.1)]
    exact Or.inr ⟨rfl, Or.inl (by decide)⟩
def dgS (s : Nat) : Int32 := if 48 ≤ s ∧ s ≤ 57 then 1 else 0
theorem M_dg {v : Int32} {s : Nat} (h : Vs v s) (σ : Sx) : F_X10_in v (48 : Int32) (57 : Int32) σ = some (dgS s, σ) := by
  rw [M_in]
  unfold dgS
  have e48 : (48 : Int32).toInt = 48 := rfl
  have e57 : (57 : Int32).toInt = 57 := rfl
  have e127 : (nI 127).toInt = 127 := rfl
  have e0 : (0 : Int32).toInt = 0 := rfl
  have k1 : v < (48 : Int32) ↔ v.toInt < 48 := by rw [Int32.lt_iff_toInt_lt, e48]
  have k2 : (57 : Int32) < v ↔ 57 < v.toInt := by rw [Int32.lt_iff_toInt_lt, e57]
  have key : (¬ v < (48 : Int32) ∧ ¬ (57 : Int32) < v) ↔ (48 ≤ s ∧ s ≤ 57) := by
    rw [k1, k2]
    rcases h with ⟨h1, rfl⟩ | ⟨rfl, h2 | h2⟩
    · rw [nI_toInt (by omega)]
      omega
    · rw [Int32.lt_iff_toInt_lt, e0] at h2
      omega
    · rw [Int32.lt_iff_toInt_lt, e127] at h2
      omega
  by_cases q1 : v < (48 : Int32)
  · rw [if_pos q1, if_neg (fun z => (key.mpr z).1 q1)]
  · by_cases q2 : (57 : Int32) < v
    · rw [if_neg q1, if_pos q2, if_neg (fun z => (key.mpr z).2 q2)]
    · rw [if_neg q1, if_neg q2, if_pos (key.mp ⟨q1, q2⟩)]
theorem C_dg {v : Int32} {s : Nat} (h : Vs v s) (σ : Sx) : F_X4_isDigit v σ = some (dgS s, σ) := M_dg h σ
def nmS (s : Nat) : Int32 := if s = 110 then 1 else if s = 115 then 1 else if s = 107 then 1 else if s = 108 then 1 else if s = 119 then 1 else if s = 109 then 1 else 0
theorem C_nm {v : Int32} {s : Nat} (h : Vs v s) (σ : Sx) : F_X4_isName v σ = some (nmS s, σ) := by
  unfold F_X4_isName nmS
  rw [show (110 : Int32) = nI 110 from rfl, show (115 : Int32) = nI 115 from rfl, show (107 : Int32) = nI 107 from rfl, show (108 : Int32) = nI 108 from rfl, show (119 : Int32) = nI 119 from rfl, show (109 : Int32) = nI 109 from rfl]
  rw [h.i (show 110 < 128 by decide), h.i (show 115 < 128 by decide), h.i (show 107 < 128 by decide), h.i (show 108 < 128 by decide), h.i (show 119 < 128 by decide), h.i (show 109 < 128 by decide)]
  simp only [iteS]
def nmV (s : Nat) : Int32 := if s = 107 then 2 else if s = 108 then 3 else if s = 109 then 5 else if s = 110 then 0 else if s = 115 then 1 else if s = 119 then 4 else -1
theorem M_nm {v : Int32} {s : Nat} (h : Vs v s) (σ : Sx) : F_X10_nameOf v σ = some (nmV s, σ) := by
  unfold F_X10_nameOf nmV
  rw [show (107 : Int32) = nI 107 from rfl, show (108 : Int32) = nI 108 from rfl, show (109 : Int32) = nI 109 from rfl, show (110 : Int32) = nI 110 from rfl, show (111 : Int32) = nI 111 from rfl, show (112 : Int32) = nI 112 from rfl, show (113 : Int32) = nI 113 from rfl, show (114 : Int32) = nI 114 from rfl, show (115 : Int32) = nI 115 from rfl, show (116 : Int32) = nI 116 from rfl, show (117 : Int32) = nI 117 from rfl, show (118 : Int32) = nI 118 from rfl, show (119 : Int32) = nI 119 from rfl]
  rw [h.i (show 107 < 128 by decide), h.i (show 108 < 128 by decide), h.i (show 109 < 128 by decide), h.i (show 110 < 128 by decide), h.i (show 111 < 128 by decide), h.i (show 112 < 128 by decide), h.i (show 113 < 128 by decide), h.i (show 114 < 128 by decide), h.i (show 115 < 128 by decide), h.i (show 116 < 128 by decide), h.i (show 117 < 128 by decide), h.i (show 118 < 128 by decide), h.i (show 119 < 128 by decide)]
  simp only [iteS]
  congr 2
  by_cases h1 : s = 107
  · rw [if_pos h1, if_pos h1]
  by_cases h2 : s = 108
  · rw [if_neg h1, if_neg h1, if_pos h2, if_pos h2]
  by_cases h3 : s = 109
  · rw [if_neg h1, if_neg h1, if_neg h2, if_neg h2, if_pos h3, if_pos h3]
  by_cases h4 : s = 110
  · rw [if_neg h1, if_neg h1, if_neg h2, if_neg h2, if_neg h3, if_neg h3, if_pos h4, if_pos h4]
  rw [if_neg h1, if_neg h1, if_neg h2, if_neg h2, if_neg h3, if_neg h3, if_neg h4, if_neg h4]
  by_cases h5 : s = 115
  · subst h5
    rfl
  by_cases h6 : s = 119
  · subst h6
    rfl
  rw [if_neg h5, if_neg h5, if_neg h6]
  repeat' split
  all_goals rfl
def rkS (s : Nat) : Int32 := if s = 37 then 4 else if s = 38 then 1 else if s = 42 then 4 else if s = 43 then 3 else if s = 45 then 3 else if s = 47 then 4 else if s = 60 then 2 else if s = 61 then 2 else if s = 62 then 2 else if s = 124 then 0 else -1
theorem C_rk {v : Int32} {s : Nat} (h : Vs v s) (σ : Sx) : F_X4_rankOf v σ = some (rkS s, σ) := by
  unfold F_X4_rankOf rkS
  rw [show (37 : Int32) = nI 37 from rfl, show (38 : Int32) = nI 38 from rfl, show (42 : Int32) = nI 42 from rfl, show (43 : Int32) = nI 43 from rfl, show (45 : Int32) = nI 45 from rfl, show (47 : Int32) = nI 47 from rfl, show (60 : Int32) = nI 60 from rfl, show (61 : Int32) = nI 61 from rfl, show (62 : Int32) = nI 62 from rfl, show (124 : Int32) = nI 124 from rfl]
  rw [h.i (show 37 < 128 by decide), h.i (show 38 < 128 by decide), h.i (show 42 < 128 by decide), h.i (show 43 < 128 by decide), h.i (show 45 < 128 by decide), h.i (show 47 < 128 by decide), h.i (show 60 < 128 by decide), h.i (show 61 < 128 by decide), h.i (show 62 < 128 by decide), h.i (show 124 < 128 by decide)]
  simp only [iteS]
def nmi (s : Nat) : Nat := if s = 107 then 2 else if s = 108 then 3 else if s = 109 then 5 else if s = 115 then 1 else if s = 119 then 4 else 0
def nmC (i : Nat) : Nat := if i = 0 then 110 else if i = 1 then 115 else if i = 2 then 107 else if i = 3 then 108 else if i = 4 then 119 else 109
set_option maxRecDepth 100000 in
theorem nm_facts : ∀ s, s < 129 → (nmS s = 0 ∧ nmV s < 0) ∨ (nmS s = 1 ∧ nmV s = nI (nmi s) ∧ nmi s < 6 ∧ nmC (nmi s) = s ∧ s < 128 ∧ dgS s = 0) := by decide
theorem sy_lt (n : Nat) (B : Nat → Nat) (p : Nat) : sy n B p < 129 := by
  unfold sy
  split <;> omega
theorem sy_in {n : Nat} {B : Nat → Nat} {p : Nat} (h : sy n B p < 128) : p < n := by
  unfold sy at h
  split at h
  · omega
  · omega
def tC (t : Tk) : Int32 := if t.1 = 1 then nI t.2 else if t.1 = 2 then nI (10000 + nmC t.2) else if t.1 = 3 then nI 10033 else if t.1 = 4 then nI 10126 else nI (10000 + t.1)
def TTc (n : Nat) (B : Nat → Nat) (σ : Sx) : Prop := siI σ 2 0 = nI n ∧ ∀ j, j < n → siI σ 79 j = nI (B j)
def TTm (n : Nat) (B : Nat → Nat) (σ : Sx) : Prop := siI σ 103 16 = nI n ∧ ∀ j, j < n → siI σ 115 j = (nI (B j)).toInt8.toInt32
def SC (n : Nat) (B : Nat → Nat) (p : Nat) (D : List Int32) (σ : Sx) : Prop := TTc n B σ ∧ siI σ 2 2 = nI p ∧ siI σ 2 4 = nI D.length ∧ ∀ j, j < D.length → siI σ 80 j = D.getD j 0
def SM (n : Nat) (B : Nat → Nat) (p q : Nat) (L : List Tk) (σ : Sx) : Prop := TTm n B σ ∧ siI σ 103 17 = nI p ∧ siI σ 103 18 = -1 ∧ siI σ 103 19 = nI q ∧ siI σ 103 20 = nI L.length ∧ ∀ j, j < L.length → siI σ 116 (130 + j) = nI (L.getD j (0, 0)).1 ∧ siI σ 117 (130 + j) = nI (L.getD j (0, 0)).2
/-- at fault -/
def SF (n : Nat) (B : Nat → Nat) (p k : Nat) (σ : Sx) : Prop := TTm n B σ ∧ siI σ 103 17 = nI p ∧ siI σ 103 18 = nI p ∧ siI σ 103 20 = nI k
def rgPc (i j : Nat) : Prop := (i = 2 ∧ (j = 2 ∨ j = 4)) ∨ i = 80
def rgPm (i j : Nat) : Prop := (i = 103 ∧ 17 ≤ j ∧ j ≤ 20) ∨ (116 ≤ i ∧ i ≤ 117 ∧ 130 ≤ j)
theorem TTc.kp {n : Nat} {B : Nat → Nat} {σ σ2 : Sx} (h : TTc n B σ) (k : Kp rgPc σ σ2) : TTc n B σ2 := ⟨by rw [(k 2 0 (by unfold rgPc; omega)).1]; exact h.1, fun j hj => by rw [(k 79 j (by unfold rgPc; omega)).1]; exact h.2 j hj⟩
theorem TTm.kp {n : Nat} {B : Nat → Nat} {σ σ2 : Sx} (h : TTm n B σ) (k : Kp rgPm σ σ2) : TTm n B σ2 := ⟨by rw [(k 103 16 (by unfold rgPm; omega)).1]; exact h.1, fun j hj => by rw [(k 115 j (by unfold rgPm; omega)).1]; exact h.2 j hj⟩
theorem C_next {n : Nat} {B : Nat → Nat} {p : Nat} {σ : Sx} (hn : n ≤ 120) (h : TTc n B σ) (hp : siI σ 2 2 = nI p) (hpn : p ≤ n) : F_X4_next σ = some (chC n B p, σ) := by
  unfold F_X4_next chC
  rw [h.1, hp, ite_le (by omega) (by omega), show (120 : Int32) = nI 120 from rfl, ite_le (by decide) (by omega)]
  by_cases q : p < n
  · rw [if_neg (by omega), if_neg (by omega), aIx_k (by omega) (by decide), if_pos q, h.2 p q]
  · rw [if_pos (by omega), if_neg q]
theorem M_looks {n : Nat} {B : Nat → Nat} {p : Nat} {σ : Sx} (hn : n ≤ 120) (h : TTm n B σ) (hp : siI σ 103 17 = nI p) (hpn : p ≤ n) : F_X10_looksOn σ = some (chM n B p, σ) := by
  unfold F_X10_looksOn chM
  rw [h.1, hp, ite_le (by omega) (by omega)]
  by_cases q : p < n
  · rw [if_neg (by omega), aIx_k (by omega) (by decide), if_pos q, h.2 p q]
  · rw [if_pos (by omega), if_neg q]
theorem getD_snoc2 {α : Type} {L : List α} {x d : α} {j : Nat} : (L ++ [x]).getD j d = if j = L.length then x else L.getD j d := by
  by_cases h : j = L.length
  · rw [if_pos h, h]
    simp [List.getD]
  · rw [if_neg h]
    rcases Nat.lt_or_ge j L.length with q | q
    · simp [List.getD, List.getElem?_append_left q]
    · simp [List.getD, List.getElem?_eq_none (show (L ++ [x]).length ≤ j by rw [List.length_append, List.length_singleton]; omega), List.getElem?_eq_none q]
theorem C_emit {n : Nat} {B : Nat → Nat} {p : Nat} {D : List Int32} {σ : Sx} (x : Int32) (h : SC n B p D σ) (hl : D.length < 121) : ∃ σ2, F_X4_emit x σ = some ((), σ2) ∧ Kp rgPc σ σ2 ∧ SC n B p (D ++ [x]) σ2 := by
  obtain ⟨h1, h2, h3, h4⟩ := h
  have hlen : (D ++ [x]).length = D.length + 1 := by rw [List.length_append, List.length_singleton]
  unfold F_X4_emit
  rw [h3, ofN, ite_le (by decide) (by omega), if_neg (by omega), sIx_k hl (by decide), uI_i (by decide), h3, nI_add1, pIx_s]
  have k : Kp rgPc σ (upI (upI σ 80 D.length x) 2 4 (nI (D.length + 1))) := (Kp.rf.I (by unfold rgPc; omega)).I (by unfold rgPc; omega)
  refine ⟨_, rfl, k, h1.kp k, ?_, by rw [uI_s, hlen], fun j hj => ?_⟩
  · rw [uI_j (by decide), uI_i (by decide)]
    exact h2
  · rw [uI_i (by decide), getD_snoc2]
    by_cases e : j = D.length
    · rw [if_pos e, e, uI_s]
    · rw [if_neg e, uI_j e]
      exact h4 j (by omega)
theorem C_at {n : Nat} {B : Nat → Nat} {p p2 : Nat} {D : List Int32} {σ : Sx} (h : SC n B p D σ) : SC n B p2 D (upI σ 2 2 (nI p2)) ∧ Kp rgPc σ (upI σ 2 2 (nI p2)) := by
  obtain ⟨h1, h2, h3, h4⟩ := h
  have k : Kp rgPc σ (upI σ 2 2 (nI p2)) := Kp.rf.I (by unfold rgPc; omega)
  refine ⟨⟨h1.kp k, uI_s, ?_, fun j hj => ?_⟩, k⟩
  · rw [uI_j (by decide)]
    exact h3
  · rw [uI_i (by decide)]
    exact h4 j hj
theorem M_add {n : Nat} {B : Nat → Nat} {p q : Nat} {L : List Tk} {σ : Sx} {c x : Nat} (h : SM n B p q L σ) (hc : c < 128) (hl : L.length < 130) : ∃ σ2, F_X10_addStep (nI c) (nI x) σ = some ((), σ2) ∧ Kp rgPm σ σ2 ∧ SM n B p q (L ++ [(c, x)]) σ2 := by
  obtain ⟨h1, h2, h3, h4, h5, h6⟩ := h
  have hlen : (L ++ [(c, x)]).length = L.length + 1 := by rw [List.length_append, List.length_singleton]
  unfold F_X10_addStep
  rw [h5, show (130 : Int32) = nI 130 from rfl, nI_add, sIx_k (by omega) (by decide), uI_i (by decide), h5, nI_add, sIx_k (by omega) (by decide), uI_i (by decide), uI_i (by decide), h5, nI_add1, pIx_s, nar_bb, t8 c hc]
  have k : Kp rgPm σ (upI (upI (upI σ 116 (130 + L.length) (nI c)) 117 (130 + L.length) (nI x)) 103 20 (nI (L.length + 1))) := ((Kp.rf.I (by unfold rgPm; omega)).I (by unfold rgPm; omega)).I (by unfold rgPm; omega)
  refine ⟨_, rfl, k, h1.kp k, ?_, ?_, ?_, by rw [uI_s, hlen], fun j hj => ?_⟩
  · rw [uI_j (by decide), uI_i (by decide), uI_i (by decide)]
    exact h2
  · rw [uI_j (by decide), uI_i (by decide), uI_i (by decide)]
    exact h3
  · rw [uI_j (by decide), uI_i (by decide), uI_i (by decide)]
    exact h4
  · rw [getD_snoc2, uI_i (i := 103) (a := 116) (by decide), uI_i (i := 117) (a := 116) (by decide), uI_i (i := 103) (a := 117) (by decide)]
    by_cases e : j = L.length
    · rw [if_pos e, e, uI_s, uI_s]
      exact ⟨rfl, rfl⟩
    · rw [if_neg e, uI_j (by omega), uI_j (by omega), uI_i (i := 116) (a := 117) (by decide)]
      exact h6 j (by omega)
theorem M_addF {n : Nat} {B : Nat → Nat} {p k : Nat} {σ : Sx} (x y : Int32) (h : SF n B p k σ) (hk : k < 130) : ∃ σ2, F_X10_addStep x y σ = some ((), σ2) ∧ Kp rgPm σ σ2 ∧ SF n B p (k + 1) σ2 := by
  obtain ⟨h1, h2, h3, h4⟩ := h
  unfold F_X10_addStep
  rw [h4, show (130 : Int32) = nI 130 from rfl, nI_add, sIx_k (by omega) (by decide), uI_i (by decide), h4, nI_add, sIx_k (by omega) (by decide), uI_i (by decide), uI_i (by decide), h4, nI_add1, pIx_s]
  have kk : Kp rgPm σ (upI (upI (upI σ 116 (130 + k) (vp_nar .byte x.toInt8.toInt32)) 117 (130 + k) y) 103 20 (nI (k + 1))) := ((Kp.rf.I (by unfold rgPm; omega)).I (by unfold rgPm; omega)).I (by unfold rgPm; omega)
  refine ⟨_, rfl, kk, h1.kp kk, ?_, ?_, uI_s⟩
  · rw [uI_j (by decide), uI_i (by decide), uI_i (by decide)]
    exact h2
  · rw [uI_j (by decide), uI_i (by decide), uI_i (by decide)]
    exact h3
theorem M_at {n : Nat} {B : Nat → Nat} {p p2 q : Nat} {L : List Tk} {σ : Sx} (h : SM n B p q L σ) : SM n B p2 q L (upI σ 103 17 (nI p2)) ∧ Kp rgPm σ (upI σ 103 17 (nI p2)) := by
  obtain ⟨h1, h2, h3, h4, h5, h6⟩ := h
  have k : Kp rgPm σ (upI σ 103 17 (nI p2)) := Kp.rf.I (by unfold rgPm; omega)
  refine ⟨⟨h1.kp k, uI_s, ?_, ?_, ?_, fun j hj => ?_⟩, k⟩
  · rw [uI_j (by decide)]
    exact h3
  · rw [uI_j (by decide)]
    exact h4
  · rw [uI_j (by decide)]
    exact h5
  · rw [uI_i (by decide), uI_i (by decide)]
    exact h6 j hj
theorem M_fault {n : Nat} {B : Nat → Nat} {p q : Nat} {L : List Tk} {σ : Sx} (h : SM n B p q L σ) : ∃ σ2, F_X10_faulty σ = some ((), σ2) ∧ Kp rgPm σ σ2 ∧ SF n B p L.length σ2 := by
  obtain ⟨h1, h2, h3, h4, h5, h6⟩ := h
  have k : Kp rgPm σ (upI σ 103 18 (nI p)) := Kp.rf.I (by unfold rgPm; omega)
  refine ⟨upI σ 103 18 (nI p), ?_, k, h1.kp k, ?_, uI_s, ?_⟩
  · unfold F_X10_faulty
    rw [h3, if_neg (by decide), h2, pIx_s]
  · rw [uI_j (by decide)]
    exact h2
  · rw [uI_j (by decide)]
    exact h5
