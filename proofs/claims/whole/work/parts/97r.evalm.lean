/-! THE LAW IN FORCE: what the reference works out -/
def jW (σ1 : Sx) : Option (Int32 × Sx) := aIx 122 130 (0 : Int32) σ1 (fun v2 => some (v2, σ1))
abbrev gM (N st : Nat) : (Int32 → Int32 → Sx → Option (Int32 × Sx)) → Int32 → Int32 → Sx → Option (Int32 × Sx) := B_X10_worked_L12 N (0 : Int32) (nI st) jW
def tAt (σ : Sx) (q : Nat) (E : List Tk) : Prop := ∀ j, j < E.length → siI σ 116 (q + j) = nI (E.getD j (0, 0)).1 ∧ siI σ 117 (q + j) = nI (E.getD j (0, 0)).2
theorem tAt.app {σ : Sx} {q : Nat} {D K : List Tk} (h : tAt σ q (D ++ K)) : tAt σ q D ∧ tAt σ (q + D.length) K := by
  refine ⟨fun j hj => ?_, fun j hj => ?_⟩
  · have := h j (by rw [List.length_append]; omega)
    rw [getD_app, if_pos hj] at this
    exact this
  · have := h (D.length + j) (by rw [List.length_append]; omega)
    rw [getD_app, if_neg (by omega), Nat.add_sub_cancel_left, ← Nat.add_assoc] at this
    exact this
theorem tAt.one {σ : Sx} {q : Nat} {c : Tk} (h : tAt σ q [c]) : siI σ 116 q = nI c.1 ∧ siI σ 117 q = nI c.2 := h 0 (Nat.lt_succ_self 0)
def rgV (i _j : Nat) : Prop := i = 122
theorem tAt.of {σ σ2 : Sx} {q : Nat} {D : List Tk} (h : tAt σ q D) (k : Kp rgV σ σ2) : tAt σ2 q D := fun j hj => by
  rw [(k 116 _ (by unfold rgV; omega)).1, (k 117 _ (by unfold rgV; omega)).1]
  exact h j hj
def fct (e : Nat → Int32) (σ : Sx) : Prop := ∀ i, i < 6 → siI σ 121 i = e i
theorem fct.of {e : Nat → Int32} {σ σ2 : Sx} (h : fct e σ) (k : Kp rgV σ σ2) : fct e σ2 := fun i hi => by
  rw [(k 121 _ (by unfold rgV; omega)).1]
  exact h i hi
theorem z130 (st : Nat) : (130 : Int32) * (0 : Int32) + nI st = nI st := by
  rw [show (130 : Int32) * (0 : Int32) = nI 0 from rfl, nI_add, Nat.zero_add]
theorem z61 (st : Nat) : (61 : Int32) * (0 : Int32) + nI st = nI st := by
  rw [show (61 : Int32) * (0 : Int32) = nI 0 from rfl, nI_add, Nat.zero_add]
theorem gM_num {N st q h x : Nat} {r : Int32 → Int32 → Sx → Option (Int32 × Sx)} {σ : Sx} (hst : st ≤ 130) (hq : q < st) (hh : h < 130) (t : tAt σ q [(1, x)]) : gM N st r (nI h) (nI q) σ = r (nI (h + 1)) (nI (q + 1)) (upI σ 122 h (nI x)) := by
  obtain ⟨t1, t2⟩ := t.one
  dsimp only at t1 t2
  unfold gM B_X10_worked_L12
  rw [z130, ite_le (by omega) (by omega), if_neg (by omega), aIx_k (by omega) (by decide), t1, nmx_s, nmx_s, if_pos (show nI 1 = (1 : Int32) from rfl)]
  dsimp only
  rw [nmx_s, if_pos (show nI 1 = (1 : Int32) from rfl), aIx_k (by omega) (by decide), t2]
  dsimp only
  rw [sIx_k (by omega) (by decide), nI_add1, nI_add1]
theorem gM_nam {N st q h i : Nat} {e : Nat → Int32} {r : Int32 → Int32 → Sx → Option (Int32 × Sx)} {σ : Sx} (hst : st ≤ 130) (hq : q < st) (hh : h < 130) (hi : i < 6) (t : tAt σ q [(2, i)]) (f : fct e σ) : gM N st r (nI h) (nI q) σ = r (nI (h + 1)) (nI (q + 1)) (upI σ 122 h (e i)) := by
  obtain ⟨t1, t2⟩ := t.one
  dsimp only at t1 t2
  unfold gM B_X10_worked_L12
  rw [z130, ite_le (by omega) (by omega), if_neg (by omega), aIx_k (by omega) (by decide), t1, nmx_s, nmx_s, if_neg (show ¬ nI 2 = (1 : Int32) by decide), if_pos (show nI 2 = (2 : Int32) from rfl)]
  dsimp only
  rw [nmx_s, if_neg (show ¬ nI 2 = (1 : Int32) by decide), aIx_k (by omega) (by decide), t2, aIx_k hi (by decide), f i hi]
  dsimp only
  rw [sIx_k (by omega) (by decide), nI_add1, nI_add1]
theorem gM_no {N st q h : Nat} {r : Int32 → Int32 → Sx → Option (Int32 × Sx)} {σ : Sx} (hst : st ≤ 130) (hq : q < st) (hh : h < 130) (t : tAt σ q [(3, 0)]) : gM N st r (nI (h + 1)) (nI q) σ = r (nI (h + 1)) (nI (q + 1)) (upI σ 122 h (if siI σ 122 h = 0 then 1 else 0)) := by
  obtain ⟨t1, t2⟩ := t.one
  dsimp only at t1 t2
  unfold gM B_X10_worked_L12
  rw [z130, ite_le (by omega) (by omega), if_neg (by omega), aIx_k (by omega) (by decide), t1, nmx_s, nmx_s, if_neg (show ¬ nI 3 = (1 : Int32) by decide), if_neg (show ¬ nI 3 = (2 : Int32) by decide), if_pos (show nI 3 = (3 : Int32) from rfl), nI_sub1, aIx_k hh (by decide), nmx_s]
  by_cases c : siI σ 122 h = 0
  · rw [if_pos c, if_pos c]
    dsimp only
    rw [sIx_k hh (by decide), nI_add1]
  · rw [if_neg c, if_neg c]
    dsimp only
    rw [sIx_k hh (by decide), nI_add1]
theorem gM_neg {N st q h : Nat} {r : Int32 → Int32 → Sx → Option (Int32 × Sx)} {σ : Sx} (hst : st ≤ 130) (hq : q < st) (hh : h < 130) (t : tAt σ q [(4, 0)]) : gM N st r (nI (h + 1)) (nI q) σ = r (nI (h + 1)) (nI (q + 1)) (upI σ 122 h (-(siI σ 122 h))) := by
  obtain ⟨t1, t2⟩ := t.one
  dsimp only at t1 t2
  unfold gM B_X10_worked_L12
  rw [z130, ite_le (by omega) (by omega), if_neg (by omega), aIx_k (by omega) (by decide), t1, nmx_s, nmx_s, if_neg (show ¬ nI 4 = (1 : Int32) by decide), if_neg (show ¬ nI 4 = (2 : Int32) by decide), if_neg (show ¬ nI 4 = (3 : Int32) by decide), if_pos (show nI 4 = (4 : Int32) from rfl), nI_sub1, aIx_k hh (by decide), sIx_k hh (by decide), nI_add1]
theorem div_m1 (a : Int32) : a / (-1 : Int32) = -a := by
  apply Int32.toInt_inj.mp
  have : (-1 : Int32).toInt = -1 := rfl
  rw [Int32.toInt_div, this, Int.tdiv_neg, Int.tdiv_one, Int32.toInt_neg]
theorem rem_m1 (a : Int32) : jrem a (-1 : Int32) = 0 := by
  unfold jrem
  rw [div_m1]
  have : -a * (-1 : Int32) = a := by
    rw [Int32.neg_mul, Int32.mul_neg, Int32.mul_one, Int32.neg_neg]
  rw [this, Int32.sub_self]
theorem M_two {o : Nat} (ho : isOp o) (a b : Int32) (σ : Sx) : F_X10_twoOf (nI o) a b σ = some (opV o a b, σ) := by
  have m1 : ¬ (-1 : Int32) = 0 := by decide
  unfold F_X10_twoOf opV
  rcases ho with rfl | rfl | rfl | rfl | rfl | rfl | rfl | rfl | rfl | rfl
  · by_cases hb : b = 0
    · simp [nmx_s, hb, show nI 37 = (37 : Int32) from rfl]
    · by_cases hb1 : b = -1
      · subst hb1
        simp [nmx_s, rem_m1, show nI 37 = (37 : Int32) from rfl]
      · simp [nmx_s, hb, hb1, gdx, show nI 37 = (37 : Int32) from rfl]
  · simp only [nmx_s, show nI 38 = (38 : Int32) from rfl, iteS]
    rfl
  · simp only [nmx_s, show nI 42 = (42 : Int32) from rfl, iteS]
    rfl
  · simp only [nmx_s, show nI 43 = (43 : Int32) from rfl, iteS]
    rfl
  · simp only [nmx_s, show nI 45 = (45 : Int32) from rfl, iteS]
    rfl
  · have e : ∀ {α : Type} (A : α) (C : α), (if nI 47 = (47 : Int32) then A else C) = A := fun A C => if_pos rfl
    by_cases hb : b = 0
    · simp [nmx_s, hb, show nI 47 = (47 : Int32) from rfl]
    · by_cases hb1 : b = -1
      · subst hb1
        simp [nmx_s, div_m1, show nI 47 = (47 : Int32) from rfl]
      · simp [nmx_s, hb, hb1, gdx, show nI 47 = (47 : Int32) from rfl]
  · simp only [nmx_s, show nI 60 = (60 : Int32) from rfl, iteS]
    rfl
  · simp only [nmx_s, show nI 61 = (61 : Int32) from rfl, iteS]
    rfl
  · simp only [nmx_s, show nI 62 = (62 : Int32) from rfl, iteS]
    rfl
  · simp only [nmx_s, show nI 124 = (124 : Int32) from rfl, iteS]
    rfl
theorem gM_op {N st q h o : Nat} {r : Int32 → Int32 → Sx → Option (Int32 × Sx)} {σ : Sx} (hst : st ≤ 130) (hq : q < st) (hh : h + 1 < 130) (ho : isOp o) (t : tAt σ q [(o, 0)]) : gM N st r (nI (h + 2)) (nI q) σ = r (nI (h + 1)) (nI (q + 1)) (upI σ 122 h (opV o (siI σ 122 h) (siI σ 122 (h + 1)))) := by
  obtain ⟨t1, t2⟩ := t.one
  have key : ¬ nI o = (1 : Int32) ∧ ¬ nI o = (2 : Int32) ∧ ¬ nI o = (3 : Int32) ∧ ¬ nI o = (4 : Int32) := by
    rcases ho with rfl | rfl | rfl | rfl | rfl | rfl | rfl | rfl | rfl | rfl
    all_goals decide
  obtain ⟨n1, n2, n3, n4⟩ := key
  have em : nI (h + 2) + (-1 : Int32) = nI (h + 1) := by
    rw [← Int32.sub_eq_add_neg]
    exact nI_sub1 (h + 1)
  have t1' : siI σ 116 q = nI o := t1
  unfold gM B_X10_worked_L12
  rw [z130, ite_le (by omega) (by omega), if_neg (by omega), aIx_k (by omega) (by decide), t1', nmx_s, nmx_s, if_neg n1, if_neg n2, if_neg n3, if_neg n4, em, nI_sub1, aIx_k (by omega) (by decide), aIx_k hh (by decide), M_two ho, clx_s, sIx_k (by omega) (by decide), nI_add1]
def evM (N st q h Nm len : Nat) (x : Int32) (σ : Sx) : Prop := ∃ σ', lpx2 (gM N st) (Nm + len) (nI h) (nI q) σ = lpx2 (gM N st) Nm (nI (h + 1)) (nI (q + len)) σ' ∧ Kp rgV σ σ' ∧ siI σ' 122 h = x ∧ ∀ j, j < h → siI σ' 122 j = siI σ 122 j
theorem up122 {σ : Sx} (h : Nat) (x : Int32) : Kp rgV σ (upI σ 122 h x) ∧ siI (upI σ 122 h x) 122 h = x ∧ ∀ j, j < h → siI (upI σ 122 h x) 122 j = siI σ 122 j := ⟨Kp.rf.I rfl, uI_s, fun j hj => uI_j (by omega)⟩
theorem ME {N : Nat} {e : Nat → Int32} {E : List Tk} {v : (Nat → Int32) → Int32} (hE : Ex E v) : E ≠ [] ∧ ∀ (q h st Nm : Nat) (σ : Sx), st ≤ 130 → fct e σ → tAt σ q E → q + E.length ≤ st → h + E.length ≤ 130 → evM N st q h Nm E.length (v e) σ := by
  refine hE (fun E v => E ≠ [] ∧ ∀ (q h st Nm : Nat) (σ : Sx), st ≤ 130 → fct e σ → tAt σ q E → q + E.length ≤ st → h + E.length ≤ 130 → evM N st q h Nm E.length (v e) σ) ?_ ?_ ?_ ?_ ?_
  · intro x hx
    refine ⟨by simp, fun q h st Nm σ hst hf ht hq hh => ?_⟩
    rw [List.length_singleton] at hq hh
    obtain ⟨u1, u2, u3⟩ := up122 (σ := σ) h (nI x)
    exact ⟨_, by rw [List.length_singleton, lpx2_s, gM_num hst (by omega) (by omega) ht], u1, u2, u3⟩
  · intro i hi
    refine ⟨by simp, fun q h st Nm σ hst hf ht hq hh => ?_⟩
    rw [List.length_singleton] at hq hh
    obtain ⟨u1, u2, u3⟩ := up122 (σ := σ) h (e i)
    exact ⟨_, by rw [List.length_singleton, lpx2_s, gM_nam hst (by omega) (by omega) hi ht hf], u1, u2, u3⟩
  · intro E v ih
    refine ⟨by simp, fun q h st Nm σ hst hf ht hq hh => ?_⟩
    rw [List.length_append, List.length_singleton] at hq hh
    obtain ⟨k1, k2⟩ := ht.app
    obtain ⟨σ1, b1, b2, b3, b4⟩ := ih.2 q h st (Nm + 1) σ hst hf k1 (by omega) (by omega)
    obtain ⟨u1, u2, u3⟩ := up122 (σ := σ1) h (if siI σ1 122 h = 0 then 1 else 0)
    refine ⟨_, ?_, b2.tr u1, ?_, fun j hj => ?_⟩
    · rw [List.length_append, List.length_singleton, show Nm + (E.length + 1) = (Nm + 1) + E.length by omega, b1, lpx2_s, gM_no hst (by omega) (by omega) (k2.of b2), Nat.add_assoc]
    · rw [u2, b3]
    · rw [u3 j hj, b4 j hj]
  · intro E v ih
    refine ⟨by simp, fun q h st Nm σ hst hf ht hq hh => ?_⟩
    rw [List.length_append, List.length_singleton] at hq hh
    obtain ⟨k1, k2⟩ := ht.app
    obtain ⟨σ1, b1, b2, b3, b4⟩ := ih.2 q h st (Nm + 1) σ hst hf k1 (by omega) (by omega)
    obtain ⟨u1, u2, u3⟩ := up122 (σ := σ1) h (-(siI σ1 122 h))
    refine ⟨_, ?_, b2.tr u1, ?_, fun j hj => ?_⟩
    · rw [List.length_append, List.length_singleton, show Nm + (E.length + 1) = (Nm + 1) + E.length by omega, b1, lpx2_s, gM_neg hst (by omega) (by omega) (k2.of b2), Nat.add_assoc]
    · rw [u2, b3]
    · rw [u3 j hj, b4 j hj]
  · intro o E1 v1 E2 v2 ho i1 i2
    refine ⟨by simp, fun q h st Nm σ hst hf ht hq hh => ?_⟩
    have l1 : 0 < E1.length := List.length_pos_iff.mpr i1.1
    rw [List.length_append, List.length_append, List.length_singleton] at hq hh
    obtain ⟨k12, k3⟩ := ht.app
    obtain ⟨k1, k2⟩ := k12.app
    rw [List.length_append] at k3
    obtain ⟨σ1, b1, b2, b3, b4⟩ := i1.2 q h st ((Nm + 1) + E2.length) σ hst hf k1 (by omega) (by omega)
    obtain ⟨σ2, d1, d2, d3, d4⟩ := i2.2 (q + E1.length) (h + 1) st (Nm + 1) σ1 hst (hf.of b2) (k2.of b2) (by omega) (by omega)
    obtain ⟨u1, u2, u3⟩ := up122 (σ := σ2) h (opV o (siI σ2 122 h) (siI σ2 122 (h + 1)))
    have k3' := (k3.of b2).of d2
    rw [show q + (E1.length + E2.length) = q + E1.length + E2.length by omega] at k3'
    refine ⟨_, ?_, (b2.tr d2).tr u1, ?_, fun j hj => ?_⟩
    · rw [List.length_append, List.length_append, List.length_singleton, show Nm + (E1.length + E2.length + 1) = ((Nm + 1) + E2.length) + E1.length by omega, b1, d1, lpx2_s, show h + 1 + 1 = h + 2 from rfl, gM_op hst (by omega) (by omega) ho k3']
      rw [show q + E1.length + E2.length + 1 = q + (E1.length + E2.length + 1) by omega]
    · rw [u2, d3, d4 h (by omega), b3]
    · rw [u3 j hj, d4 j (by omega), b4 j hj]
theorem M_worked {N : Nat} {e : Nat → Int32} {E : List Tk} {v : (Nat → Int32) → Int32} {σ : Sx} (hN : 130 < N) (hE : Ex E v) {a : Nat} (hf : fct e σ) (ht : tAt σ a E) (ha : a + E.length ≤ 130) : ∃ σ', F_X10_worked N (0 : Int32) (nI a) (nI (a + E.length)) σ = some (v e, σ') ∧ Kp rgV σ σ' := by
  obtain ⟨N', hN'⟩ : ∃ x, N = x + 1 + E.length := ⟨N - 1 - E.length, by omega⟩
  obtain ⟨σ1, b1, b2, b3, -⟩ := (ME (N := N) (e := e) hE).2 a 0 (a + E.length) (N' + 1) σ ha hf ht (Nat.le_refl _) (by omega)
  refine ⟨σ1, ?_, b2⟩
  have eN : F_X10_worked N (0 : Int32) (nI a) (nI (a + E.length)) σ = lpx2 (gM N (a + E.length)) (N' + 1 + E.length) (nI 0) (nI a) σ := by
    rw [← hN']
    unfold F_X10_worked
    rw [nmx_s, nmx_s, z130]
    rfl
  rw [eN, b1, lpx2_s]
  unfold gM B_X10_worked_L12
  rw [z130, if_pos (nI_le (Nat.le_refl _) (by omega)), jW, aIx_0 (by decide) (by decide), b3]
def jG (N : Nat) (x1 : Int32) (σ1 : Sx) : Option (Int32 × Sx) := aIx 119 122 x1 σ1 (fun v2 => aIx 120 122 x1 σ1 (fun v3 => clx (F_X10_worked N (0 : Int32) v2 v3 σ1) (fun v4 σ2 => some (v4, σ2))))
theorem cM.kp {Ls : List Ln} {σ σ2 : Sx} (h : cM Ls σ) (k : Kp rgV σ σ2) : cM Ls σ2 := by
  refine ⟨?_, fun j hj => ?_, h.2.2.of (fun i hi => ⟨(k 119 _ (by unfold rgV; omega)).1, (k 120 _ (by unfold rgV; omega)).1⟩)⟩
  · rw [(k 118 0 (by unfold rgV; omega)).1]
    exact h.1
  · rw [(k 116 j (by unfold rgV; omega)).1, (k 117 j (by unfold rgV; omega)).1]
    exact h.2.1 j hj
theorem ML {N : Nat} {e : Nat → Int32} {Ks : List Ln} (hN : 130 < N) (hsp : (spL Ks).length ≤ 120) (hl : Ks.length ≤ 60) : ∀ (Ls pre : List Ln) (M : Nat) (σ : Sx), Ks = pre ++ Ls → (∀ l, l ∈ Ls → okL l) → cM Ks σ → fct e σ → Ls.length < M → ∃ σ', lpx2 (B_X10_gives_L7 N (0 : Int32) (jG N)) M (nI (spL pre).length) (nI pre.length) σ = some (evL Ls e, σ') ∧ Kp rgV σ σ' := by
  intro Ls
  induction Ls with
  | nil =>
    intro pre M σ hpre hK hc hf hM
    obtain ⟨M, rfl⟩ : ∃ x, M = x + 1 := ⟨M - 1, by omega⟩
    rw [List.append_nil] at hpre
    subst hpre
    refine ⟨σ, ?_, Kp.rf⟩
    rw [lpx2_s, B_X10_gives_L7, aIx_0 (by decide) (by decide), hc.1, z61, if_pos (nI_le (Nat.le_refl _) (by omega))]
    rfl
  | cons l Ls ih =>
    intro pre M σ hpre hK hc hf hM
    obtain ⟨M, rfl⟩ : ∃ x, M = x + 1 := ⟨M - 1, by omega⟩
    rw [List.length_cons] at hM
    obtain ⟨o1, o2⟩ := hK l List.mem_cons_self
    have x2 := vlE_ok o2
    have hpl : pre.length < Ks.length := by
      rw [hpre, List.length_append, List.length_cons]
      omega
    have eg : Ks.getD pre.length ([], []) = l := by
      rw [hpre, getD_app, if_neg (Nat.lt_irrefl _), Nat.sub_self]
      rfl
    have et : Ks.take pre.length = pre := by
      rw [hpre, List.take_append_of_le_length (Nat.le_refl _), List.take_length]
    have hb := spL_take Ks hpl
    obtain ⟨m1, m2⟩ := hc.2.2 pre.length hpl
    rw [eg, et, Nat.zero_add] at m1 m2
    rw [eg, et] at hb
    have es : spL Ks = spL pre ++ (l.1 ++ (l.2 ++ spL Ls)) := by
      rw [hpre]
      unfold spL
      rw [List.flatMap_append, List.flatMap_cons, List.append_assoc]
    have tk : tAt σ 0 (spL Ks) := fun j hj => by
      rw [Nat.zero_add]
      exact hc.2.1 j hj
    rw [es] at tk
    obtain ⟨-, tk⟩ := tk.app
    obtain ⟨tk1, tk⟩ := tk.app
    obtain ⟨tk2, -⟩ := tk.app
    rw [Nat.zero_add] at tk1 tk2
    have value : ∀ σ2 : Sx, Kp rgV σ σ2 → ∃ σ', jG N (nI pre.length) σ2 = some (vlE l.2 e, σ') ∧ Kp rgV σ2 σ' := fun σ2 k => by
      obtain ⟨σ', w1, w2⟩ := M_worked (N := N) hN x2 (hf.of k) (tk2.of k) (by omega)
      refine ⟨σ', ?_, w2⟩
      unfold jG
      rw [aIx_k (by omega) (by decide), aIx_k (by omega) (by decide), (k 119 _ (by unfold rgV; omega)).1, (k 120 _ (by unfold rgV; omega)).1, m1, m2, ← Nat.add_assoc, w1, clx_s]
    have estep : lpx2 (B_X10_gives_L7 N (0 : Int32) (jG N)) (M + 1) (nI (spL pre).length) (nI pre.length) σ = (if l.1.length = 0 then jG N (nI pre.length) σ else clx (F_X10_worked N (0 : Int32) (nI (spL pre).length) (nI ((spL pre).length + l.1.length)) σ) (fun v8 σ4 => (if v8 = 0 then aIx 120 122 (nI pre.length) σ4 (fun v9 => lpx2 (B_X10_gives_L7 N (0 : Int32) (jG N)) M v9 (nI (pre.length + 1)) σ4) else jG N (nI pre.length) σ4))) := by
      rw [lpx2_s, B_X10_gives_L7, aIx_0 (by decide) (by decide), hc.1, z61, ite_le (by omega) (by omega), if_neg (by omega), aIx_k (by omega) (by decide), m1, ite_eq (by omega) (by omega), aIx_k (by omega) (by decide), m1, nI_add1]
      by_cases z : l.1.length = 0
      · rw [if_pos z, if_pos (by omega)]
      · rw [if_neg z, if_neg (by omega)]
    by_cases h1 : l.1 = []
    · obtain ⟨σ', g1, g2⟩ := value σ Kp.rf
      refine ⟨σ', ?_, g2⟩
      rw [estep, if_pos (by rw [h1]; rfl), g1, evL, if_pos h1]
    · have x1 := vlE_ok (o1.resolve_left h1)
      have l1 : 0 < l.1.length := List.length_pos_iff.mpr h1
      obtain ⟨σ1, w1, w2⟩ := M_worked (N := N) hN x1 hf tk1 (by omega)
      rw [estep, if_neg (by omega), w1, clx_s]
      by_cases hv : vlE l.1 e = 0
      · obtain ⟨σ', g1, g2⟩ := ih (pre ++ [l]) M σ1 (by rw [hpre, List.append_assoc]; rfl) (fun l2 q => hK l2 (List.mem_cons_of_mem _ q)) (hc.kp w2) (hf.of w2) (by omega)
        refine ⟨σ', ?_, w2.tr g2⟩
        rw [spL_snoc, List.length_append, List.length_append, List.length_append, List.length_singleton] at g1
        rw [if_pos hv, aIx_k (by omega) (by decide), (w2 120 _ (by unfold rgV; omega)).1, m2, g1, evL, if_neg h1, if_pos hv]
      · obtain ⟨σ', g1, g2⟩ := value σ1 w2
        refine ⟨σ', ?_, w2.tr g2⟩
        rw [if_neg hv, g1, evL, if_neg h1, if_neg hv]
theorem LM_of {N : Nat} {Ls : List Ln} {σ : Sx} (hN : 130 < N) (hK : ∀ l, l ∈ Ls → okL l) (hsp : (spL Ls).length ≤ 120) (hl : Ls.length ≤ 60) (h28 : siI σ 103 28 = 1) (h : cM Ls σ) : LM N (GL Ls) σ := fun σ1 q => by
  refine Or.inr ⟨by rw [q 103 28 (by unfold lmR; omega)]; exact h28, fun s k l w m hS e0 e1 e2 e3 e4 e5 => ?_⟩
  have hc : cM Ls σ1 := by
    refine ⟨?_, fun j hj => ?_, h.2.2.of (fun i hi => ⟨q 119 _ (by unfold lmR; omega), q 120 _ (by unfold lmR; omega)⟩)⟩
    · rw [q 118 0 (by unfold lmR; omega)]
      exact h.1
    · rw [q 116 j (by unfold lmR; omega), q 117 j (by unfold lmR; omega)]
      exact h.2.1 j hj
  have hf : fct (envL s k l w m) σ1 := fun i hi => by
    match i, hi with
    | 0, _ => exact e0
    | 1, _ => exact e1
    | 2, _ => exact e2
    | 3, _ => exact e3
    | 4, _ => exact e4
    | 5, _ => exact e5
  obtain ⟨σ', g1, g2⟩ := ML (N := N) hN hsp hl Ls [] N σ1 rfl hK hc hf (by omega)
  refine ⟨σ', ?_, g2⟩
  unfold F_X10_gives
  rw [nmx_s, nmx_s]
  exact g1
