/-! THE LAW IN FORCE: what the class works out -/
noncomputable def vlE (E : List Tk) : (Nat → Int32) → Int32 := Classical.epsilon (fun v => Ex E v)
theorem vlE_ok {E : List Tk} (h : ∃ v, Ex E v) : Ex E (vlE E) := Classical.epsilon_spec h
noncomputable def evL : List Ln → (Nat → Int32) → Int32
  | [], _ => 0
  | l :: Ls, e => if l.1 = [] then vlE l.2 e else if vlE l.1 e = 0 then evL Ls e else vlE l.2 e
def kAt (σ : Sx) (q : Nat) (D : List Int32) : Prop := ∀ j, j < D.length → siI σ 81 (q + j) = D.getD j 0
theorem getD_app {α : Type} {L K : List α} {d : α} {j : Nat} : (L ++ K).getD j d = if j < L.length then L.getD j d else K.getD (j - L.length) d := by
  by_cases h : j < L.length
  · rw [if_pos h]
    simp [List.getD, List.getElem?_append_left h]
  · rw [if_neg h]
    simp [List.getD, List.getElem?_append_right (show L.length ≤ j by omega)]
theorem kAt.app {σ : Sx} {q : Nat} {D K : List Int32} (h : kAt σ q (D ++ K)) : kAt σ q D ∧ kAt σ (q + D.length) K := by
  refine ⟨fun j hj => ?_, fun j hj => ?_⟩
  · rw [h j (by rw [List.length_append]; omega), getD_app, if_pos hj]
  · have := h (D.length + j) (by rw [List.length_append]; omega)
    rw [getD_app, if_neg (by omega), Nat.add_sub_cancel_left, ← Nat.add_assoc] at this
    exact this
theorem kAt.one {σ : Sx} {q : Nat} {c : Int32} (h : kAt σ q [c]) : siI σ 81 q = c := h 0 (Nat.lt_succ_self 0)
theorem kAt.of {σ σ2 : Sx} {q : Nat} {D : List Int32} (h : kAt σ q D) (k : Kp rgG σ σ2) : kAt σ2 q D := fun j hj => by
  rw [(k 81 _ (by unfold rgG; omega)).1]
  exact h j hj
def jP (σ3 : Sx) : Option (Int32 × Sx) := clx (F_X4_pop σ3) (fun v2 σ4 => some (v2, σ4))
abbrev gC (N : Nat) (e : Nat → Int32) : (Int32 → Sx → Option (Int32 × Sx)) → Int32 → Sx → Option (Int32 × Sx) := B_X4_gives_L14 N (e 1) (e 2) (e 3) (e 4) (e 5) (e 0) jP
theorem pop_ok {σ : Sx} {h : Nat} (h8 : siI σ 2 8 = nI (h + 1)) (hh : h < 121) : ∃ σ', F_X4_pop σ = some (siI σ 82 h, σ') ∧ Kp rgG σ σ' ∧ siI σ' 2 8 = nI h ∧ ∀ j, siI σ' 82 j = siI σ 82 j := by
  refine ⟨upI σ 2 8 (nI h), ?_, Kp.rf.I (by unfold rgG; omega), uI_s, fun j => uI_i (by decide)⟩
  unfold F_X4_pop
  rw [h8, if_pos (show (0 : Int32) < nI (h + 1) from nI_lt (a := 0) (by omega) (by omega)), nI_sub1, pIx_s, uI_s, aIx_k hh (by decide), uI_i (by decide)]
theorem push_ok {σ : Sx} {h : Nat} (x : Int32) (h8 : siI σ 2 8 = nI h) (hh : h < 121) : ∃ σ', F_X4_push x σ = some ((), σ') ∧ Kp rgG σ σ' ∧ siI σ' 2 8 = nI (h + 1) ∧ siI σ' 82 h = x ∧ ∀ j, j < h → siI σ' 82 j = siI σ 82 j := by
  refine ⟨upI (upI σ 82 h x) 2 8 (nI (h + 1)), ?_, (Kp.rf.I (by unfold rgG; omega)).I (by unfold rgG; omega), uI_s, ?_, fun j hj => ?_⟩
  · unfold F_X4_push
    rw [h8, ofN, ite_le (by decide) (by omega), if_neg (by omega), sIx_k hh (by decide), uI_i (by decide), h8, nI_add1, pIx_s]
  · rw [uI_i (by decide), uI_s]
  · rw [uI_i (by decide), uI_j (by omega)]
theorem c_sub (c : Nat) : nI (10000 + c) - (10000 : Int32) = nI c := by
  rw [show (10000 : Int32) = nI 10000 from rfl, pk_sub (by omega), Nat.add_sub_cancel_left]
theorem gC_num {N : Nat} {e : Nat → Int32} {r : Int32 → Sx → Option (Int32 × Sx)} {q T x : Nat} {σ : Sx} (h6 : siI σ 2 6 = nI T) (hT : T ≤ 121) (hq : q < T) (hx : x < 10000) (h : siI σ 81 q = nI x) : gC N e r (nI q) σ = clx (F_X4_push (nI x) σ) (fun _ σ18 => r (nI (q + 1)) σ18) := by
  have t : (nI x - (10000 : Int32)).toInt = (x : Int) - 10000 := pk_sub_toInt (b := 10000) (by omega) (by decide)
  have n1 : ¬ nI x - (10000 : Int32) = (59 : Int32) := fun z => by
    rw [z] at t
    have : (59 : Int32).toInt = 59 := rfl
    omega
  have n2 : ¬ nI x - (10000 : Int32) = (63 : Int32) := fun z => by
    rw [z] at t
    have : (63 : Int32).toInt = 63 := rfl
    omega
  have n3 : ¬ 0 ≤ nI x - (10000 : Int32) := fun z => by
    rw [Int32.le_iff_toInt_le, t] at z
    have : (0 : Int32).toInt = 0 := rfl
    omega
  unfold gC B_X4_gives_L14
  rw [h6, ite_le (by omega) (by omega), if_neg (by omega), aIx_k (by omega) (by decide), h, nmx_s, if_neg n1, nmx_s, if_neg n2, if_neg n3, aIx_k (by omega) (by decide), h]
  simp only [nI_add1]
theorem gC_nam {N : Nat} {e : Nat → Int32} {r : Int32 → Sx → Option (Int32 × Sx)} {q T i : Nat} {σ : Sx} (h6 : siI σ 2 6 = nI T) (hT : T ≤ 121) (hq : q < T) (hi : i < 6) (h : siI σ 81 q = nI (10000 + nmC i)) : gC N e r (nI q) σ = clx (F_X4_push (e i) σ) (fun _ σ18 => r (nI (q + 1)) σ18) := by
  have key : ¬ nI (nmC i) = (59 : Int32) ∧ ¬ nI (nmC i) = (63 : Int32) ∧ 0 ≤ nI (nmC i) ∧ F_X4_isName (nI (nmC i)) σ = some ((1 : Int32), σ) ∧ F_X4_named (nI (nmC i)) (e 0) (e 1) (e 2) (e 3) (e 4) (e 5) σ = some (e i, σ) := by
    match i, hi with
    | 0, _ => exact ⟨by decide, by decide, by decide, rfl, rfl⟩
    | 1, _ => exact ⟨by decide, by decide, by decide, rfl, rfl⟩
    | 2, _ => exact ⟨by decide, by decide, by decide, rfl, rfl⟩
    | 3, _ => exact ⟨by decide, by decide, by decide, rfl, rfl⟩
    | 4, _ => exact ⟨by decide, by decide, by decide, rfl, rfl⟩
    | 5, _ => exact ⟨by decide, by decide, by decide, rfl, rfl⟩
  obtain ⟨n1, n2, n3, n4, n5⟩ := key
  unfold gC B_X4_gives_L14
  rw [h6, ite_le (by omega) (by omega), if_neg (by omega), aIx_k (by omega) (by decide), h, nmx_s, c_sub, if_neg n1, nmx_s, if_neg n2, if_pos n3, n4, clx_s, if10, n5, clx_s]
  simp only [nI_add1]
theorem gC_pre {N : Nat} {e : Nat → Int32} {r : Int32 → Sx → Option (Int32 × Sx)} {q T c : Nat} {σ : Sx} (h6 : siI σ 2 6 = nI T) (hT : T ≤ 121) (hq : q < T) (hc : c = 33 ∨ c = 126) (h : siI σ 81 q = nI (10000 + c)) : gC N e r (nI q) σ = clx (F_X4_pop σ) (fun v6 σ9 => clx (F_X4_prefixing (nI c) v6 σ9) (fun v7 σ10 => clx (F_X4_push v7 σ10) (fun _ σ11 => r (nI (q + 1)) σ11))) := by
  have key : ¬ nI c = (59 : Int32) ∧ ¬ nI c = (63 : Int32) ∧ 0 ≤ nI c ∧ F_X4_isName (nI c) σ = some ((0 : Int32), σ) ∧ (nI c = (33 : Int32) ∨ (¬ nI c = (33 : Int32) ∧ nI c = (126 : Int32))) := by
    rcases hc with rfl | rfl
    · exact ⟨by decide, by decide, by decide, rfl, by decide⟩
    · exact ⟨by decide, by decide, by decide, rfl, by decide⟩
  obtain ⟨n1, n2, n3, n4, n5⟩ := key
  unfold gC B_X4_gives_L14
  rw [h6, ite_le (by omega) (by omega), if_neg (by omega), aIx_k (by omega) (by decide), h, nmx_s, c_sub, if_neg n1, nmx_s, if_neg n2, if_pos n3, n4, clx_s, if_pos rfl, nmx_s]
  rcases n5 with n5 | ⟨n5, n6⟩
  · rw [if_pos n5]
    simp only [nI_add1]
  · rw [if_neg n5, if_pos n6]
    simp only [nI_add1]
theorem gC_op {N : Nat} {e : Nat → Int32} {r : Int32 → Sx → Option (Int32 × Sx)} {q T o : Nat} {σ : Sx} (h6 : siI σ 2 6 = nI T) (hT : T ≤ 121) (hq : q < T) (ho : isOp o) (h : siI σ 81 q = nI (10000 + o)) : gC N e r (nI q) σ = clx (F_X4_pop σ) (fun v8 σ12 => clx (F_X4_pop σ12) (fun v9 σ13 => clx (F_X4_joining (nI o) v9 v8 σ13) (fun v10 σ14 => clx (F_X4_push v10 σ14) (fun _ σ15 => r (nI (q + 1)) σ15)))) := by
  have key : ¬ nI o = (59 : Int32) ∧ ¬ nI o = (63 : Int32) ∧ 0 ≤ nI o ∧ F_X4_isName (nI o) σ = some ((0 : Int32), σ) ∧ ¬ nI o = (33 : Int32) ∧ ¬ nI o = (126 : Int32) := by
    rcases ho with rfl | rfl | rfl | rfl | rfl | rfl | rfl | rfl | rfl | rfl
    all_goals exact ⟨by decide, by decide, by decide, rfl, by decide, by decide⟩
  obtain ⟨n1, n2, n3, n4, n5, n6⟩ := key
  unfold gC B_X4_gives_L14
  rw [h6, ite_le (by omega) (by omega), if_neg (by omega), aIx_k (by omega) (by decide), h, nmx_s, c_sub, if_neg n1, nmx_s, if_neg n2, if_pos n3, n4, clx_s, if_pos rfl, nmx_s, if_neg n5, if_neg n6]
  simp only [nI_add1]
theorem gC_test {N : Nat} {e : Nat → Int32} {r : Int32 → Sx → Option (Int32 × Sx)} {q T : Nat} {σ : Sx} (h6 : siI σ 2 6 = nI T) (hT : T ≤ 121) (hq : q < T) (h : siI σ 81 q = nI 10063) : gC N e r (nI q) σ = clx (F_X4_pop σ) (fun v13 σ19 => (if v13 = 0 then clx (F_X4_endOfLine N (nI q) σ19) (fun v14 σ21 => r (v14 + (1 : Int32)) σ21) else r (nI (q + 1)) σ19)) := by
  unfold gC B_X4_gives_L14
  rw [h6, ite_le (by omega) (by omega), if_neg (by omega), aIx_k (by omega) (by decide), h, nmx_s, show nI 10063 - (10000 : Int32) = nI 63 from c_sub 63, if_neg (show ¬ nI 63 = (59 : Int32) by decide), nmx_s, if_pos (show nI 63 = (63 : Int32) from rfl)]
  simp only [nmx_s, nI_add1]
theorem gC_end {N : Nat} {e : Nat → Int32} {r : Int32 → Sx → Option (Int32 × Sx)} {q T : Nat} {σ : Sx} (h6 : siI σ 2 6 = nI T) (hT : T ≤ 121) (hq : q < T) (h : siI σ 81 q = nI 10059) : gC N e r (nI q) σ = jP σ := by
  unfold gC B_X4_gives_L14
  rw [h6, ite_le (by omega) (by omega), if_neg (by omega), aIx_k (by omega) (by decide), h, nmx_s, show nI 10059 - (10000 : Int32) = nI 59 from c_sub 59, if_pos (show nI 59 = (59 : Int32) from rfl)]
theorem gC_stop {N : Nat} {e : Nat → Int32} {r : Int32 → Sx → Option (Int32 × Sx)} {T : Nat} {σ : Sx} (h6 : siI σ 2 6 = nI T) (hT : T ≤ 121) : gC N e r (nI T) σ = some ((0 : Int32), σ) := by
  unfold gC B_X4_gives_L14
  rw [h6, if_pos (nI_le (Nat.le_refl _) (by omega))]
theorem C_join {o : Nat} (ho : isOp o) (a b : Int32) (σ : Sx) : F_X4_joining (nI o) a b σ = some (opV o a b, σ) := by
  have h128 : o < 128 := by
    unfold isOp at ho
    omega
  unfold F_X4_joining opV
  rw [show (38 : Int32) = nI 38 from rfl, show (42 : Int32) = nI 42 from rfl, show (43 : Int32) = nI 43 from rfl, show (45 : Int32) = nI 45 from rfl, show (47 : Int32) = nI 47 from rfl, show (60 : Int32) = nI 60 from rfl, show (61 : Int32) = nI 61 from rfl, show (62 : Int32) = nI 62 from rfl, show (124 : Int32) = nI 124 from rfl]
  rw [ite_eq (by omega) (by decide), ite_eq (by omega) (by decide), ite_eq (by omega) (by decide), ite_eq (by omega) (by decide), ite_eq (by omega) (by decide), ite_eq (by omega) (by decide), ite_eq (by omega) (by decide), ite_eq (by omega) (by decide), ite_eq (by omega) (by decide)]
  by_cases hb : b = 0
  · simp only [if_pos hb, iteS]
  · simp only [if_neg hb, gdx_s hb, iteS]
