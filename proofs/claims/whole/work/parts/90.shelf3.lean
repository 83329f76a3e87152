theorem row_num : ∀ t, t < 5 → ¬ ((-2 : Int32) - nI t = -1) ∧ (-2 : Int32) - nI t < 0 ∧ (-2 : Int32) - ((-2 : Int32) - nI t) = nI t ∧ ¬ nI t = (-1 : Int32) ∧ ¬ nI t = (5 : Int32) := by decide
theorem has1 {σ : Sx} {k z : Nat} (hz : z ≤ 60) (h : siI σ (10 + k) 1 = nI z) (a : Int32) : F_X6_hasPlaces k a 1 σ = some ((if a < 0 then 0 else if nI z ≤ a then 0 else 1), σ) := by
  unfold F_X6_hasPlaces
  rw [h]
  rcases arg_n a (n := z) (by omega) with ha | ⟨ha, ha2⟩ | ⟨j, hj, rfl⟩
  · simp [ha]
  · rw [if_neg ha, if_neg (show ¬ (1 : Int32) < 0 by decide), if_neg ha, if_pos ha2]
    by_cases h2 : nI z < a
    · rw [if_pos h2]
    · have : a = nI z := Int32.le_antisymm (Int32.not_lt.mp h2) ha2
      rw [if_neg h2, this, show nI z - nI z = nI 0 from by rw [pk_sub (Nat.le_refl _), Nat.sub_self], if_pos (by decide)]
  · have h1 : ¬ nI j < 0 := nI_pos (by omega)
    have h2 : ¬ nI z < nI j := nI_nlt (by omega) (by omega)
    have h3 : ¬ nI z ≤ nI j := nI_ge hj (by omega)
    have h4 : ¬ nI z - nI j < (1 : Int32) := by
      rw [pk_sub (by omega)]
      exact nI_nlt (show 1 ≤ z - j by omega) (by omega)
    rw [if_neg h1, if_neg (show ¬ (1 : Int32) < 0 by decide), if_neg h2, if_neg h4, if_neg h1, if_neg h3]
theorem refuse {σ : Sx} (a0 a1 : Int32) (h : RelS σ) : (∃ r, F_X9_elementRefusal a0 a1 σ = some (r, σ) ∧ F_X10_whyNoPlace a0 a1 σ = some (r, σ) ∧ ¬ r = 0 ∧ ¬ 0 ≤ r) ∨ (∃ k t z j : Nat, k < 6 ∧ t < 5 ∧ z ≤ 60 ∧ j < z ∧ a0 = nI k ∧ a1 = nI j ∧ F_X9_elementRefusal a0 a1 σ = some (0, σ) ∧ F_X10_whyNoPlace a0 a1 σ = some (0, σ) ∧ siI σ 135 k = (-2 : Int32) - nI t ∧ siI σ (10 + k) 0 = nI t ∧ siI σ (10 + k) 1 = nI z ∧ siI σ 136 k = nI z ∧ ∀ j, j < 60 → siL σ (16 + k) j = siL σ 137 (60 * k + j) ∧ okT t (siL σ 137 (60 * k + j))) := by
  obtain ⟨nb, hnb, h1, h2, h3, h4⟩ := h
  unfold F_X9_elementRefusal F_X10_whyNoPlace
  simp only [C_isShelf, M_isShelf, clx_s]
  rcases shelf_cases a0 with ⟨e0, -⟩ | ⟨k, hk, rfl, e1⟩
  · rw [e0]
    exact Or.inl ⟨-1, rfl, rfl, by decide, by decide⟩
  · rw [e1]
    simp only [if10, aRx_k hk (show 6 < 2 ^ 31 by decide), aIx_k hk (show 6 < 2 ^ 31 by decide)]
    rcases h4 k hk with ⟨g1, g2⟩ | ⟨b, g0, g1, g2, g3⟩ | ⟨t, z, g1, g2, g3, g4, g5, g6, g7⟩
    · refine Or.inl ⟨-11, ?_, ?_, by decide, by decide⟩
      · unfold F_X6_refusalOfRow
        rw [g2, if_pos rfl, clx_s, if_neg (by decide)]
      · rw [g1, if_pos rfl]
    · refine Or.inl ⟨-12, ?_, ?_, by decide, by decide⟩
      · unfold F_X6_refusalOfRow
        rw [g2, if_neg (by decide), if_pos rfl, clx_s, if_neg (by decide)]
      · have hb : ¬ nI b = (-1 : Int32) := fun e => nI_pos (n := b) (by omega) (by rw [e]; decide)
        rw [g1, if_neg hb, if_neg (nI_pos (by omega))]
    · obtain ⟨r1, r2, r3, r4, r5⟩ := row_num t g1
      have hC : F_X6_refusalOfRow k σ = some (0, σ) := by
        unfold F_X6_refusalOfRow
        rw [g4, if_neg r4, if_neg r5]
      rw [hC, clx_s, if00, has1 g2 g5, clx_s, g3, if_neg r1, if_pos r2, g6, M_in, clx_s]
      rcases arg_n a1 (n := z) (by omega) with ha | ⟨ha, ha2⟩ | ⟨j, hj, rfl⟩
      · refine Or.inl ⟨-13, ?_, ?_, by decide, by decide⟩
        · simp [ha]
        · simp [ha]
      · refine Or.inl ⟨-13, ?_, ?_, by decide, by decide⟩
        · simp [ha, ha2]
        · simp [ha, ha2, lt_pred (show z < 2 ^ 30 by omega)]
      · have q1 : ¬ nI j < 0 := nI_pos (by omega)
        have q3 : ¬ nI z ≤ nI j := nI_ge hj (by omega)
        refine Or.inr ⟨k, t, z, j, hk, g1, g2, hj, rfl, rfl, ?_, ?_, g3, g4, g5, g6, g7⟩
        · simp [q1, q3]
        · simp [q1, q3, lt_pred (show z < 2 ^ 30 by omega)]
theorem element_step {σ : Sx} (a0 a1 : Int32) (h : RelS σ) : StL RelS regS σ (F_X9_element a0 a1 σ) (fun σ1 => F_X10_element a0 a1 σ1) := by
  unfold StL F_X9_element F_X10_element
  rcases refuse a0 a1 h with ⟨r, e1, e2, e3, e4⟩ | ⟨k, t, z, j, hk, ht, hz, hj, rfl, rfl, e1, e2, g3, g4, g5, g6, g7⟩
  · exact ⟨-9223372036854775808, σ, σ, by rw [e1, clx_s, if_neg e3], by dsimp only; rw [e2, clx_s, if_neg e4], h, Kp.rf⟩
  · refine ⟨siL σ (16 + k) j, σ, σ, ?_, ?_, h, Kp.rf⟩
    · rw [e1, clx_s, if00, aRx_k hk (by decide), aLx_k (show j < 60 by omega) (by decide)]
    · dsimp only
      rw [e2, clx_s, if_pos (by decide), show (60 : Int32) = nI 60 from rfl, pk_mul, nI_add, aLx_k (show 60 * k + j < 360 by omega) (by decide), (g7 j (by omega)).1]
def trV (t : Nat) (v : Int64) : Int64 := if t = 0 then v.toInt32.toInt8.toInt32.toInt64 else if t = 1 then v.toInt32.toInt16.toInt32.toInt64 else if t = 2 then v.toInt32.toInt64 else if t = 3 then v else if lg_cmp v 0 = 0 then 0 else 1
theorem trV_ok (t : Nat) (v : Int64) : okT t (trV t v) := by
  refine ⟨fun h => ?_, fun h => ?_, fun h => ?_⟩
  · subst h
    simp [trV]
  · subst h
    simp [trV]
  · subst h
    simp [trV]
theorem C_trimmed {σ : Sx} {k t : Nat} (ht : t < 5) (h : siI σ (10 + k) 0 = nI t) (v : Int64) : F_X6_trimmed k v σ = some (trV t v, σ) := by
  unfold F_X6_trimmed
  simp only [nmx_s, h]
  match t, ht with
  | 0, _ => rfl
  | 1, _ => rfl
  | 2, _ => rfl
  | 3, _ => rfl
  | 4, _ =>
    by_cases hv : lg_cmp v 0 = 0
    · simp [trV, hv, nI]
    · simp [trV, hv, nI]
  | t + 5, h => exact absurd h (by omega)
theorem put_step {σ : Sx} (a0 a1 : Int32) (v : Int64) (h : RelS σ) : StI RelS regS σ (F_X9_put a0 a1 v σ) (fun σ1 => F_X10_put a0 a1 v σ1) := by
  obtain ⟨nb, hnb, h1, h2, h3, h4⟩ := id h
  unfold StI F_X9_put F_X10_put
  rcases refuse a0 a1 h with ⟨r, e1, e2, e3, e4⟩ | ⟨k, t, z, j, hk, ht, hz, hj, rfl, rfl, e1, e2, g3, g4, g5, g6, g7⟩
  · exact ⟨r, σ, σ, by rw [e1, clx_s, if_neg e3], by dsimp only; rw [e2, clx_s, if_neg e4], h, Kp.rf⟩
  · have hj60 : j < 60 := by omega
    refine ⟨1, upL σ (16 + k) j (trV t v), upL (upL σ (16 + k) j (trV t v)) 137 (60 * k + j) (trV t v), ?_, ?_, ?_, (Kp.rf.L ?_).L ?_⟩
    · rw [e1, clx_s, if00, aRx_k hk (by decide)]
      unfold F_X6_set
      rw [C_trimmed ht g4, clx_s, sLx_k hj60 (by decide), clx_s]
    · have e2' : F_X10_whyNoPlace (nI k) (nI j) (upL σ (16 + k) j (trV t v)) = some (0, upL σ (16 + k) j (trV t v)) := by
        unfold F_X10_whyNoPlace
        obtain ⟨r1, r2, r3, r4, r5⟩ := row_num t ht
        have q1 : ¬ nI j < 0 := nI_pos (by omega)
        have q3 : ¬ nI z ≤ nI j := nI_ge hj (by omega)
        have q4 : ¬ nI z - (1 : Int32) < nI j := fun q => q3 ((lt_pred (by omega) _).mp q)
        have s1 : ¬ nI k < 0 := nI_pos (by omega)
        have s2 : ¬ (6 : Int32) ≤ nI k := nI_ge hk (by decide)
        rw [M_isShelf, clx_s, if_neg s1, if_neg s2, if10, aIx_k hk (by decide), uL_I, g3, if_neg r1, aIx_k hk (by decide), uL_I, g3, if_pos r2, aIx_k hk (by decide), uL_I, g6, M_in, clx_s, if_neg q1, if_neg q4, if10]
      obtain ⟨r1, r2, r3, r4, r5⟩ := row_num t ht
      dsimp only
      rw [e2', clx_s, if_pos (by decide), aIx_k hk (by decide), uL_I, g3, r3]
      simp only [nmx_s]
      have hstore : ∀ y : Int64, sLx 137 360 ((60 : Int32) * nI k + nI j) y (upL σ (16 + k) j (trV t v)) (fun σ3 => some ((1 : Int32), σ3)) = some (1, upL (upL σ (16 + k) j (trV t v)) 137 (60 * k + j) y) := fun y => by
        rw [show (60 : Int32) = nI 60 from rfl, pk_mul, nI_add, sLx_k (show 60 * k + j < 360 by omega) (by decide)]
      simp only [hstore]
      rcases (show t = 0 ∨ t = 1 ∨ t = 2 ∨ t = 3 ∨ t = 4 by omega) with rfl | rfl | rfl | rfl | rfl
      · rw [if_pos (by decide)]
        rfl
      · rw [if_neg (by decide), if_pos (by decide)]
        rfl
      · rw [if_neg (by decide), if_neg (by decide), if_pos (by decide)]
        rfl
      · rw [if_neg (by decide), if_neg (by decide), if_neg (by decide), if_pos (by decide)]
        rfl
      · rw [if_neg (by decide), if_neg (by decide), if_neg (by decide), if_neg (by decide)]
        by_cases hv : lg_cmp v 0 = 0
        · rw [if_pos hv]
          simp [trV, hv]
        · rw [if_neg hv]
          simp [trV, hv]
    · refine RelS_shelf nb hk h h1 (by omega) (fun i j hij => rfl) (fun q hq hqk => ⟨rfl, rfl, fun _ => rfl, fun b => ?_, fun b hb => ?_⟩) (Or.inr (Or.inr ⟨t, z, ht, hz, g3, g4, g5, g6, fun b hb => ?_⟩))
      · rw [uL_i (by omega), uL_i (by omega)]
      · rw [uL_j (by omega), uL_i (by omega)]
      · by_cases hbj : b = j
        · subst hbj
          rw [uL_i (by omega), uL_s, uL_s]
          exact ⟨rfl, trV_ok t v⟩
        · rw [uL_i (by omega), uL_j hbj, uL_j (by omega), uL_i (by omega)]
          exact g7 b hb
    · exact Or.inr (Or.inr (Or.inl (by omega)))
    · exact Or.inr (Or.inr (Or.inr (Or.inr (Or.inr (by omega)))))
set_option maxRecDepth 100000 in
set_option maxHeartbeats 8000000 in
theorem under_eq (n : Nat) (σ : Sx) : ∀ q, q < 8 → ∀ k, k < 8 → ∃ r : Int32, F_X0_isUnder (n + 10) (nI q) (nI k) σ = some (r, σ) ∧ F_X10_isUnder (nI q) (nI k) σ = some (r, σ) := by
  intro q hq k hk
  match q, hq, k, hk with
  | 0, _, 0, _ => exact ⟨1, rfl, rfl⟩
  | 0, _, 1, _ => exact ⟨0, rfl, rfl⟩
  | 0, _, 2, _ => exact ⟨0, rfl, rfl⟩
  | 0, _, 3, _ => exact ⟨0, rfl, rfl⟩
  | 0, _, 4, _ => exact ⟨0, rfl, rfl⟩
  | 0, _, 5, _ => exact ⟨0, rfl, rfl⟩
  | 0, _, 6, _ => exact ⟨0, rfl, rfl⟩
  | 0, _, 7, _ => exact ⟨0, rfl, rfl⟩
  | 1, _, 0, _ => exact ⟨1, rfl, rfl⟩
  | 1, _, 1, _ => exact ⟨1, rfl, rfl⟩
  | 1, _, 2, _ => exact ⟨0, rfl, rfl⟩
  | 1, _, 3, _ => exact ⟨0, rfl, rfl⟩
  | 1, _, 4, _ => exact ⟨0, rfl, rfl⟩
  | 1, _, 5, _ => exact ⟨0, rfl, rfl⟩
  | 1, _, 6, _ => exact ⟨0, rfl, rfl⟩
  | 1, _, 7, _ => exact ⟨0, rfl, rfl⟩
  | 2, _, 0, _ => exact ⟨1, rfl, rfl⟩
  | 2, _, 1, _ => exact ⟨0, rfl, rfl⟩
  | 2, _, 2, _ => exact ⟨1, rfl, rfl⟩
  | 2, _, 3, _ => exact ⟨0, rfl, rfl⟩
  | 2, _, 4, _ => exact ⟨0, rfl, rfl⟩
  | 2, _, 5, _ => exact ⟨0, rfl, rfl⟩
  | 2, _, 6, _ => exact ⟨0, rfl, rfl⟩
  | 2, _, 7, _ => exact ⟨0, rfl, rfl⟩
  | 3, _, 0, _ => exact ⟨1, rfl, rfl⟩
  | 3, _, 1, _ => exact ⟨0, rfl, rfl⟩
  | 3, _, 2, _ => exact ⟨1, rfl, rfl⟩
  | 3, _, 3, _ => exact ⟨1, rfl, rfl⟩
  | 3, _, 4, _ => exact ⟨0, rfl, rfl⟩
  | 3, _, 5, _ => exact ⟨0, rfl, rfl⟩
  | 3, _, 6, _ => exact ⟨0, rfl, rfl⟩
  | 3, _, 7, _ => exact ⟨0, rfl, rfl⟩
  | 4, _, 0, _ => exact ⟨1, rfl, rfl⟩
  | 4, _, 1, _ => exact ⟨1, rfl, rfl⟩
  | 4, _, 2, _ => exact ⟨0, rfl, rfl⟩
  | 4, _, 3, _ => exact ⟨0, rfl, rfl⟩
  | 4, _, 4, _ => exact ⟨1, rfl, rfl⟩
  | 4, _, 5, _ => exact ⟨0, rfl, rfl⟩
  | 4, _, 6, _ => exact ⟨0, rfl, rfl⟩
  | 4, _, 7, _ => exact ⟨0, rfl, rfl⟩
  | 5, _, 0, _ => exact ⟨1, rfl, rfl⟩
  | 5, _, 1, _ => exact ⟨0, rfl, rfl⟩
  | 5, _, 2, _ => exact ⟨1, rfl, rfl⟩
  | 5, _, 3, _ => exact ⟨1, rfl, rfl⟩
  | 5, _, 4, _ => exact ⟨0, rfl, rfl⟩
  | 5, _, 5, _ => exact ⟨1, rfl, rfl⟩
  | 5, _, 6, _ => exact ⟨0, rfl, rfl⟩
  | 5, _, 7, _ => exact ⟨0, rfl, rfl⟩
  | 6, _, 0, _ => exact ⟨1, rfl, rfl⟩
  | 6, _, 1, _ => exact ⟨0, rfl, rfl⟩
  | 6, _, 2, _ => exact ⟨0, rfl, rfl⟩
  | 6, _, 3, _ => exact ⟨0, rfl, rfl⟩
  | 6, _, 4, _ => exact ⟨0, rfl, rfl⟩
  | 6, _, 5, _ => exact ⟨0, rfl, rfl⟩
  | 6, _, 6, _ => exact ⟨1, rfl, rfl⟩
  | 6, _, 7, _ => exact ⟨0, rfl, rfl⟩
  | 7, _, 0, _ => exact ⟨1, rfl, rfl⟩
  | 7, _, 1, _ => exact ⟨0, rfl, rfl⟩
  | 7, _, 2, _ => exact ⟨0, rfl, rfl⟩
  | 7, _, 3, _ => exact ⟨0, rfl, rfl⟩
  | 7, _, 4, _ => exact ⟨0, rfl, rfl⟩
  | 7, _, 5, _ => exact ⟨0, rfl, rfl⟩
  | 7, _, 6, _ => exact ⟨1, rfl, rfl⟩
  | 7, _, 7, _ => exact ⟨1, rfl, rfl⟩
  | q + 8, h, _, _ => exact absurd h (by omega)
  | _, _, k + 8, h => exact absurd h (by omega)
theorem taken_step {σ : Sx} {N : Nat} (hN : 60 < N) (a0 a1 : Int32) (h : RelS σ) : StI RelS regS σ (F_X9_taken N a0 a1 σ) (fun σ1 => F_X10_taken a0 a1 σ1) := by
  obtain ⟨nb, hnb, h1, h2, h3, h4⟩ := id h
  obtain ⟨n, rfl⟩ : ∃ n, N = n + 10 := ⟨N - 10, by omega⟩
  unfold StI F_X9_taken F_X10_taken
  simp only [C_isShelf, M_isShelf, clx_s, M_in]
  rcases shelf_cases a0 with ⟨e0, -⟩ | ⟨k, hk, rfl, e1⟩
  · rw [e0]
    exact ⟨-1, σ, σ, rfl, rfl, h, Kp.rf⟩
  · rw [e1]
    simp only [if10]
    rcases arg_n a1 (n := 8) (by decide) with ha | ⟨ha, ha2⟩ | ⟨u, hu, rfl⟩
    · exact ⟨-1, σ, σ, by rw [if_pos ha], by rw [if_pos ha, if00], h, Kp.rf⟩
    · have h8 : ¬ a1 < (8 : Int32) := by
        have : (8 : Int32) ≤ a1 := ha2
        rw [Int32.le_iff_toInt_le] at this
        rw [Int32.lt_iff_toInt_lt]
        omega
      have h7 : (7 : Int32) < a1 := by
        rw [Int32.lt_iff_toInt_lt] at h8 ⊢
        have e7 : (7 : Int32).toInt = 7 := rfl
        have e8 : (8 : Int32).toInt = 8 := rfl
        omega
      exact ⟨-1, σ, σ, by rw [if_neg ha, if_neg h8], by rw [if_neg ha, if_pos h7, if00], h, Kp.rf⟩
    · have f1 : ¬ nI u < 0 := nI_pos (by omega)
      have f2 : nI u < (8 : Int32) := nI_lt hu (by decide)
      have f3 : ¬ (7 : Int32) < nI u := nI_nlt (show u ≤ 7 by omega) (by decide)
      simp only [if_neg f1, if_pos f2, if_neg f3, if10, aRx_k hk (show 6 < 2 ^ 31 by decide), aIx_k hk (show 6 < 2 ^ 31 by decide)]
      rcases h4 k hk with ⟨g1, g2⟩ | ⟨b, g0, g1, g2, g3⟩ | ⟨t, z, g1, g2, g3, g4, g5, g6, g7⟩
      · exact ⟨-11, σ, σ, by rw [g2, if_pos rfl], by rw [g1, if_pos rfl], h, Kp.rf⟩
      · obtain ⟨q, hq, q1, q2⟩ := h3 b g0
        obtain ⟨r, r1, r2⟩ := under_eq n σ q hq u hu
        have hb : ¬ nI b = (-1 : Int32) := fun e => nI_pos (n := b) (by omega) (by rw [e]; decide)
        have hb2 : ¬ nI b < 0 := nI_pos (by omega)
        have hb50 : b < 50 := by omega
        by_cases hr : r = 0
        · refine ⟨-12, σ, σ, ?_, ?_, h, Kp.rf⟩
          · rw [g2, g3, q2, if_neg (by decide), if_pos rfl, r1, clx_s, if_pos hr]
          · rw [g1, if_neg hb, if_neg hb2, aIx_k hb50 (by decide), q2, r2, clx_s, if_pos hr]
        · refine ⟨nI q, σ, σ, ?_, ?_, h, Kp.rf⟩
          · rw [g2, g3, q2, if_neg (by decide), if_pos rfl, r1, clx_s, if_neg hr, g3, q2]
          · rw [g1, if_neg hb, if_neg hb2, aIx_k hb50 (by decide), q2, r2, clx_s, if_neg hr, g1, aIx_k hb50 (by decide), q2]
      · obtain ⟨r1, r2, r3, r4, r5⟩ := row_num t g1
        exact ⟨-12, σ, σ, by rw [g4, if_neg r4, if_neg r5], by rw [g3, if_neg r1, if_pos r2], h, Kp.rf⟩
