theorem if10 {α : Type} {A B : α} : (if (1 : Int32) = 0 then A else B) = B := if_neg (by decide)
theorem if00 {α : Type} {A B : α} : (if (0 : Int32) = 0 then A else B) = A := if_pos rfl
theorem lt_pred {n : Nat} (h : n < 2 ^ 30) (x : Int32) : nI n - (1 : Int32) < x ↔ nI n ≤ x := by
  have e := pk_sub_toInt (a := n) (b := 1) (by omega) (by decide)
  have e2 : (nI n - (1 : Int32)).toInt = (n : Int) - 1 := e
  rw [Int32.lt_iff_toInt_lt, Int32.le_iff_toInt_le, e2, nI_toInt (by omega)]
  omega
theorem C_isThere {σ : Sx} {nb : Nat} (h1 : siI σ 8 0 = nI nb) (a : Int32) : F_X0_isThere a σ = some ((if a < 0 then 0 else if nI nb ≤ a then 0 else 1), σ) := by
  unfold F_X0_isThere
  rw [h1]
  by_cases h : a < 0
  · simp [h]
  · by_cases h2 : nI nb ≤ a <;> simp [h, h2]
theorem M_isBody {σ : Sx} {nb : Nat} (hn : nb < 2 ^ 30) (h1 : siI σ 103 49 = nI nb) (a : Int32) : F_X10_isBody a σ = some ((if a < 0 then 0 else if nI nb ≤ a then 0 else 1), σ) := by
  unfold F_X10_isBody
  rw [h1, M_in, clx_s]
  by_cases h : a < 0
  · simp [h, rZx_0]
  · by_cases h2 : nI nb ≤ a
    · simp [h, h2, lt_pred hn, rZx_0]
    · simp [h, h2, lt_pred hn, rZx_1]
theorem body_cases (a : Int32) {nb : Nat} (hn : nb < 2 ^ 30) : (if a < 0 then (0 : Int32) else if nI nb ≤ a then 0 else 1) = 0 ∨ ∃ b : Nat, b < nb ∧ a = nI b ∧ (if a < 0 then (0 : Int32) else if nI nb ≤ a then 0 else 1) = 1 := by
  rcases arg_n a (n := nb) (by omega) with h | ⟨h, h2⟩ | ⟨k, hk, rfl⟩
  · exact Or.inl (by simp [h])
  · exact Or.inl (by simp [h, h2])
  · refine Or.inr ⟨k, hk, rfl, ?_⟩
    have h1 : ¬ nI k < 0 := nI_pos (by omega)
    have h2 : ¬ nI nb ≤ nI k := nI_ge hk (by omega)
    simp [h1, h2]
theorem keep_step {σ : Sx} (a0 a1 : Int32) (h : RelS σ) : StI RelS regS σ (F_X9_keep a0 a1 σ) (fun σ1 => F_X10_keep a0 a1 σ1) := by
  obtain ⟨nb, hnb, h1, h2, h3, h4⟩ := id h
  unfold StI F_X9_keep F_X10_keep
  simp only [C_isShelf, M_isShelf, clx_s]
  rcases shelf_cases a0 with ⟨e0, -⟩ | ⟨k, hk, rfl, e1⟩
  · rw [e0]
    exact ⟨-1, σ, σ, rfl, rfl, h, Kp.rf⟩
  · rw [e1]
    simp only [if10, nmx_s]
    by_cases hm : a1 = -1
    · subst hm
      simp only [if_true, aRx_k hk (show 6 < 2 ^ 31 by decide), sIx_k hk (show 6 < 2 ^ 31 by decide), F_X6_clear, pIx_s, clx_s]
      refine ⟨1, _, _, rfl, rfl, ?_, ((Kp.rf.I ?_).I ?_).I ?_⟩
      · refine RelS_shelf nb hk h h1 (by omega) (fun i j hij => ?_) (fun q hq hqk => ⟨?_, ?_, fun j => ?_, fun j => rfl, fun j _ => rfl⟩) (Or.inl ⟨?_, ?_⟩)
        · rw [uI_i (by omega), uI_i (by omega), uI_i (by omega)]
        · rw [uI_j hqk, uI_i (by omega), uI_i (by omega)]
        · rw [uI_i (by omega), uI_i (by omega), uI_i (by omega)]
        · rw [uI_i (by omega), uI_i (by omega), uI_i (by omega)]
        · rw [uI_s]
        · rw [uI_i (by omega), uI_j (by decide), uI_s]
      · exact Or.inr (Or.inr (Or.inl (by omega)))
      · exact Or.inr (Or.inr (Or.inl (by omega)))
      · exact Or.inr (Or.inr (Or.inr (Or.inr (Or.inr (by omega)))))
    · rw [if_neg hm, C_isThere h1]
      rcases body_cases a1 (nb := nb) (by omega) with g0 | ⟨b, hb, rfl, g1⟩
      · refine ⟨-1, σ, σ, by rw [clx_s, g0, if00], ?_, h, Kp.rf⟩
        rw [if_neg hm, M_isBody (by omega) h2, clx_s, g0, if00]
      · obtain ⟨q, hq, q1, q2⟩ := h3 b hb
        have hb50 : b < 50 := by omega
        simp only [clx_s, g1, if10, if_neg hm, aRx_k hk (show 6 < 2 ^ 31 by decide), F_X0_kindOf, aIx_k hb50 (show 50 < 2 ^ 31 by decide), F_X6_holdBody, pIx_s]
        refine ⟨1, _, upI (upI (upI (upI σ (10 + k) 0 5) (10 + k) 1 0) (10 + k) 2 (siI σ 101 b)) 135 k (nI b), rfl, ?_, ?_, (((Kp.rf.I ?_).I ?_).I ?_).I ?_⟩
        · rw [M_isBody (nb := nb) (by omega) (by rw [uI_i (by omega), uI_i (by omega), uI_i (by omega)]; exact h2), clx_s, g1, if10, sIx_k hk (by decide)]
        · refine RelS_shelf nb hk h h1 (by omega) (fun i j hij => ?_) (fun q hq hqk => ⟨?_, ?_, fun j => ?_, fun j => rfl, fun j _ => rfl⟩) (Or.inr (Or.inl ⟨b, hb, ?_, ?_, ?_⟩))
          · rw [uI_i (by omega), uI_i (by omega), uI_i (by omega), uI_i (by omega)]
          · rw [uI_j hqk, uI_i (by omega), uI_i (by omega), uI_i (by omega)]
          · rw [uI_i (by omega), uI_i (by omega), uI_i (by omega), uI_i (by omega)]
          · rw [uI_i (by omega), uI_i (by omega), uI_i (by omega), uI_i (by omega)]
          · rw [uI_s]
          · rw [uI_i (by omega), uI_j (by decide), uI_j (by decide), uI_s]
          · rw [uI_i (by omega), uI_s, uI_i (by omega), uI_i (by omega), uI_i (by omega), uI_i (by omega), q1, q2]
        · exact Or.inr (Or.inr (Or.inl (by omega)))
        · exact Or.inr (Or.inr (Or.inl (by omega)))
        · exact Or.inr (Or.inr (Or.inl (by omega)))
        · exact Or.inr (Or.inr (Or.inr (Or.inr (Or.inr (by omega)))))
/-- the reference lays a row anew -/
theorem M_row0 {N k : Nat} (hk : k < 6) (hN : 60 < N) (σ : Sx) : lpx1 (B_X10_row_L54 N (nI k)) N (nI (60 * k)) σ = some (1, roL σ 137 (fun j => if 60 * k ≤ j ∧ j < 60 * k + 60 then 0 else siL σ 137 j)) := by
  have key : ∀ (d n i : Nat), i + d = 60 * k + 60 → 60 * k ≤ i → d < n → lpx1 (B_X10_row_L54 N (nI k)) n (nI i) (roL σ 137 (fun j => if 60 * k ≤ j ∧ j < i then 0 else siL σ 137 j)) = some (1, roL σ 137 (fun j => if 60 * k ≤ j ∧ j < 60 * k + 60 then 0 else siL σ 137 j)) := by
    intro d
    have hb : (60 : Int32) * nI k + (60 : Int32) = nI (60 * k + 60) := by
      rw [show (60 : Int32) = nI 60 from rfl, pk_mul, nI_add]
    induction d with
    | zero =>
      intro n i h1 h0 h2
      obtain ⟨n, rfl⟩ : ∃ k, n = k + 1 := ⟨n - 1, by omega⟩
      have : i = 60 * k + 60 := by omega
      subst this
      rw [lpx1_s, B_X10_row_L54, hb, if_pos (nI_le (Nat.le_refl _) (by omega))]
    | succ d ih =>
      intro n i h1 h0 h2
      obtain ⟨n, rfl⟩ : ∃ k, n = k + 1 := ⟨n - 1, by omega⟩
      rw [lpx1_s, B_X10_row_L54, hb, if_neg (nI_ge (show i < 60 * k + 60 by omega) (by omega)), sLx_k (show i < 360 by omega) (by decide), nI_add1]
      rw [roL_up (g := fun j => if 60 * k ≤ j ∧ j < i + 1 then 0 else siL σ 137 j) (fun j => by
        by_cases h : j = i
        · subst h
          simp [h0]
        · by_cases h2 : 60 * k ≤ j ∧ j < i
          · rw [if_neg h, if_pos h2, if_pos ⟨h2.1, Nat.lt_succ_of_lt h2.2⟩]
          · rw [if_neg h, if_neg h2, if_neg (by omega)])]
      exact ih n (i + 1) (by omega) (by omega) (by omega)
  have := key 60 N (60 * k) (by omega) (Nat.le_refl _) hN
  rw [roL_self (fun j => by rw [if_neg (by omega)])] at this
  exact this
theorem row_step {σ : Sx} {N : Nat} (hN : 60 < N) (a0 a1 a2 : Int32) (h : RelS σ) : StI RelS regS σ (F_X9_row N a0 a1 a2 σ) (fun σ1 => F_X10_row N a0 a1 a2 σ1) := by
  obtain ⟨nb, hnb, h1, h2, h3, h4⟩ := id h
  unfold StI F_X9_row F_X10_row
  simp only [C_isShelf, M_isShelf, clx_s, M_in]
  rcases shelf_cases a0 with ⟨e0, -⟩ | ⟨k, hk, rfl, e1⟩
  · rw [e0]
    exact ⟨-1, σ, σ, rfl, rfl, h, Kp.rf⟩
  · rw [e1]
    simp only [if10]
    rcases arg_n a1 (n := 5) (by decide) with ha | ⟨ha, ha2⟩ | ⟨t, ht, rfl⟩
    · refine ⟨-1, σ, σ, by rw [if_pos ha], ?_, h, Kp.rf⟩
      rw [if_pos ha, if00]
    · have h4 : (4 : Int32) < a1 := by
        have : (5 : Int32) ≤ a1 := ha2
        rw [Int32.le_iff_toInt_le] at this
        rw [Int32.lt_iff_toInt_lt]
        have e4 : (4 : Int32).toInt = 4 := rfl
        have e5 : (5 : Int32).toInt = 5 := rfl
        omega
      refine ⟨-1, σ, σ, by rw [if_neg ha, if_pos h4], ?_, h, Kp.rf⟩
      rw [if_neg ha, if_pos h4, if00]
    · have f1 : ¬ nI t < 0 := nI_pos (by omega)
      have f2 : ¬ (4 : Int32) < nI t := nI_nlt (show t ≤ 4 by omega) (by decide)
      simp only [if_neg f1, if_neg f2, if10]
      by_cases hbig : a2 ≤ (60 : Int32)
      · simp only [if_pos hbig]
        by_cases hneg : 0 ≤ a2
        · simp only [if_pos hneg, aRx_k hk (show 6 < 2 ^ 31 by decide), F_X6_holdRow, pIx_s, clx_s, fillL (show 60 < 2 ^ 31 by decide) hN]
          obtain ⟨z, hz, rfl⟩ : ∃ z : Nat, z ≤ 60 ∧ a2 = nI z := by
            have hn2 : ¬ a2 < 0 := Int32.not_lt.mpr hneg
            exact nI_of2 (M := 60) (n := 60) rfl hn2 hbig
          refine ⟨1, _, roL (upI (upI (roL (upI (upI σ (10 + k) 0 (nI t)) (10 + k) 1 (nI z)) (16 + k) (fun j => if j < 60 then 0 else siL (upI (upI σ (10 + k) 0 (nI t)) (10 + k) 1 (nI z)) (16 + k) j)) 135 k ((-2 : Int32) - nI t)) 136 k (nI z)) 137 (fun j => if 60 * k ≤ j ∧ j < 60 * k + 60 then 0 else siL σ 137 j), rfl, ?_, ?_, ?_⟩
          · rw [sIx_k hk (by decide), sIx_k hk (by decide), nmx_s, show (60 : Int32) * nI k = nI (60 * k) from by rw [show (60 : Int32) = nI 60 from rfl, pk_mul], M_row0 hk hN]
            refine congrArg (fun f => some ((1 : Int32), roL _ 137 f)) ?_
            funext j
            rw [uI_L, uI_L, roL_L, if_neg (show ¬ 137 = 16 + k by omega), uI_L, uI_L]
          · refine RelS_shelf nb hk h h1 (by omega) (fun i j hij => ?_) (fun q hq hqk => ⟨?_, ?_, fun j => ?_, fun j => ?_, fun j hj => ?_⟩) (Or.inr (Or.inr ⟨t, z, ht, hz, ?_, ?_, ?_, ?_, fun j hj => ⟨?_, ?_⟩⟩))
            · rw [roL_I, uI_i (by omega), uI_i (by omega), roL_I, uI_i (by omega), uI_i (by omega)]
            · rw [roL_I, uI_i (by decide), uI_j hqk, roL_I, uI_i (by omega), uI_i (by omega)]
            · rw [roL_I, uI_j hqk, uI_i (by decide), roL_I, uI_i (by omega), uI_i (by omega)]
            · rw [roL_I, uI_i (by omega), uI_i (by omega), roL_I, uI_i (by omega), uI_i (by omega)]
            · rw [roL_L, if_neg (by omega), uI_L, uI_L, roL_L, if_neg (by omega), uI_L, uI_L]
            · rw [roL_L, if_pos rfl, if_neg (by omega)]
            · rw [roL_I, uI_i (by decide), uI_s]
            · rw [roL_I, uI_i (by omega), uI_i (by omega), roL_I, uI_j (by decide), uI_s]
            · rw [roL_I, uI_i (by omega), uI_i (by omega), roL_I, uI_s]
            · rw [roL_I, uI_s]
            · rw [roL_L, if_neg (by omega), uI_L, uI_L, roL_L, if_pos rfl, if_pos hj, roL_L, if_pos rfl, if_pos (by omega)]
            · rw [roL_L, if_pos rfl, if_pos (by omega)]
              exact ⟨fun _ => rfl, fun _ => rfl, fun _ => rfl⟩
          · refine (((((Kp.rf.I ?_).I ?_).roL ?_).I ?_).I ?_).roL ?_
            · exact Or.inr (Or.inr (Or.inl (by omega)))
            · exact Or.inr (Or.inr (Or.inl (by omega)))
            · exact fun b => Or.inr (Or.inr (Or.inl (by omega)))
            · exact Or.inr (Or.inr (Or.inr (Or.inr (Or.inr (by omega)))))
            · exact Or.inr (Or.inr (Or.inr (Or.inr (Or.inr (by omega)))))
            · exact fun b => Or.inr (Or.inr (Or.inr (Or.inr (Or.inr (by omega)))))
        · simp only [if_neg hneg]
          exact ⟨-14, σ, σ, rfl, rfl, h, Kp.rf⟩
      · simp only [if_neg hbig]
        exact ⟨-1, σ, σ, rfl, rfl, h, Kp.rf⟩
