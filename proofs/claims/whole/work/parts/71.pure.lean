/-! THE PURE PART: how the functions that the walks laid are read -/
theorem nmx_s {α β : Type} (v : β) (K : β → Option α) : nmx v K = K v := rfl
theorem pIx_s {α : Type} (i j : Nat) (v : Int32) (σ : Sx) (K : Sx → Option α) : pIx i j v σ K = K (upI σ i j v) := rfl
theorem gdx_s {α : Type} {P : Prop} [Decidable P] (h : P) (K : Option α) : gdx P K = K := if_pos h
theorem rZx_0 (σ : Sx) : rZx 0 σ = some (0, σ) := rfl
theorem rZx_1 (σ : Sx) : rZx 1 σ = some (1, σ) := rfl
theorem in_k {k n : Nat} (h : k < n) (hn : n < 2 ^ 31) : 0 ≤ nI k ∧ nI k < Int32.ofNat n := ⟨nI_pos' (by omega), nI_lt h hn⟩
theorem aIx_k {α : Type} {i n k : Nat} {σ : Sx} {K : Int32 → Option α} (h : k < n) (hn : n < 2 ^ 31) : aIx i n (nI k) σ K = K (siI σ i k) := by
  unfold aIx
  rw [if_pos (in_k h hn), nI_clamp (by omega)]
theorem aLx_k {α : Type} {i n k : Nat} {σ : Sx} {K : Int64 → Option α} (h : k < n) (hn : n < 2 ^ 31) : aLx i n (nI k) σ K = K (siL σ i k) := by
  unfold aLx
  rw [if_pos (in_k h hn), nI_clamp (by omega)]
theorem aRx_k {α : Type} {n k : Nat} {K : Nat → Option α} (h : k < n) (hn : n < 2 ^ 31) : aRx n (nI k) K = K k := by
  unfold aRx
  rw [if_pos (in_k h hn), nI_clamp (by omega)]
theorem sIx_k {α : Type} {i n k : Nat} {v : Int32} {σ : Sx} {K : Sx → Option α} (h : k < n) (hn : n < 2 ^ 31) : sIx i n (nI k) v σ K = K (upI σ i k v) := by
  unfold sIx
  rw [if_pos (in_k h hn), nI_clamp (by omega)]
theorem sLx_k {α : Type} {i n k : Nat} {v : Int64} {σ : Sx} {K : Sx → Option α} (h : k < n) (hn : n < 2 ^ 31) : sLx i n (nI k) v σ K = K (upL σ i k v) := by
  unfold sLx
  rw [if_pos (in_k h hn), nI_clamp (by omega)]
theorem aSx_k {α : Type} {L : List Int32} {k : Nat} {K : Int32 → Option α} (h : k < L.length) (hn : L.length < 2 ^ 31) : aSx L (nI k) K = K (L.getD k 0) := by
  unfold aSx
  rw [if_pos (in_k h hn), nI_clamp (by omega)]
theorem uI (σ : Sx) (i j : Nat) (v : Int32) (a b : Nat) : siI (upI σ i j v) a b = if a = i ∧ b = j then v else siI σ a b := rfl
theorem uI_s {σ : Sx} {i j : Nat} {v : Int32} : siI (upI σ i j v) i j = v := by simp [uI]
theorem uI_i {σ : Sx} {i j a b : Nat} {v : Int32} (h : a ≠ i) : siI (upI σ i j v) a b = siI σ a b := by simp [uI, h]
theorem uI_j {σ : Sx} {i j a b : Nat} {v : Int32} (h : b ≠ j) : siI (upI σ i j v) a b = siI σ a b := by simp [uI, h]
theorem uI_L {σ : Sx} {i j a b : Nat} {v : Int32} : siL (upI σ i j v) a b = siL σ a b := rfl
theorem uL (σ : Sx) (i j : Nat) (v : Int64) (a b : Nat) : siL (upL σ i j v) a b = if a = i ∧ b = j then v else siL σ a b := rfl
theorem uL_s {σ : Sx} {i j : Nat} {v : Int64} : siL (upL σ i j v) i j = v := by simp [uL]
theorem uL_i {σ : Sx} {i j a b : Nat} {v : Int64} (h : a ≠ i) : siL (upL σ i j v) a b = siL σ a b := by simp [uL, h]
theorem uL_j {σ : Sx} {i j a b : Nat} {v : Int64} (h : b ≠ j) : siL (upL σ i j v) a b = siL σ a b := by simp [uL, h]
theorem uL_I {σ : Sx} {i j a b : Nat} {v : Int64} : siI (upL σ i j v) a b = siI σ a b := rfl
/-- a number told by a script, against a bound -/
theorem arg_n (x : Int32) {n : Nat} (hn : n < 2 ^ 31) : (x < 0) ∨ (¬ x < 0 ∧ nI n ≤ x) ∨ ∃ j : Nat, j < n ∧ x = nI j := by
  rcases pk_ix x hn with h | h | h
  · exact Or.inl h
  · refine Or.inr (Or.inl ⟨fun q => ?_, h⟩)
    have h1 := Int32.le_iff_toInt_le.mp h
    have h2 := Int32.lt_iff_toInt_lt.mp q
    rw [nI_toInt hn] at h1
    have h3 : (0 : Int32).toInt = 0 := rfl
    omega
  · exact Or.inr (Or.inr h)
theorem nI_add1 (a : Nat) : nI a + (1 : Int32) = nI (a + 1) := nI_1 a
theorem nI_sub1 (a : Nat) : nI (a + 1) - (1 : Int32) = nI a := nI_pred a
theorem nI_nlt0 {n : Nat} (h : n < 2 ^ 31) : ¬ nI n < 0 := nI_pos h
/-- in: low ≤ v ≤ high -/
theorem M_in (a b c : Int32) (σ : Sx) : F_X10_in a b c σ = some ((if a < b then 0 else if c < a then 0 else 1), σ) := by
  unfold F_X10_in
  by_cases h : a < b
  · simp [h]
  · by_cases h2 : c < a <;> simp [h, h2]
theorem C_isShelf (a : Int32) (σ : Sx) : F_X9_isShelf a σ = some ((if a < 0 then 0 else if 6 ≤ a then 0 else 1), σ) := by
  unfold F_X9_isShelf
  by_cases h : a < 0
  · simp [h]
  · by_cases h2 : (6 : Int32) ≤ a <;> simp [h, h2]
theorem M_isShelf (a : Int32) (σ : Sx) : F_X10_isShelf a σ = some ((if a < 0 then 0 else if 6 ≤ a then 0 else 1), σ) := by
  unfold F_X10_isShelf
  rw [M_in, clx_s]
  have e : (5 : Int32) < a ↔ (6 : Int32) ≤ a := by
    rw [Int32.lt_iff_toInt_lt, Int32.le_iff_toInt_le]
    have h5 : (5 : Int32).toInt = 5 := rfl
    have h6 : (6 : Int32).toInt = 6 := rfl
    omega
  by_cases h : a < 0
  · simp [h, rZx_0]
  · by_cases h2 : (6 : Int32) ≤ a
    · simp [h, h2, e, rZx_0]
    · simp [h, h2, e, rZx_1]
theorem shelf_cases (a : Int32) : ((if a < 0 then (0 : Int32) else if 6 ≤ a then 0 else 1) = 0 ∧ ∀ j, j < 6 → a ≠ nI j) ∨ ∃ k : Nat, k < 6 ∧ a = nI k ∧ (if a < 0 then (0 : Int32) else if 6 ≤ a then 0 else 1) = 1 := by
  rcases arg_n a (n := 6) (by decide) with h | ⟨h, h2⟩ | ⟨k, hk, rfl⟩
  · exact Or.inl ⟨by simp [h], fun j hj e => by rw [e] at h; exact nI_pos (by omega) h⟩
  · have h3 : (6 : Int32) ≤ a := h2
    exact Or.inl ⟨by simp [h, h3], fun j hj e => by rw [e] at h2; exact nI_ge hj (by decide) h2⟩
  · refine Or.inr ⟨k, hk, rfl, ?_⟩
    have h1 : ¬ nI k < 0 := nI_pos (by omega)
    have h2 : ¬ (6 : Int32) ≤ nI k := nI_ge hk (by decide)
    simp [h1, h2]
/-- bodies and shelves: class against reference -/
def okT (t : Nat) (z : Int64) : Prop := (t = 0 → z.toInt32.toInt8.toInt32.toInt64 = z) ∧ (t = 1 → z.toInt32.toInt16.toInt32.toInt64 = z) ∧ (t = 2 → z.toInt32.toInt64 = z)
def ShR (σ : Sx) (nb k : Nat) : Prop :=
  (siI σ 135 k = -1 ∧ siI σ (10 + k) 0 = -1) ∨
  (∃ b, b < nb ∧ siI σ 135 k = nI b ∧ siI σ (10 + k) 0 = 5 ∧ siI σ (10 + k) 2 = siI σ 133 b) ∨
  (∃ t z, t < 5 ∧ z ≤ 60 ∧ siI σ 135 k = (-2 : Int32) - nI t ∧ siI σ (10 + k) 0 = nI t ∧ siI σ (10 + k) 1 = nI z ∧ siI σ 136 k = nI z ∧ ∀ j, j < 60 → siL σ (16 + k) j = siL σ 137 (60 * k + j) ∧ okT t (siL σ 137 (60 * k + j)))
def RelS (σ : Sx) : Prop := ∃ nb : Nat, nb ≤ 50 ∧ siI σ 8 0 = nI nb ∧ siI σ 103 49 = nI nb ∧ (∀ j, j < nb → ∃ q, q < 8 ∧ siI σ 101 j = nI q ∧ siI σ 133 j = nI q) ∧ ∀ k, k < 6 → ShR σ nb k
theorem body_step {σ : Sx} (a : Int32) (h : RelS σ) : ∃ r σ1 σ2, F_X9_body a σ = some (r, σ1) ∧ F_X10_body a σ1 = some (r, σ2) ∧ RelS σ2 := by
  obtain ⟨nb, hnb, h1, h2, h3, h4⟩ := h
  unfold F_X9_body F_X10_body
  rcases arg_n a (n := 8) (by decide) with ha | ⟨ha, ha2⟩ | ⟨q, hq, rfl⟩
  · refine ⟨-1, σ, σ, by rw [if_pos ha], ?_, nb, hnb, h1, h2, h3, h4⟩
    rw [M_in, clx_s, if_pos ha, if_pos rfl]
  · have h8 : ¬ a < (8 : Int32) := by
      have : (8 : Int32) ≤ a := ha2
      rw [Int32.le_iff_toInt_le] at this
      rw [Int32.lt_iff_toInt_lt]
      omega
    have h7 : (7 : Int32) < a := by
      rw [Int32.lt_iff_toInt_lt] at h8 ⊢
      have e7 : (7 : Int32).toInt = 7 := rfl
      have e8 : (8 : Int32).toInt = 8 := rfl
      omega
    refine ⟨-1, σ, σ, by rw [if_neg ha, if_neg h8], ?_, nb, hnb, h1, h2, h3, h4⟩
    rw [M_in, clx_s, if_neg ha, if_pos h7, if_pos rfl]
  · have e1 : ¬ nI q < 0 := nI_pos (by omega)
    have e2 : nI q < (8 : Int32) := nI_lt hq (by decide)
    have e3 : ¬ (7 : Int32) < nI q := nI_nlt (show q ≤ 7 by omega) (by decide)
    rw [if_neg e1, if_pos e2]
    unfold F_X0_add
    by_cases hfull : nb = 50
    · subst hfull
      refine ⟨-3, σ, σ, ?_, ?_, 50, hnb, h1, h2, h3, h4⟩
      · rw [h1, if_neg (by decide), clx_s, if_neg (by decide)]
      · rw [M_in, clx_s, if_neg e1, if_neg e3, if_neg (by decide), h2, if_pos (by decide)]
    · have hlt : nb < 50 := by omega
      have f1 : nI nb < (50 : Int32) := nI_lt hlt (by decide)
      have f2 : ¬ nI nb = (50 : Int32) := fun e => hfull ((nI_eq (by omega) (by decide)).mp e)
      refine ⟨nI nb, upI (upI σ 101 nb (nI q)) 8 0 (nI (nb + 1)), upI (upI (upI (upI σ 101 nb (nI q)) 8 0 (nI (nb + 1))) 133 nb (nI q)) 103 49 (nI (nb + 1)), ?_, ?_, nb + 1, by omega, ?_, ?_, ?_, ?_⟩
      · have g0 : 0 ≤ nI nb := nI_pos' (by omega)
        simp [h1, f1, sIx_k hlt (show 50 < 2 ^ 31 by decide), pIx_s, uI, nI_add1, nI_sub1, clx_s, g0]
      · simp [M_in, clx_s, e1, e3, uI, h2, f2, sIx_k hlt (show 50 < 2 ^ 31 by decide), pIx_s, nI_add1, nI_sub1]
      · simp [uI]
      · simp [uI]
      · intro j hj
        by_cases hjn : j = nb
        · subst hjn
          exact ⟨q, hq, by simp [uI], by simp [uI]⟩
        · obtain ⟨q2, g1, g2, g3⟩ := h3 j (by omega)
          exact ⟨q2, g1, by simp [uI, hjn, g2], by simp [uI, hjn, g3]⟩
      · intro k hk
        have hne : ∀ c, c ∈ [101, 8, 133, 103] → 10 + k ≠ c := fun c hc => by
          simp only [List.mem_cons, List.not_mem_nil, or_false] at hc
          omega
        have n1 := hne 101 (by simp)
        have n2 := hne 8 (by simp)
        have n3 := hne 133 (by simp)
        have n4 := hne 103 (by simp)
        rcases h4 k hk with ⟨g1, g2⟩ | ⟨b, g0, g1, g2, g3⟩ | ⟨t, z, g1, g2, g3, g4, g5, g6, g7⟩
        · exact Or.inl ⟨by simp [uI, g1], by simp [uI, n1, n2, n3, n4, g2]⟩
        · exact Or.inr (Or.inl ⟨b, by omega, by simp [uI, g1], by simp [uI, n1, n2, n3, n4, g2], by simp [uI, n1, n2, n3, n4, g3, show b ≠ nb by omega]⟩)
        · exact Or.inr (Or.inr ⟨t, z, g1, g2, by simp [uI, g3], by simp [uI, n1, n2, n3, n4, g4], by simp [uI, n1, n2, n3, n4, g5], by simp [uI, g6], g7⟩)
