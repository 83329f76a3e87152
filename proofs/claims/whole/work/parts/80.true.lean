theorem law_true {L : Nat} {xs : Nat → Int32} (hL : L ≤ 3072) : ∃ (N : Nat) (σ : Sx), F_law N L xs s0 = some (1, σ) := by
  sorry
