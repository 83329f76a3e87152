/-! THE TWO READERS OF A LAW: expressions -/
theorem J_deep {n : Nat} {B : Nat → Nat} {N d p : Nat} (hn : n ≤ 120) (hB : ∀ j, j < n → B j < 256) (hp : p ≤ n) (self : Nat → Sx → Option (Unit × Sx)) (hs : sy n B p = 33 ∨ sy n B p = 45 ∨ sy n B p = 40) : JJ n B 6 p (R_X4_grp N (d + 1) 2 (nI 6) (0 : Int32)) (G_X10_operand N self) := by
  have VC := Vs_C hB p
  have VM := Vs_M hB p
  have hdg : dgS (sy n B p) = 0 ∧ nmS (sy n B p) = 0 ∧ nmV (sy n B p) < 0 := by
    rcases hs with z | z | z <;> rw [z] <;> decide
  refine Or.inr ⟨p, Nat.le_refl _, hp, fun D σ hD hl => ⟨σ, Kp.rf, Or.inl ⟨?_, hD.2.1⟩⟩, fun L σ hL hl => ?_⟩
  · rw [R4_op, G_X4_operand, C_next hn hD.1 hD.2.1 hp, clx_s, C_dg VC, clx_s, hdg.1, if_pos rfl, C_nm VC, clx_s, hdg.2.1, if_pos rfl, nmx_s]
    by_cases h40 : chC n B p = (40 : Int32)
    · rw [if_pos h40]
      rfl
    · rw [if_neg h40]
      by_cases h33 : chC n B p = (33 : Int32)
      · rw [if_pos h33]
        rfl
      · rw [if_neg h33]
        by_cases h45 : chC n B p = (45 : Int32)
        · rw [if_pos h45]
          rfl
        · rw [if_neg h45]
  · obtain ⟨σ2, x1, x2, x3⟩ := M_fault hL
    have eo : F_X10_opens σ = some (0, σ2) := by
      unfold F_X10_opens
      rw [hL.2.2.2.1, if_pos (show nI 6 = (6 : Int32) from rfl), x1, clx_s]
    refine ⟨σ2, L.length, ?_, x2, x3, by omega⟩
    unfold G_X10_operand
    rw [M_looks hn hL.1 hL.2.1 hp, clx_s, M_nm VM, clx_s, if_pos hdg.2.2, nmx_s]
    by_cases h33 : chM n B p = (33 : Int32)
    · rw [if_pos h33]
      dsimp only
      rw [eo, clx_s, if_pos rfl]
    · rw [if_neg h33]
      by_cases h45 : chM n B p = (45 : Int32)
      · rw [if_pos h45]
        dsimp only
        rw [eo, clx_s, if_pos rfl]
      · rw [if_neg h45, if_pos (VM.c40.mpr (by have a1 : sy n B p ≠ 33 := fun z => h33 (VM.c33.mpr z); have a2 : sy n B p ≠ 45 := fun z => h45 (VM.c45.mpr z); omega)), eo, clx_s, if_pos rfl]
theorem R10_op (N d : Nat) (σ : Sx) : R_X10_grp N (d + 1) 3 σ = G_X10_operand N (R_X10_grp N d) σ := rfl
theorem J_top {n : Nat} {B : Nat → Nat} {N q d m : Nat} (hn : n ≤ 120) (hN : 130 < N) (hB : ∀ j, j < n → B j < 256) (hO : ∀ p, p ≤ n → JJ n B q p (R_X4_grp N d 2 (nI q) (0 : Int32)) (R_X10_grp N m 3)) : ∀ p, p ≤ n → JJ n B q p (R_X4_grp N (d + 6) 1 (nI 0) (nI q)) (R_X10_grp N (m + 5) 2) := by
  have h5 : ∀ p, p ≤ n → JJ n B q p (R_X4_grp N (d + 1) 1 (nI (4 + 1)) (nI q)) (R_X10_grp N m 3) := fun p hp => J_five (hO p hp)
  have h4 : ∀ p, p ≤ n → JJ n B q p (R_X4_grp N (d + 2) 1 (nI (3 + 1)) (nI q)) (R_X10_grp N (m + 1) 4) := J_rank hn hN hB (r := 4) (by decide) (by decide) h5 (lv_product hn hB (R_X10_grp N m))
  have h3 : ∀ p, p ≤ n → JJ n B q p (R_X4_grp N (d + 3) 1 (nI (2 + 1)) (nI q)) (R_X10_grp N (m + 2) 5) := J_rank hn hN hB (r := 3) (by decide) (by decide) h4 (lv_sum hn hB (R_X10_grp N (m + 1)))
  have h2 : ∀ p, p ≤ n → JJ n B q p (R_X4_grp N (d + 4) 1 (nI (1 + 1)) (nI q)) (R_X10_grp N (m + 3) 1) := J_cmp hn hN hB (self := R_X10_grp N (m + 2)) h3
  have h1 : ∀ p, p ≤ n → JJ n B q p (R_X4_grp N (d + 5) 1 (nI (0 + 1)) (nI q)) (R_X10_grp N (m + 4) 0) := J_rank hn hN hB (r := 1) (by decide) (by decide) h2 (lv_both hn hB (R_X10_grp N (m + 3)))
  exact J_rank hn hN hB (r := 0) (by decide) (by decide) h1 (lv_either hn hB (R_X10_grp N (m + 4)))
/-- an operand, r levels being left -/
theorem J_opd {n : Nat} {B : Nat → Nat} {N : Nat} (hn : n ≤ 120) (hN : 130 < N) (hB : ∀ j, j < n → B j < 256) : ∀ r q, q + r = 6 → ∀ d m, 8 * r + 1 ≤ d → 6 * r + 1 ≤ m → ∀ p, p ≤ n → JJ n B q p (R_X4_grp N d 2 (nI q) (0 : Int32)) (R_X10_grp N m 3) := by
  intro r
  induction r with
  | zero =>
    intro q hq d m hd hm p hp
    have : q = 6 := by omega
    subst this
    obtain ⟨d, rfl⟩ : ∃ x, d = x + 1 := ⟨d - 1, by omega⟩
    obtain ⟨m, rfl⟩ : ∃ x, m = x + 1 := ⟨m - 1, by omega⟩
    show JJ n B 6 p _ (G_X10_operand N (R_X10_grp N m))
    by_cases hs : sy n B p = 33 ∨ sy n B p = 45 ∨ sy n B p = 40
    · exact J_deep hn hB hp _ hs
    · rcases dg_facts _ (sy_lt n B p) with ⟨z, -⟩ | ⟨z, -⟩
      · rcases nm_facts _ (sy_lt n B p) with ⟨y, -⟩ | ⟨y, -⟩
        · exact J_none hn hN hB hp _ z y (by omega) (by omega) (by omega)
        · exact J_nam hn hB hp _ y
      · exact J_fig hn hN hB hp _ z
  | succ r ih =>
    intro q hq d m hd hm p hp
    obtain ⟨d, rfl⟩ : ∃ x, d = x + 8 := ⟨d - 8, by omega⟩
    obtain ⟨m, rfl⟩ : ∃ x, m = x + 6 := ⟨m - 6, by omega⟩
    have hO := ih (q + 1) (by omega) d m (by omega) (by omega)
    have hE := J_top hn hN hB hO
    have hO2 := ih (q + 1) (by omega) (d + 6) (m + 5) (by omega) (by omega)
    show JJ n B q p (R_X4_grp N (d + 6 + 2) 2 (nI q) (0 : Int32)) (G_X10_operand N (R_X10_grp N (m + 5)))
    by_cases h40 : sy n B p = 40
    · exact J_par hn hB hp (by omega) _ h40 hE
    · by_cases hs : sy n B p = 33 ∨ sy n B p = 45
      · exact J_pre hn hB hp (by omega) _ hs hO2
      · rcases dg_facts _ (sy_lt n B p) with ⟨z, -⟩ | ⟨z, -⟩
        · rcases nm_facts _ (sy_lt n B p) with ⟨y, -⟩ | ⟨y, -⟩
          · exact J_none (d := d + 7) hn hN hB hp _ z y (by omega) (by omega) (by omega)
          · exact J_nam (d := d + 7) hn hB hp _ y
        · exact J_fig (d := d + 7) hn hN hB hp _ z
theorem J_all {n : Nat} {B : Nat → Nat} {N : Nat} (hn : n ≤ 120) (hN : 130 < N) (hB : ∀ j, j < n → B j < 256) (p : Nat) (hp : p ≤ n) : JJ n B 0 p (F_X4_chain N (0 : Int32) (0 : Int32)) (F_X10_either N) := J_top (d := 58) (m := 59) hn hN hB (J_opd hn hN hB 6 0 rfl 58 59 (by decide) (by decide)) p hp
