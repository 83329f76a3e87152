/-! FEED, COUNT -/
theorem nar_b (x : Int32) : vp_nar .byte x = x.toInt8.toInt32 := rfl
theorem nar_bb (x : Int32) : vp_nar .byte x.toInt8.toInt32 = x.toInt8.toInt32 := by
  rw [nar_b, Int8.toInt8_toInt32]
def ReP (σ : Sx) : Prop := ∃ n, n ≤ 120 ∧ siI σ 2 0 = nI n ∧ siI σ 103 16 = nI n ∧ ∀ j, j < n → ∃ b, b < 256 ∧ siI σ 79 j = nI b ∧ siI σ 115 j = (nI b).toInt8.toInt32
def tpR (i j : Nat) : Prop := (i = 2 ∧ j = 0) ∨ i = 79 ∨ (i = 103 ∧ j = 16) ∨ i = 115
theorem ReP.of {σ σ2 : Sx} (h : ReP σ) (e : ∀ i j, tpR i j → siI σ2 i j = siI σ i j) : ReP σ2 := by
  obtain ⟨n, h1, h2, h3, h4⟩ := h
  refine ⟨n, h1, ?_, ?_, fun j hj => ?_⟩
  · rw [e 2 0 (by unfold tpR; omega)]
    exact h2
  · rw [e 103 16 (by unfold tpR; omega)]
    exact h3
  · rw [e 79 j (by unfold tpR; omega), e 115 j (by unfold tpR; omega)]
    exact h4 j hj
theorem s_feed (a0 : Int32) {σ : Sx} (h : ReP σ) : StI ReP tpR σ (F_X9_feed a0 σ) (F_X10_feed a0) := by
  obtain ⟨n, h1, h2, h3, h4⟩ := id h
  rcases in_m (n := 255) (by decide) a0 σ with ⟨e, q⟩ | ⟨b, hb, rfl, e⟩
  · refine ⟨-1, σ, σ, ?_, ?_, h, Kp.rf⟩
    · rw [F_X9_feed]
      rcases q with q | ⟨q1, q2⟩
      · rw [if_pos q]
      · rw [if_neg q1, if_neg (show ¬ a0 ≤ (255 : Int32) from Int32.not_le.mpr q2)]
    · rw [F_X10_feed, show (255 : Int32) = nI 255 from rfl, e]
      rfl
  have eC : F_X9_feed (nI b) σ = clx (F_X4_write (nI b) σ) (fun v1 σ1 => (if v1 = 0 then some ((-3 : Int32), σ1) else some ((siI σ1 2 0), σ1))) := by
    rw [F_X9_feed, if_neg (nI_pos (by omega)), if_pos (show nI b ≤ (255 : Int32) from nI_le (b := 255) hb (by decide))]
  have eM : ∀ σ : Sx, F_X10_feed (nI b) σ = (if (siI σ 103 16) = (120 : Int32) then some ((-3 : Int32), σ) else sIx 115 120 (siI σ 103 16) (vp_nar .byte (nI b).toInt8.toInt32) σ (fun σ2 => pIx 103 16 ((siI σ2 103 16) + (1 : Int32)) σ2 (fun σ3 => some ((siI σ3 103 16), σ3)))) := fun σ => by
    rw [F_X10_feed, M_in, clx_s, if_neg (nI_pos (by omega)), if_neg (show ¬ (255 : Int32) < nI b from nI_nlt (a := 255) (by omega) (by decide)), if10]
  rw [eC, F_X4_write, h2, show (120 : Int32) = nI 120 from rfl, ite_lt (by omega) (by decide)]
  by_cases hn : n < 120
  · rw [if_pos hn, sIx_k (by omega) (by decide), uI_i (by decide), h2, nI_add1, pIx_s, clx_s, if10, uI_s]
    generalize hσ1 : upI (upI σ 79 n (nI b)) 2 0 (nI (n + 1)) = σ1
    have k1 : Kp tpR σ σ1 := by
      rw [← hσ1]
      exact (Kp.rf.I (by unfold tpR; omega)).I (by unfold tpR; omega)
    have e16 : siI σ1 103 16 = nI n := by
      rw [← hσ1, uI_i (by decide), uI_i (by decide)]
      exact h3
    refine ⟨nI (n + 1), σ1, upI (upI σ1 115 n (nI b).toInt8.toInt32) 103 16 (nI (n + 1)), rfl, ?_, ⟨n + 1, by omega, ?_, uI_s, fun j hj => ?_⟩, (k1.I (by unfold tpR; omega)).I (by unfold tpR; omega)⟩
    · rw [eM, e16, if_neg (show ¬ nI n = (120 : Int32) from fun q => absurd ((nI_eq (b := 120) (by omega) (by decide)).mp q) (by omega)), sIx_k (by omega) (by decide), uI_i (by decide), e16, nI_add1, pIx_s, uI_s, nar_bb]
    · rw [uI_i (by decide), uI_i (by decide), ← hσ1, uI_s]
    · rw [uI_i (a := 79) (by decide), uI_i (a := 79) (by decide), uI_i (a := 115) (by decide), ← hσ1]
      by_cases ej : j = n
      · refine ⟨b, by omega, ?_, ?_⟩
        · rw [ej, uI_i (by decide), uI_s]
        · rw [ej, uI_s]
      · obtain ⟨b2, g1, g2, g3⟩ := h4 j (by omega)
        refine ⟨b2, g1, ?_, ?_⟩
        · rw [uI_i (by decide), uI_j ej]
          exact g2
        · rw [uI_j ej, uI_i (by decide), uI_i (by decide)]
          exact g3
  · have : n = 120 := by omega
    subst this
    rw [if_neg hn, clx_s, if_pos rfl]
    refine ⟨-3, σ, σ, rfl, ?_, h, Kp.rf⟩
    rw [eM, h3, if_pos (show nI 120 = (120 : Int32) from rfl)]
theorem two_ways {N : Nat} {W : Wd} {σ : Sx} (hN : 8 < N) (ok : okW W) (hc : cW W σ) (hm : mW W σ) : ∃ r, F_X8_waysOfAll N σ = some (r, σ) ∧ F_X10_allWays N σ = some (r, σ) := by
  have hn := ok.nw
  have key : ∀ n, n ≤ W 0 0 → ∃ r : Int32, ∀ m, n + m = W 0 0 → True := fun n _ => ⟨0, fun _ _ => trivial⟩
  let S : Nat → Nat := fun n => Nat.rec 0 (fun k acc => acc + W 4 k) n
  have hC : F_X8_waysOfAll N σ = some (nI (S (W 0 0)), σ) := by
    unfold F_X8_waysOfAll
    refine lp2U (Q := fun o => o = some (nI (S (W 0 0)), σ)) (W 0 0) (fun k x σx => x = nI (S k) ∧ σx = σ) ?_ (i := 0) (Nat.zero_le _) (by omega) ⟨rfl, rfl⟩
    rintro r k x σx hk ⟨rfl, rfl⟩
    unfold B_X8_waysOfAll_L4
    rw [hc.1, ite_le (by omega) (by omega)]
    by_cases hlt : W 0 0 ≤ k
    · left
      have : k = W 0 0 := by omega
      rw [if_pos hlt, this]
    · right
      rw [if_neg hlt, aIx_k (by omega) (by decide), hc.2.2.1 k (by omega), nmx_s, nI_add, nI_add1]
      exact ⟨by omega, _, _, ⟨rfl, rfl⟩, rfl⟩
  have hM : F_X10_allWays N σ = some (nI (S (W 0 0)), σ) := by
    unfold F_X10_allWays
    refine lp2U (Q := fun o => o = some (nI (S (W 0 0)), σ)) (W 0 0) (fun k x σx => x = nI (S k) ∧ σx = σ) ?_ (i := 0) (Nat.zero_le _) (by omega) ⟨rfl, rfl⟩
    rintro r k x σx hk ⟨rfl, rfl⟩
    unfold B_X10_allWays_L4
    rw [hm.1, ite_le (by omega) (by omega)]
    by_cases hlt : W 0 0 ≤ k
    · left
      have : k = W 0 0 := by omega
      rw [if_pos hlt, this]
    · right
      rw [if_neg hlt, aIx_k (by omega) (by decide), (hm.2.1 k (by omega)).2.2.2, nmx_s, nI_add, nI_add1]
      exact ⟨by omega, _, _, ⟨rfl, rfl⟩, rfl⟩
  exact ⟨_, hC, hM⟩
theorem s_count {N : Nat} (hN : 8 < N) (a0 : Int32) {σ : Sx} (hw : ReW N σ) (hp : ReP σ) (hs : RelS σ) (ht : ReT σ) : ∃ r, F_X9_count N a0 σ = some (r, σ) ∧ F_X10_count N a0 σ = some (r, σ) := by
  obtain ⟨W, G, b, h⟩ := hw
  obtain ⟨ok, hc, hm⟩ := h.of3
  obtain ⟨a, u, -, q1, -, q3, -⟩ := h.2.2.2.2.2.2.2.2.2
  obtain ⟨n, -, p1, p2, -⟩ := hp
  obtain ⟨nb, -, s1, s2, -⟩ := hs
  obtain ⟨L, -, ⟨t1, -⟩, t2, -⟩ := ht
  obtain ⟨r, w1, w2⟩ := two_ways (N := N) hN ok hc hm
  unfold F_X9_count F_X10_count
  by_cases c0 : a0 = 0
  · rw [if_pos c0, if_pos c0, hc.1, hm.1]
    exact ⟨_, rfl, rfl⟩
  rw [if_neg c0, if_neg c0]
  by_cases c1 : a0 = 1
  · rw [if_pos c1, if_pos c1, w1, w2]
    exact ⟨_, rfl, rfl⟩
  rw [if_neg c1, if_neg c1]
  by_cases c2 : a0 = 2
  · rw [if_pos c2, if_pos c2, p1, p2]
    exact ⟨_, rfl, rfl⟩
  rw [if_neg c2, if_neg c2]
  by_cases c3 : a0 = 3
  · rw [if_pos c3, if_pos c3, q1, q3]
    exact ⟨_, rfl, rfl⟩
  rw [if_neg c3, if_neg c3]
  by_cases c4 : a0 = 4
  · rw [if_pos c4, if_pos c4, s1, s2]
    exact ⟨_, rfl, rfl⟩
  rw [if_neg c4, if_neg c4]
  by_cases c5 : a0 = 5
  · rw [if_pos c5, if_pos c5, t1, t2]
    exact ⟨_, rfl, rfl⟩
  rw [if_neg c5, if_neg c5]
  exact ⟨_, rfl, rfl⟩
