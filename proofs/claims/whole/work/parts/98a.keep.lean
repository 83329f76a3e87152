/-! THE WHOLE: what is kept from call to call -/
theorem s_body {σ : Sx} (a : Int32) (h : RelS σ) : StI RelS regS σ (F_X9_body a σ) (F_X10_body a) := by
  obtain ⟨nb, hnb, h1, h2, h3, h4⟩ := h
  unfold StI F_X9_body F_X10_body
  rcases arg_n a (n := 8) (by decide) with ha | ⟨ha, ha2⟩ | ⟨q, hq, rfl⟩
  · refine ⟨-1, σ, σ, by rw [if_pos ha], ?_, ⟨nb, hnb, h1, h2, h3, h4⟩, Kp.rf⟩
    rw [M_in, clx_s, if_pos ha, if_pos rfl]
  · have h8 : ¬ a < (8 : Int32) := by
      have : (8 : Int32) ≤ a := ha2
      rw [Int32.le_iff_toInt_le] at this
      rw [Int32.lt_iff_toInt_lt]
      omega
    have h7 : (7 : Int32) < a := by
      rw [Int32.lt_iff_toInt_lt] at h8 ⊢
      have e7 : (7 : Int32).toInt = 7 := rfl
      have e8 : (8 : Int32).toInt = 8 := rfl
      omega
    refine ⟨-1, σ, σ, by rw [if_neg ha, if_neg h8], ?_, ⟨nb, hnb, h1, h2, h3, h4⟩, Kp.rf⟩
    rw [M_in, clx_s, if_neg ha, if_pos h7, if_pos rfl]
  · have e1 : ¬ nI q < 0 := nI_pos (by omega)
    have e2 : nI q < (8 : Int32) := nI_lt hq (by decide)
    have e3 : ¬ (7 : Int32) < nI q := nI_nlt (show q ≤ 7 by omega) (by decide)
    rw [if_neg e1, if_pos e2]
    unfold F_X0_add
    by_cases hfull : nb = 50
    · subst hfull
      refine ⟨-3, σ, σ, ?_, ?_, ⟨50, hnb, h1, h2, h3, h4⟩, Kp.rf⟩
      · rw [h1, if_neg (by decide), clx_s, if_neg (by decide)]
      · rw [M_in, clx_s, if_neg e1, if_neg e3, if_neg (by decide), h2, if_pos (by decide)]
    · have hlt : nb < 50 := by omega
      have f1 : nI nb < (50 : Int32) := nI_lt hlt (by decide)
      have f2 : ¬ nI nb = (50 : Int32) := fun e => hfull ((nI_eq (by omega) (by decide)).mp e)
      refine ⟨nI nb, upI (upI σ 101 nb (nI q)) 8 0 (nI (nb + 1)), upI (upI (upI (upI σ 101 nb (nI q)) 8 0 (nI (nb + 1))) 133 nb (nI q)) 103 49 (nI (nb + 1)), ?_, ?_, ⟨nb + 1, by omega, ?_, ?_, ?_, ?_⟩, (((Kp.rf.I (reg := regS) (by unfold regS; omega)).I (by unfold regS; omega)).I (by unfold regS; omega)).I (by unfold regS; omega)⟩
      · have g0 : 0 ≤ nI nb := nI_pos' (by omega)
        simp [h1, f1, sIx_k hlt (show 50 < 2 ^ 31 by decide), pIx_s, uI, nI_add1, nI_sub1, clx_s, g0]
      · simp [M_in, clx_s, e1, e3, uI, h2, f2, sIx_k hlt (show 50 < 2 ^ 31 by decide), pIx_s, nI_add1, nI_sub1]
      · simp [uI]
      · simp [uI]
      · intro j hj
        by_cases hjn : j = nb
        · subst hjn
          exact ⟨q, hq, by simp [uI], by simp [uI]⟩
        · obtain ⟨q2, g1, g2, g3⟩ := h3 j (by omega)
          exact ⟨q2, g1, by simp [uI, hjn, g2], by simp [uI, hjn, g3]⟩
      · intro k hk
        have hne : ∀ c, c ∈ [101, 8, 133, 103] → 10 + k ≠ c := fun c hc => by
          simp only [List.mem_cons, List.not_mem_nil, or_false] at hc
          omega
        have n1 := hne 101 (by simp)
        have n2 := hne 8 (by simp)
        have n3 := hne 133 (by simp)
        have n4 := hne 103 (by simp)
        rcases h4 k hk with ⟨g1, g2⟩ | ⟨b, g0, g1, g2, g3⟩ | ⟨t, z, g1, g2, g3, g4, g5, g6, g7⟩
        · exact Or.inl ⟨by simp [uI, g1], by simp [uI, n1, n2, n3, n4, g2]⟩
        · exact Or.inr (Or.inl ⟨b, by omega, by simp [uI, g1], by simp [uI, n1, n2, n3, n4, g2], by simp [uI, n1, n2, n3, n4, g3, show b ≠ nb by omega]⟩)
        · exact Or.inr (Or.inr ⟨t, z, g1, g2, by simp [uI, g3], by simp [uI, n1, n2, n3, n4, g4], by simp [uI, n1, n2, n3, n4, g5], by simp [uI, g6], g7⟩)
theorem s_led2 (a0 : Int32) {σ : Sx} (h : ReE σ) : StI ReE eeR σ (F_X9_led a0 σ) (F_X10_led a0) := by
  rcases in_m (n := 3) (by decide) a0 σ with ⟨e, q⟩ | ⟨k, hk, rfl, e⟩
  · refine ⟨-1, σ, σ, ?_, by rw [F_X10_led, show (3 : Int32) = nI 3 from rfl, e]; rfl, h, Kp.rf⟩
    rw [F_X9_led]
    rcases q with q | ⟨q1, q2⟩
    · rw [if_pos q]
    · rw [if_neg q1, if_neg (show ¬ a0 ≤ (3 : Int32) from Int32.not_le.mpr q2)]
  · refine ⟨siI σ 94 k, σ, σ, ?_, ?_, h, Kp.rf⟩
    · rw [F_X9_led, if_neg (nI_pos (by omega)), if_pos (show nI k ≤ (3 : Int32) from nI_le (b := 3) hk (by decide)), F_X3_told, aIx_k (by omega) (by decide), clx_s]
    · rw [F_X10_led, show (3 : Int32) = nI 3 from rfl, e, clx_s, if10, aIx_k (by omega) (by decide), h.1 k (by omega)]
theorem s_image2 {N : Nat} (hN : 8 < N) {σ : Sx} (h : ReE σ) : StI ReE eeR σ (F_X9_image σ) (F_X10_image N) := by
  obtain ⟨h1, h2, h3, h4⟩ := h
  have hc : ∃ σ1, F_X9_image σ = some (siI σ 94 0, σ1) ∧ Kp (fun i j => i = 95 ∨ (i = 6 ∧ j = 2)) σ σ1 ∧ (∀ j, j < 4 → siI σ1 95 j = siI σ 94 j) ∧ siI σ1 6 2 = 1 := by
    unfold F_X9_image F_X3_keepImage
    obtain ⟨σ1, c1, c2, c3⟩ := cp4 (σ := σ) (a := 94) (c := 95) (fun σ1 => pZx 6 2 (1 : Int32) σ1 (fun σ2 => some ((), σ2)))
    rw [c1, pZx, if_pos (Or.inr rfl), clx_s]
    refine ⟨upI σ1 6 2 1, ?_, (c2.le (fun i j q => Or.inl q)).I (Or.inr ⟨rfl, rfl⟩), fun j hj => by rw [uI_i (by decide)]; exact c3 j hj, uI_s⟩
    rw [F_X3_told, aIx_0 (by decide) (by decide), clx_s, uI_i (by decide), (c2 94 0 (by omega)).1]
  obtain ⟨σ1, c1, c2, c3, c4⟩ := hc
  have e131 : ∀ j, siI σ1 131 j = siI σ 131 j := fun j => (c2 131 j (by omega)).1
  obtain ⟨σ2, d1, d2, d3⟩ : ∃ σ2, F_X10_image N σ1 = some (siI σ 131 0, σ2) ∧ Kp (fun i _ => i = 132) (upI σ1 103 48 1) σ2 ∧ ∀ j, j < 4 → siI σ2 132 j = siI σ 131 j := by
    unfold F_X10_image
    rw [pZx, if_pos (Or.inr rfl), nmx_s]
    refine lp1U (Q := fun o => ∃ σ2, o = some (siI σ 131 0, σ2) ∧ Kp (fun i _ => i = 132) (upI σ1 103 48 1) σ2 ∧ ∀ j, j < 4 → siI σ2 132 j = siI σ 131 j) 4 (fun k σx => Kp (fun i _ => i = 132) (upI σ1 103 48 1) σx ∧ ∀ j, j < k → siI σx 132 j = siI σ 131 j) ?_ (i := 0) (Nat.zero_le _) (by omega) ⟨Kp.rf, fun j q => absurd q (Nat.not_lt_zero _)⟩
    rintro r k σx hk ⟨hkx, hj⟩
    unfold B_X10_image_L7
    rw [show (4 : Int32) = nI 4 from rfl, ite_le (by decide) (by omega)]
    by_cases hlt : 4 ≤ k
    · left
      rw [if_pos hlt]
      dsimp only
      rw [aIx_0 (by decide) (by decide), (hkx 131 0 (by omega)).1, uI_i (by decide), e131]
      exact ⟨σx, rfl, hkx, fun j q => hj j (by omega)⟩
    · right
      rw [if_neg hlt, aIx_k (by omega) (by decide), (hkx 131 k (by omega)).1, uI_i (by decide), e131, sIx_k (by omega) (by decide), nI_add1]
      refine ⟨by omega, _, ⟨hkx.I rfl, fun j q => ?_⟩, rfl⟩
      by_cases e : j = k
      · rw [e, uI_s]
      · rw [uI_j e]
        exact hj j (by omega)
  have kk : Kp (fun i j => i = 95 ∨ (i = 6 ∧ j = 2) ∨ i = 132 ∨ (i = 103 ∧ j = 48)) σ σ2 := ((c2.le (fun i j q => by omega)).tr (Kp.rf.I (a := 103) (b := 48) (by omega))).tr (d2.le (fun i j q => by omega))
  refine ⟨siI σ 94 0, σ1, σ2, c1, by rw [d1, h1 0 (by omega)], ⟨fun j hj => ?_, fun j hj => ?_, ?_, ?_⟩, kk.le (fun i j q => by unfold eeR; omega)⟩
  · rw [(kk 94 j (by omega)).1, (kk 131 j (by omega)).1]
    exact h1 j hj
  · rw [d3 j hj, (d2 95 j (by omega)).1, uI_i (by decide), c3 j hj]
    exact h1 j hj
  · rw [(d2 6 2 (by omega)).1, uI_i (by decide), c4, (d2 103 48 (by omega)).1, uI_s]
  · rw [(d2 6 2 (by omega)).1, uI_i (by decide), c4]
    exact Or.inr rfl
theorem s_back2 {N : Nat} (hN : 8 < N) {σ : Sx} (h : ReE σ) : StI ReE eeR σ (F_X9_back σ) (F_X10_back N) := by
  obtain ⟨h1, h2, h3, h4⟩ := id h
  by_cases hz : siI σ 6 2 = 0
  · refine ⟨-5, σ, σ, ?_, by rw [F_X10_back, ← h3, if_pos hz], h, Kp.rf⟩
    rw [F_X9_back, F_X3_layBack, nmx_s, if_pos hz]
    dsimp only
    rw [hz]
    rfl
  have h62 : siI σ 6 2 = 1 := h4.resolve_left hz
  obtain ⟨σ1, c1, c2, c3⟩ : ∃ σ1, F_X9_back σ = some (siI σ 95 0, σ1) ∧ Kp (fun i _ => i = 94) σ σ1 ∧ ∀ j, j < 4 → siI σ1 94 j = siI σ 95 j := by
    rw [F_X9_back, F_X3_layBack, nmx_s, if_neg hz]
    obtain ⟨σ1, c1, c2, c3⟩ := cp4 (σ := σ) (a := 95) (c := 94) (fun σ2 => (fun (σ1 : Sx) => rZx (siI σ1 6 2) σ1) σ2)
    rw [c1]
    dsimp only
    rw [(c2 6 2 (by omega)).1, h62, rZx, if_pos (Or.inr rfl), clx_s, if10, F_X3_told, aIx_0 (by decide) (by decide), clx_s, c3 0 (by decide)]
    exact ⟨σ1, rfl, c2, c3⟩
  have e132 : ∀ j, siI σ1 132 j = siI σ 132 j := fun j => (c2 132 j (by omega)).1
  obtain ⟨σ2, d1, d2, d3⟩ : ∃ σ2, F_X10_back N σ1 = some (siI σ 132 0, σ2) ∧ Kp (fun i _ => i = 131) σ1 σ2 ∧ ∀ j, j < 4 → siI σ2 131 j = siI σ 132 j := by
    unfold F_X10_back
    rw [(c2 103 48 (by omega)).1, ← h3, if_neg hz, nmx_s]
    refine lp1U (Q := fun o => ∃ σ2, o = some (siI σ 132 0, σ2) ∧ Kp (fun i _ => i = 131) σ1 σ2 ∧ ∀ j, j < 4 → siI σ2 131 j = siI σ 132 j) 4 (fun k σx => Kp (fun i _ => i = 131) σ1 σx ∧ ∀ j, j < k → siI σx 131 j = siI σ 132 j) ?_ (i := 0) (Nat.zero_le _) (by omega) ⟨Kp.rf, fun j q => absurd q (Nat.not_lt_zero _)⟩
    rintro r k σx hk ⟨hkx, hj⟩
    unfold B_X10_back_L12
    rw [show (4 : Int32) = nI 4 from rfl, ite_le (by decide) (by omega)]
    by_cases hlt : 4 ≤ k
    · left
      rw [if_pos hlt]
      dsimp only
      rw [aIx_0 (by decide) (by decide), hj 0 (by omega)]
      exact ⟨σx, rfl, hkx, fun j q => hj j (by omega)⟩
    · right
      rw [if_neg hlt, aIx_k (by omega) (by decide), (hkx 132 k (by omega)).1, e132, sIx_k (by omega) (by decide), nI_add1]
      refine ⟨by omega, _, ⟨hkx.I rfl, fun j q => ?_⟩, rfl⟩
      by_cases e : j = k
      · rw [e, uI_s]
      · rw [uI_j e]
        exact hj j (by omega)
  have kk : Kp (fun i _ => i = 94 ∨ i = 131) σ σ2 := (c2.le (fun i j q => by omega)).tr (d2.le (fun i j q => by omega))
  refine ⟨siI σ 95 0, σ1, σ2, c1, by rw [d1, h2 0 (by omega)], ⟨fun j hj => ?_, fun j hj => ?_, ?_, ?_⟩, kk.le (fun i j q => by unfold eeR; omega)⟩
  · rw [d3 j hj, (d2 94 j (by omega)).1, c3 j hj]
    exact h2 j hj
  · rw [(kk 95 j (by omega)).1, (kk 132 j (by omega)).1]
    exact h2 j hj
  · rw [(kk 6 2 (by omega)).1, (kk 103 48 (by omega)).1]
    exact h3
  · rw [(kk 6 2 (by omega)).1]
    exact h4
def rsR (i j : Nat) : Prop := (i = 8 ∧ j = 0) ∨ i = 101 ∨ (10 ≤ i ∧ i ≤ 21) ∨ (i = 103 ∧ j = 49) ∨ i = 133 ∨ (135 ≤ i ∧ i ≤ 137)
theorem RelS.of {σ σ2 : Sx} (h : RelS σ) (e : ∀ i j, rsR i j → siI σ2 i j = siI σ i j ∧ siL σ2 i j = siL σ i j) : RelS σ2 := by
  obtain ⟨nb, h0, h1, h2, h3, h4⟩ := h
  have eI : ∀ i j, rsR i j → siI σ2 i j = siI σ i j := fun i j q => (e i j q).1
  have eL : ∀ i j, rsR i j → siL σ2 i j = siL σ i j := fun i j q => (e i j q).2
  refine ⟨nb, h0, by rw [eI _ _ (by unfold rsR; omega)]; exact h1, by rw [eI _ _ (by unfold rsR; omega)]; exact h2, fun j hj => ?_, fun q hq => ?_⟩
  · obtain ⟨a, g1, g2, g3⟩ := h3 j hj
    exact ⟨a, g1, by rw [eI _ _ (by unfold rsR; omega)]; exact g2, by rw [eI _ _ (by unfold rsR; omega)]; exact g3⟩
  · rcases h4 q hq with ⟨g1, g2⟩ | ⟨b, g0, g1, g2, g3⟩ | ⟨t, z, g1, g2, g3, g4, g5, g6, g7⟩
    · exact Or.inl ⟨by rw [eI _ _ (by unfold rsR; omega)]; exact g1, by rw [eI _ _ (by unfold rsR; omega)]; exact g2⟩
    · exact Or.inr (Or.inl ⟨b, g0, by rw [eI _ _ (by unfold rsR; omega)]; exact g1, by rw [eI _ _ (by unfold rsR; omega)]; exact g2, by rw [eI _ _ (by unfold rsR; omega), eI _ _ (by unfold rsR; omega)]; exact g3⟩)
    · refine Or.inr (Or.inr ⟨t, z, g1, g2, by rw [eI _ _ (by unfold rsR; omega)]; exact g3, by rw [eI _ _ (by unfold rsR; omega)]; exact g4, by rw [eI _ _ (by unfold rsR; omega)]; exact g5, by rw [eI _ _ (by unfold rsR; omega)]; exact g6, fun j hj => ?_⟩)
      rw [eL _ _ (by unfold rsR; omega), eL _ _ (by unfold rsR; omega)]
      exact g7 j hj
