/-! OBSERVE, FORGET, SETTLE -/
theorem andc {a b : Nat} (ha : a < 2 ^ 20) : nI a &&& (nI b ^^^ (-1 : Int32)) = nI (bst 20 (fun i => a.testBit i && !b.testBit i)) := by
  apply Int32.toBitVec_inj.mp
  apply BitVec.eq_of_getLsbD_eq
  intro i hi
  show ((BitVec.ofNat 32 a) &&& ((BitVec.ofNat 32 b) ^^^ (BitVec.allOnes 32))).getLsbD i = (BitVec.ofNat 32 (bst 20 (fun i => a.testBit i && !b.testBit i))).getLsbD i
  rw [BitVec.getLsbD_and, BitVec.getLsbD_xor, BitVec.getLsbD_ofNat, BitVec.getLsbD_ofNat, BitVec.getLsbD_ofNat, BitVec.getLsbD_allOnes, bst_tb]
  by_cases h : i < 20
  · simp [h, hi]
  · have : a.testBit i = false := Nat.testBit_lt_two_pow (Nat.lt_of_lt_of_le ha (Nat.pow_le_pow_right (by decide) (by omega)))
    simp [h, this]
theorem tb15 (w i : Nat) : (15 * 2 ^ (4 * w)).testBit i = decide (i / 4 = w) := by
  rw [Nat.testBit_mul_two_pow, show (15 : Nat) = 2 ^ 4 - 1 from rfl, Nat.testBit_two_pow_sub_one]
  by_cases h : i / 4 = w
  · simp [h, show 4 * w ≤ i by omega, show i - 4 * w < 4 by omega]
  · by_cases h2 : 4 * w ≤ i
    · simp [h, h2, show ¬ i - 4 * w < 4 by omega]
    · simp [h, h2]
/-- what w sees as it starts -/
def V0 (W : Wd) (w i : Nat) : Bool := decide (i < 4 * W 0 0) && trk W i (W 6 (32 * w)) (W 2 w) && !decide (i / 4 = w)
theorem first_len {W : Wd} (ok : okW W) {w : Nat} (hw : w < W 0 0) : 1 ≤ W 5 (4 * w) := by
  have hn := ok.nw
  have h := (ok.2.1 w hw).2.2.2.1
  exact ((ok.2.2.2.1 (4 * w) (by omega)).1 (by rw [show 4 * w / 4 = w by omega, show 4 * w % 4 = 0 by omega]; omega)).1
theorem first_plc {W : Wd} (ok : okW W) {w : Nat} (hw : w < W 0 0) : W 6 (32 * w) < 8 := by
  have hn := ok.nw
  have := ok.plc (i := 4 * w) (k := 0) (by omega) (first_len ok hw)
  rw [show 8 * (4 * w) + 0 = 32 * w by omega] at this
  exact this
theorem C_firstPlace {W : Wd} {σ : Sx} (ok : okW W) (h : cW W σ) {w : Nat} (hw : w < W 0 0) : F_X2_firstPlace (nI w) σ = some (nI (W 6 (32 * w)), σ) := by
  have hn := ok.nw
  unfold F_X2_firstPlace
  rw [show F_X8_wayIndex (nI w) (0 : Int32) σ = _ from C_wayIndex w 0, clx_s, Nat.add_zero, aRx_k (show 4 * w < 20 by omega) (by decide)]
  rw [aIx_0 (by decide) (by decide), (h.2.2.2.2.1 (4 * w) (by omega) 0 (first_len ok hw)).1, show 8 * (4 * w) + 0 = 32 * w by omega]
def cV0 (W : Wd) (σ : Sx) : Prop := ∀ w, w < W 0 0 → siI σ 85 w = nI (bst 20 (V0 W w)) ∧ siI σ 86 w = nI 0
def T0 (W : Wd) (w i : Nat) : Bool := trk W i (W 6 (32 * w)) (W 2 w) && !decide (i / 4 = w)
theorem noOwn_T0 (W : Wd) : noOwn W (T0 W) := fun w _ v hv => by
  unfold T0
  rw [div4u hv]
  simp
theorem cT_of0 {W : Wd} {σ : Sx} (h : cV0 W σ) : cT W (T0 W) σ := by
  refine ⟨V0 W, fun _ _ => false, fun w hw => ⟨(h w hw).1, ?_⟩, fun w _ u hu v hv => ?_⟩
  · rw [(h w hw).2]
    have : bst (W 0 0) (fun _ => false) = 0 := by
      generalize W 0 0 = n
      induction n with
      | zero => rfl
      | succ n ih => rw [bst, ih]; rfl
    rw [this]
  · unfold V0 T0
    simp [show 4 * u + v < 4 * W 0 0 by omega]
def rgO (i _j : Nat) : Prop := i = 85 ∨ i = 86
theorem C_observe {W : Wd} {σ : Sx} {N : Nat} (hN : 20 < N) (ok : okW W) (h : cW W σ) : ∃ b σ2, F_X2_observe N σ = some (b, σ2) ∧ (b = 0 ∨ b = 1) ∧ (b = 0 → ∀ w, w < W 0 0 → siI σ2 85 w = siI σ 85 w) ∧ Kp rgO σ σ2 ∧ cV0 W σ2 := by
  have hn := ok.nw
  unfold F_X2_observe
  rw [nmx_s]
  refine lp2U (Q := fun o => ∃ b σ2, o = some (b, σ2) ∧ (b = 0 ∨ b = 1) ∧ (b = 0 → ∀ w, w < W 0 0 → siI σ2 85 w = siI σ 85 w) ∧ Kp rgO σ σ2 ∧ cV0 W σ2) (W 0 0) (fun w x σ2 => (x = 0 ∨ x = 1) ∧ (x = 0 → ∀ u, u < W 0 0 → siI σ2 85 u = siI σ 85 u) ∧ Kp rgO σ σ2 ∧ (∀ u, u < w → siI σ2 85 u = nI (bst 20 (V0 W u))) ∧ ∀ u, w ≤ u → siI σ2 85 u = siI σ 85 u) ?_ (i := 0) (Nat.zero_le _) (by omega) ⟨Or.inl rfl, fun _ _ _ => rfl, Kp.rf, fun u q => absurd q (Nat.not_lt_zero _), fun _ _ => rfl⟩
  rintro r w x σ2 hw ⟨hx, hx0, hk, hv, hr⟩
  have hc2 : cW W σ2 := h.kp hk (fun i j q => by unfold cwR at q; unfold rgO; omega)
  unfold B_X2_observe_L4
  rw [hc2.1, ite_le (by omega) (by omega)]
  by_cases hlt : W 0 0 ≤ w
  · left
    rw [if_pos hlt]
    obtain ⟨σ3, g1, g2, g3⟩ := fillI (N := N) (i := 86) (n := 5) (v := 0) (by decide) (by omega) σ2
    dsimp only
    rw [g1, clx_s]
    have hz : rZx x σ3 = some (x, σ3) := by
      unfold rZx
      rw [if_pos hx]
    refine ⟨x, σ3, hz, hx, fun q u hu => ?_, hk.tr (g2.le (fun i j q => Or.inr q.1)), fun u hu => ⟨?_, ?_⟩⟩
    · rw [(g2 85 u (by omega)).1]
      exact hx0 q u hu
    · rw [(g2 85 u (by omega)).1]
      exact hv u (by omega)
    · exact g3 u (by omega)
  right
  have hw2 : w < W 0 0 := by omega
  obtain ⟨-, hst, -⟩ := ok.2.1 w hw2
  have hfp := first_plc ok hw2
  have hbl : bst (4 * W 0 0) (fun i => trk W i (W 6 (32 * w)) (W 2 w)) < 2 ^ 20 := Nat.lt_of_lt_of_le (bst_lt _ _) (Nat.pow_le_pow_right (by decide) (by omega))
  have hvis : nI (bst (4 * W 0 0) (fun i => trk W i (W 6 (32 * w)) (W 2 w))) &&& (nI (15 * 2 ^ (4 * w)) ^^^ (-1 : Int32)) = nI (bst 20 (V0 W w)) := by
    rw [andc hbl]
    congr 1
    refine bst_congr (fun i _ => ?_)
    rw [bst_tb, tb15]
    rfl
  have h15 : jshl (15 : Int32) (nI (4 * w)) = nI (15 * 2 ^ (4 * w)) := by
    have : 2 ^ (4 * w) ≤ 2 ^ 16 := Nat.pow_le_pow_right (by decide) (by omega)
    exact shlI (a := 15) (by omega) (by omega)
  refine ⟨hw2, ?_⟩
  rw [if_neg hlt, C_firstPlace ok hc2 hw2, clx_s, C_start ok hc2 hw2, clx_s, C_tracks hN ok hc2 (by omega) (by omega), clx_s]
  unfold F_X8_allWaysOf
  rw [clx_s, mul4L, h15, hvis, nmx_s, nmx_s, nmx_s, nI_add1]
  have done : ∀ y : Int32, (y = 0 ∨ y = 1) → (y = 0 → x = 0 ∧ nI (bst 20 (V0 W w)) = siI σ 85 w) → ∃ x' σ', ((x' = 0 ∨ x' = 1) ∧ (x' = 0 → ∀ u, u < W 0 0 → siI σ' 85 u = siI σ 85 u) ∧ Kp rgO σ σ' ∧ (∀ u, u < w + 1 → siI σ' 85 u = nI (bst 20 (V0 W u))) ∧ ∀ u, w + 1 ≤ u → siI σ' 85 u = siI σ 85 u) ∧ (sIx 85 5 (nI w) (nI (bst 20 (V0 W w))) σ2 (fun σ9 => r y (nI (w + 1)) σ9)) = r x' (nI (w + 1)) σ' := by
    intro y hy hy0
    refine ⟨y, upI σ2 85 w (nI (bst 20 (V0 W w))), ⟨hy, fun q u hu => ?_, hk.I (Or.inl rfl), fun u hu => ?_, fun u hu => ?_⟩, by rw [sIx_k (show w < 5 by omega) (by decide)]⟩
    · obtain ⟨q1, q2⟩ := hy0 q
      by_cases e : u = w
      · subst e
        rw [uI_s, q2]
      · rw [uI_j e]
        exact hx0 q1 u hu
    · by_cases e : u = w
      · subst e
        rw [uI_s]
      · rw [uI_j e]
        exact hv u (by omega)
    · rw [uI_j (by omega)]
      exact hr u (by omega)
  rcases hx with rfl | rfl
  · rw [if_pos rfl, aIx_k (show w < 5 by omega) (by decide), hr w (Nat.le_refl _)]
    by_cases e : nI (bst 20 (V0 W w)) = siI σ 85 w
    · rw [if_pos e]
      exact done 0 (Or.inl rfl) (fun _ => ⟨rfl, e⟩)
    · rw [if_neg e]
      exact done 1 (Or.inr rfl) (fun q => absurd q (by decide))
  · rw [if_neg (by decide)]
    exact done 1 (Or.inr rfl) (fun q => absurd q (by decide))
theorem cK_zero {G : Gt} {W : Wd} {σ : Sx} (ok : okW W) (h : ∀ j, j < 160 → siI σ 87 j = 0) : cK G W σ := fun w hw s hs => Or.inl (h _ (by have := ok.nw; omega))
/-- ready: all is reckoned -/
def cRd (N : Nat) (G : Gt) (W : Wd) (σ : Sx) : Prop := cW W σ ∧ LC N G σ ∧ cV0 W σ ∧ cK G W σ ∧ lsW W (W 0 0) σ ∧ gHd G W (T0 W) σ
theorem cRd.D {N : Nat} {G : Gt} {W : Wd} {σ : Sx} (h : cRd N G W σ) : cD N G W (T0 W) σ := ⟨h.1, h.2.1, cT_of0 h.2.2.1, h.2.2.2.1⟩
theorem cRd.kp {N : Nat} {G : Gt} {W : Wd} {σ σ2 : Sx} {reg : Nat → Nat → Prop} (h : cRd N G W σ) (k : Kp reg σ σ2) (d : ∀ i j, (cwR i j ∨ lcR i j ∨ (83 ≤ i ∧ i ≤ 88) ∨ (i = 3 ∧ (j = 5 ∨ j = 10))) → ¬ reg i j) : cRd N G W σ2 := by
  obtain ⟨h1, h2, h3, h4, h5, h6⟩ := h
  have e : ∀ i j, ((83 ≤ i ∧ i ≤ 88) ∨ (i = 3 ∧ (j = 5 ∨ j = 10))) → siI σ2 i j = siI σ i j := fun i j q => (k i j (d i j (Or.inr (Or.inr (by omega))))).1
  refine ⟨h1.kp k (fun i j q => d i j (Or.inl q)), h2.kp k (fun i j q => d i j (Or.inr (Or.inl q))), fun w hw => ?_, h4.of (fun j => e 87 j (by omega)), h5.of (fun i j q => e i j (by unfold rgL at q; omega)), ?_, h6.2.of (fun j => e 88 j (by omega))⟩
  · rw [e 85 w (by omega), e 86 w (by omega)]
    exact h3 w hw
  · rw [e 3 10 (by omega)]
    exact h6.1
/-- what was worked out may change -/
theorem cRd.up {N : Nat} {G : Gt} {W : Wd} {σ σ2 : Sx} (h : cRd N G W σ) (k : Kp rgW σ σ2) (hk : cK G W σ2) : cRd N G W σ2 := by
  obtain ⟨h1, h2, h3, h4, h5, h6⟩ := h
  have e : ∀ i j, ((83 ≤ i ∧ i ≤ 86) ∨ i = 88 ∨ (i = 3 ∧ (j = 5 ∨ j = 10))) → siI σ2 i j = siI σ i j := fun i j q => (k i j (by unfold rgW; omega)).1
  refine ⟨h1.kp k (fun i j q => by unfold cwR at q; unfold rgW; omega), h2.kp k (fun i j q => by unfold lcR at q; unfold rgW; omega), fun w hw => ?_, hk, h5.of (fun i j q => e i j (by unfold rgL at q; omega)), ?_, h6.2.of (fun j => e 88 j (by omega))⟩
  · rw [e 85 w (by omega), e 86 w (by omega)]
    exact h3 w hw
  · rw [e 3 10 (by omega)]
    exact h6.1
def rgD (i j : Nat) : Prop := (83 ≤ i ∧ i ≤ 88) ∨ (i = 3 ∧ (j = 5 ∨ j = 10 ∨ j = 2)) ∨ (i = 2 ∧ j = 8) ∨ i = 82
theorem C_settle {N : Nat} (hN : 1024 < N) {G : Gt} {W : Wd} {σ : Sx} (ok : okW W) (h1 : cW W σ) (h2 : LC N G σ) (h : siI σ 3 2 = 1 ∨ (siI σ 3 2 = 0 ∧ cRd N G W σ)) : ∃ σ2, F_X2_settle N σ = some ((), σ2) ∧ Kp rgD σ σ2 ∧ siI σ2 3 2 = 0 ∧ cRd N G W σ2 := by
  unfold F_X2_settle
  rcases h with h | ⟨h, hr⟩
  · obtain ⟨σ2, a1, a2, a3⟩ := C_list hN ok h1.1 h1.2.2.1
    have b1 : cW W σ2 := h1.kp a2 (fun i j q => by unfold cwR at q; unfold rgL; omega)
    have b2 : LC N G σ2 := h2.kp a2 (fun i j q => by unfold lcR at q; unfold rgL; omega)
    obtain ⟨b, σ3, c1, -, -, c2, c3⟩ := C_observe (N := N) (by omega) ok b1
    obtain ⟨σ4, d1, d2, d3⟩ := fillI (N := N) (i := 87) (n := 160) (v := 0) (by decide) (by omega) σ3
    have e1 : F_X2_forget N σ3 = some ((), σ4) := by
      unfold F_X2_forget
      rw [d1, clx_s]
    have k34 : Kp (fun i _ => i = 85 ∨ i = 86 ∨ i = 87) σ2 σ4 := (c2.le (fun i j q => by unfold rgO at q; omega)).tr (d2.le (fun i j q => by omega))
    have f1 : cW W σ4 := b1.kp k34 (fun i j q => by unfold cwR at q; omega)
    have f2 : LC N G σ4 := b2.kp k34 (fun i j q => by unfold lcR at q; omega)
    have f3 : cV0 W σ4 := fun w hw => by
      rw [(d2 85 w (by omega)).1, (d2 86 w (by omega)).1]
      exact c3 w hw
    have f4 : cK G W σ4 := cK_zero ok (fun j hj => d3 j hj)
    have f5 : lsW W (W 0 0) σ4 := a3.of (fun i j q => (k34 i j (by unfold rgL at q; omega)).1)
    obtain ⟨σ5, g1, g2, g3, g4⟩ := C_gather hN ok (noOwn_T0 W) ⟨f1, f2, cT_of0 f3, f4⟩ f5
    rw [h, if_neg (by decide), a1, clx_s, c1, clx_s, e1, clx_s, g1, clx_s]
    have k25 : Kp rgD σ σ5 := ((a2.le (fun i j q => by unfold rgL at q; unfold rgD; omega)).tr (k34.le (fun i j q => by unfold rgD; omega))).tr (g2.le (fun i j q => by unfold rgH rgW at q; unfold rgD; omega))
    refine ⟨upI σ5 3 2 0, rfl, k25.I (Or.inr (Or.inl ⟨rfl, Or.inr (Or.inr rfl)⟩)), uI_s, ?_⟩
    have hr5 : cRd N G W σ5 := ⟨g3.1, g3.2.1, fun w hw => by
      rw [(g2 85 w (by unfold rgH rgW; omega)).1, (g2 86 w (by unfold rgH rgW; omega)).1]
      exact f3 w hw, g3.2.2.2, f5.of (fun i j q => (g2 i j (by unfold rgL at q; unfold rgH rgW; omega)).1), g4⟩
    refine hr5.kp (Kp.rf.I (reg := fun i j => i = 3 ∧ j = 2) ⟨rfl, rfl⟩) (fun i j q => ?_)
    unfold cwR lcR at q
    omega
  · rw [if_pos h]
    exact ⟨σ, rfl, Kp.rf, h, hr⟩
