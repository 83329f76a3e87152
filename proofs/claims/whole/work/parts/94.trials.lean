/-! TRIALS: feigned, flood -/
theorem C_spoil (σ : Sx) : F_X2_spoil σ = some ((), upI σ 3 2 1) := by
  unfold F_X2_spoil pZx
  rw [if_pos (Or.inr rfl)]
/-- how many hold, or the first, as told -/
def hdR (G : Gt) (W : Wd) (T : Nat → Nat → Bool) (what : Int32) : Int32 := if what = 0 then nI (hlL G W T).length else if (hlL G W T).length = 0 then -2 else nI ((mlL G W T).getD 0 0)
theorem C_held0 {G : Gt} {W : Wd} {T : Nat → Nat → Bool} {σ : Sx} (ok : okW W) (hl : lsW W (W 0 0) σ) (h : gHd G W T σ) : F_X2_heldDay (0 : Int32) σ = some ((if (hlL G W T).length = 0 then -2 else nI ((mlL G W T).getD 0 0)), σ) := by
  have hlen := hl_1024 (G := G) (T := T) ok
  have hsz := szN_1024 ok ok.nw
  unfold F_X2_heldDay
  rw [if_neg (by decide), h.1]
  by_cases hz : (hlL G W T).length = 0
  · rw [if_pos hz, hz, if_pos (by decide)]
  · have hx := hl_at (G := G) (W := W) (T := T) (h := 0) (by omega)
    rw [if_neg hz, if_neg (show ¬ nI _ ≤ (0 : Int32) from nI_nle (by omega) (by omega)), aIx_0 (by decide) (by decide), h.2 0 (by omega), aIx_k (show _ < 1024 by omega) (by decide), (hl.2 _ hx).1, (ml_at ok (by omega)).2]
theorem C_countTried {N : Nat} (hN : 1024 < N) {G : Gt} {W : Wd} {T : Nat → Nat → Bool} {σ : Sx} (ok : okW W) (hT : noOwn W T) (h : cD N G W T σ) (hl : lsW W (W 0 0) σ) {what : Int32} (h01 : what = 0 ∨ what = 1) : ∃ σ2, F_X7_countTried N what σ = some (hdR G W T what, upI σ2 3 2 1) ∧ Kp rgH σ σ2 := by
  obtain ⟨σ2, g1, g2, g3, g4⟩ := C_gather hN ok hT h hl
  have hl2 : lsW W (W 0 0) σ2 := hl.of (fun i j q => (g2 i j (by unfold rgL at q; unfold rgH rgW; omega)).1)
  refine ⟨σ2, ?_, g2⟩
  unfold F_X7_countTried hdR
  rw [g1, clx_s, nmx_s]
  rcases h01 with rfl | rfl
  · rw [if_pos rfl, if_pos rfl, g4.1]
    dsimp only
    rw [C_spoil, clx_s]
  · rw [if_neg (by decide), if_neg (by decide), C_held0 ok hl2 g4, clx_s]
    dsimp only
    rw [C_spoil, clx_s]
theorem M_heldBy {G : Gt} {W : Wd} {T : Nat → Nat → Bool} {σ : Sx} (ok : okW W) (h : mH G W T σ) {what : Int32} (h01 : what = 0 ∨ what = 1) : F_X10_heldBy what σ = some (hdR G W T what, σ) := by
  have hlen := hl_1024 (G := G) (T := T) ok
  unfold F_X10_heldBy hdR
  rw [h.1, ml_len ok]
  rcases h01 with rfl | rfl
  · rw [if_pos rfl, if_pos rfl]
  · simp only [if10]
    by_cases hz : (hlL G W T).length = 0
    · rw [if_pos hz, hz]
      rfl
    · rw [if_neg hz, if_neg (nI_ne0 (by omega) (by omega)), aIx_0 (by decide) (by decide), h.2 0 (by rw [ml_len ok]; omega)]
theorem hdR_eq {G : Gt} {W : Wd} {T T2 : Nat → Nat → Bool} (ok : okW W) (h : eqT W T T2) (what : Int32) : hdR G W T what = hdR G W T2 what := by
  unfold hdR
  rw [h.hl, h.ml ok]
/-- stale, and the world as it was -/
theorem RW.stale {N : Nat} {W : Wd} {G : Gt} {b : Bool} {σ σ2 : Sx} (h : RW N W G b σ) (e : ∀ i j, rwR i j → siI σ2 i j = siI σ i j) (hs : siI σ2 3 2 = 1) : RW N W G b σ2 := h.mk2 e (Or.inl hs)
/-- with w's tracks drawn in the place p -/
def TF (W : Wd) (w p w2 i : Nat) : Bool := (trk W i (W 6 (32 * w2)) (W 2 w2) || decide (i / 4 = w ∧ W 6 (32 * w2) = p)) && !decide (i / 4 = w2)
theorem C_paint {N : Nat} (hN : 8 < N) {W : Wd} {σ : Sx} (ok : okW W) (h : cW W σ) (hv : cV0 W σ) {w p : Nat} (hw : w < W 0 0) (hp : p < 8) : ∃ σ2, F_X2_paint N (nI w) (nI p) σ = some ((), σ2) ∧ Kp (fun i _ => i = 86) σ σ2 ∧ cT W (TF W w p) σ2 := by
  have hn := ok.nw
  unfold F_X2_paint
  refine lp1U (Q := fun o => ∃ σ2, o = some ((), σ2) ∧ Kp (fun i _ => i = 86) σ σ2 ∧ cT W (TF W w p) σ2) (W 0 0) (fun i σ2 => Kp (fun i _ => i = 86) σ σ2 ∧ (∀ j, j < W 0 0 → i ≤ j → siI σ2 86 j = nI 0) ∧ ∀ j, j < i → siI σ2 86 j = nI (bst (W 0 0) (fun u => decide (u = w ∧ j ≠ w ∧ W 6 (32 * j) = p)))) ?_ (i := 0) (Nat.zero_le _) (by omega) ⟨Kp.rf, fun j hj _ => (hv j hj).2, fun j q => absurd q (Nat.not_lt_zero _)⟩
  rintro r i σ2 hi ⟨hk, h1, h2⟩
  have hc2 : cW W σ2 := h.kp hk (fun i j q => by unfold cwR at q; omega)
  unfold B_X2_paint_L2
  rw [hc2.1, ite_le (by omega) (by omega)]
  by_cases hlt : W 0 0 ≤ i
  · left
    rw [if_pos hlt]
    refine ⟨σ2, rfl, hk, V0 W, fun w2 u => decide (u = w ∧ w2 ≠ w ∧ W 6 (32 * w2) = p), fun w2 hw2 => ⟨by rw [(hk 85 w2 (by omega)).1]; exact (hv w2 hw2).1, h2 w2 (by omega)⟩, fun w2 hw2 u hu v hv2 => ?_⟩
    unfold TF V0
    rw [div4u hv2]
    have e1 : decide (4 * u + v < 4 * W 0 0) = true := decide_eq_true (by omega)
    rw [e1, Bool.true_and]
    by_cases q1 : u = w2
    · by_cases q2 : u = w
      · simp [q1, show w2 = w by omega]
      · simp [q1, show ¬ w2 = w by omega]
    · by_cases q2 : u = w
      · have q3 : w2 ≠ w := by omega
        simp [q1, q2, q3, show ¬ w = w2 by omega]
      · simp [q1, q2]
  right
  have hi2 : i < W 0 0 := by omega
  have hfp := first_plc ok hi2
  refine ⟨hi2, ?_⟩
  have bz : ∀ f : Nat → Bool, (∀ j, f j = false) → bst (W 0 0) f = 0 := fun f hf => by
    generalize W 0 0 = n
    induction n with
    | zero => rfl
    | succ n ih => rw [bst, ih, hf]; rfl
  have keep : (i = w ∨ W 6 (32 * i) ≠ p) → ∃ σ', (Kp (fun i _ => i = 86) σ σ' ∧ (∀ j, j < W 0 0 → i + 1 ≤ j → siI σ' 86 j = nI 0) ∧ ∀ j, j < i + 1 → siI σ' 86 j = nI (bst (W 0 0) (fun u => decide (u = w ∧ j ≠ w ∧ W 6 (32 * j) = p)))) ∧ r (nI (i + 1)) σ2 = r (nI (i + 1)) σ' := fun q => by
    refine ⟨σ2, ⟨hk, fun j hj z => h1 j hj (by omega), fun j hj => ?_⟩, rfl⟩
    by_cases e : j = i
    · rw [e, h1 i hi2 (Nat.le_refl _), bz _ (fun u => ?_)]
      apply decide_eq_false
      rintro ⟨-, z1, z2⟩
      rcases q with q | q
      · exact z1 q
      · exact q z2
    · exact h2 j (by omega)
  rw [if_neg hlt, nmx_s, ite_eq (by omega) (by omega), nI_add1]
  by_cases e : i = w
  · rw [if_pos e]
    exact keep (Or.inl e)
  · rw [if_neg e, C_firstPlace ok hc2 hi2, clx_s, ite_eq (by omega) (by omega)]
    by_cases e2 : W 6 (32 * i) = p
    · rw [if_pos e2, aIx_k (show i < 5 by omega) (by decide), h1 i hi2 (Nat.le_refl _), shl1 (by omega), orI, Nat.zero_or, sIx_k (show i < 5 by omega) (by decide)]
      refine ⟨_, ⟨hk.I rfl, fun j hj z => by rw [uI_j (by omega)]; exact h1 j hj (by omega), fun j hj => ?_⟩, rfl⟩
      by_cases e3 : j = i
      · rw [e3, uI_s]
        refine congrArg nI ?_
        apply Nat.eq_of_testBit_eq
        intro u
        rw [bst_tb, Nat.testBit_two_pow]
        by_cases z : u = w
        · simp [z, e, e2, hw]
        · simp [z, show ¬ w = u by omega]
      · rw [uI_j e3]
        exact h2 j (by omega)
    · rw [if_neg e2]
      exact keep (Or.inr e2)
theorem noOwn_TF (W : Wd) (w p : Nat) : noOwn W (TF W w p) := fun w2 _ v hv => by
  unfold TF
  rw [div4u hv]
  simp
theorem s_feigned {N : Nat} (hN : 1100 < N) (a0 a1 a2 : Int32) {σ : Sx} (h : ReW N σ) : StI (ReW N) rgA σ (F_X9_feigned N a0 a1 a2 σ) (F_X10_feigned N a0 a1 a2) := by
  obtain ⟨W, G, b, h⟩ := h
  obtain ⟨ok, hc, hm⟩ := h.of3
  have hn := ok.nw
  rcases two_walker ok a0 hc.1 hm.1 with ⟨e1, e2⟩ | ⟨w, hw, rfl, e1, e2⟩
  · exact ⟨-1, σ, σ, by rw [F_X9_feigned, e1]; rfl, by rw [F_X10_feigned, e2]; rfl, ⟨W, G, b, h⟩, Kp.rf⟩
  rcases two_place a1 σ with ⟨e3, e4⟩ | ⟨p, hp, rfl, e3, e4⟩
  · exact ⟨-1, σ, σ, by rw [F_X9_feigned, e1, clx_s, if10, e3]; rfl, by rw [F_X10_feigned, e2, clx_s, if10, e4]; rfl, ⟨W, G, b, h⟩, Kp.rf⟩
  rcases two_01 a2 σ with ⟨e5, e6⟩ | ⟨h01, e5, e6⟩
  · exact ⟨-1, σ, σ, by rw [F_X9_feigned, e1, clx_s, if10, e3, clx_s, if10, e5]; rfl, by rw [F_X10_feigned, e2, clx_s, if10, e4, clx_s, if10, e6]; rfl, ⟨W, G, b, h⟩, Kp.rf⟩
  obtain ⟨σ1, s1, s2, h1, hr, h0⟩ := h.stale0 (by omega)
  obtain ⟨r1, r2, r3, r4, r5, r6⟩ := hr
  obtain ⟨σ2, p1, p2, p3⟩ := C_paint (N := N) (by omega) ok r1 r3 hw hp
  have hD : cD N G W (TF W w p) σ2 := ⟨r1.kp p2 (fun i j q => by unfold cwR at q; omega), r2.kp p2 (fun i j q => by unfold lcR at q; omega), p3, r4.of (fun j => (p2 87 j (by omega)).1)⟩
  have hl2 : lsW W (W 0 0) σ2 := r5.of (fun i j q => (p2 i j (by unfold rgL at q; omega)).1)
  obtain ⟨σ3, g1, g2⟩ := C_countTried (N := N) (by omega) ok (noOwn_TF W w p) hD hl2 h01
  have k3 : Kp rgD σ1 (upI σ3 3 2 1) := ((p2.le (fun i j q => by unfold rgD; omega)).tr (g2.le (fun i j q => by unfold rgH rgW at q; unfold rgD; omega))).I (by unfold rgD; omega)
  generalize hσ : upI σ3 3 2 1 = σ4 at *
  have h4 : RW N W G b σ4 := h1.stale (fun i j q => (k3 i j (by unfold rwR cwR mwR lcR lmR ccR at q; unfold rgD; omega)).1) (by rw [← hσ, uI_s])
  have hm4 := h4.2.2.1
  -- the reference
  generalize hσb : upI (upI σ4 103 32 (nI w)) 103 33 (nI p) = σ5
  have k5 : Kp (fun i j => i = 103 ∧ (j = 32 ∨ j = 33)) σ4 σ5 := by rw [← hσb]; exact (Kp.rf.I (by omega)).I (by omega)
  have hm5 : mW W σ5 := hm4.kp k5 (fun i j q => by unfold mwR at q; omega)
  have hl5 : LM N G σ5 := h4.2.2.2.2.1.kp k5 (fun i j q => by unfold lmR at q; omega)
  obtain ⟨σ6, f1, f2, -, -, f5⟩ := M_findHeld (N := N) (by omega) ok hm5 hl5
  have v32 : siI σ5 103 32 = nI w := by rw [← hσb, uI_j (by decide), uI_s]
  have v33 : siI σ5 103 33 = nI p := by rw [← hσb, uI_s]
  have v34 : siI σ5 103 34 = -1 := by rw [(k5 103 34 (by omega)).1]; exact h4.2.2.2.2.2.2.2.2.1
  have hT : eqT W (TM W (siI σ5 103 32) (siI σ5 103 33) (siI σ5 103 34) (siI σ5 103 35) (siI σ5 103 36)) (TF W w p) := fun w2 hw2 u hu v hv => by
    have hfp := first_plc ok hw2
    unfold TM TF
    rw [v32, v33, v34, div4u hv]
    have e1 : ¬ nI (W 6 (32 * w2)) = (-1 : Int32) := ne_m1 (by omega)
    have e2 : (nI u = nI w ∧ nI (W 6 (32 * w2)) = nI p) ↔ (u = w ∧ W 6 (32 * w2) = p) := and_congr (nI_eq (by omega) (by omega)) (nI_eq (by omega) (by omega))
    simp only [e2]
    simp [e1]
  have f6 : mH G W (TM W (siI σ5 103 32) (siI σ5 103 33) (siI σ5 103 34) (siI σ5 103 35) (siI σ5 103 36)) (upI σ6 103 32 (-1)) := ⟨by rw [uI_j (by decide)]; exact f5.1, f5.2.of (fun j => uI_i (by decide))⟩
  have k6 : Kp (fun i j => rgF i j ∨ (i = 103 ∧ (j = 32 ∨ j = 33))) σ4 (upI σ6 103 32 (-1)) := ((k5.le (fun i j q => Or.inr q)).tr (f2.le (fun i j q => Or.inl q))).I (Or.inr ⟨rfl, Or.inl rfl⟩)
  have h6 : RW N W G b (upI σ6 103 32 (-1)) := by
    refine h4.stale (fun i j q => ?_) (by rw [(k6 3 2 (by unfold rgF; omega)).1, ← hσ, uI_s])
    by_cases e : i = 103 ∧ j = 32
    · obtain ⟨rfl, rfl⟩ := e
      rw [uI_s]
      exact h4.2.2.2.2.2.2.2.1.symm
    · refine (k6 i j ?_).1
      unfold rwR cwR mwR lcR lmR ccR at q
      unfold rgF
      omega
  refine ⟨hdR G W (TF W w p) a2, σ4, upI σ6 103 32 (-1), ?_, ?_, ⟨W, G, b, h6⟩, ((rgA_D s2).tr (rgA_D k3)).tr (k6.le (fun i j q => by unfold rgF at q; unfold rgA otR; omega))⟩
  · rw [F_X9_feigned, e1, clx_s, if10, e3, clx_s, if10, e5, clx_s, if10, s1, clx_s, F_X7_withFalseTracks, p1, clx_s, g1, clx_s, clx_s]
  · have e4' : F_X10_isPlace (nI p) σ4 = some (1, σ4) := by
      rw [M_isPlace_in, M_in, if_neg (nI_pos (by omega)), if_neg (show ¬ (7 : Int32) < nI p from nI_nlt (a := 7) (by omega) (by decide))]
    have e6' : F_X10_in a2 (0 : Int32) (1 : Int32) σ4 = some (1, σ4) := by
      rcases h01 with rfl | rfl <;> rfl
    rw [F_X10_feigned, h4.iw hw, clx_s, if10, e4', clx_s, if10, e6', clx_s, if10, pIx_s, pIx_s, hσb, f1, clx_s, pIx_s, M_heldBy ok f6 h01, clx_s, hdR_eq ok hT]
/-- with a flood in the place p in the minutes x .. y -/
def TX (W : Wd) (p x y w2 i : Nat) : Bool := trk W i (W 6 (32 * w2)) (W 2 w2) && !decide (W 6 (32 * w2) = p ∧ x ≤ W 2 w2 ∧ W 2 w2 ≤ y) && !decide (i / 4 = w2)
theorem C_drown {N : Nat} (hN : 8 < N) {W : Wd} {σ : Sx} (ok : okW W) (h : cW W σ) (hv : cV0 W σ) {p x y : Nat} (hp : p < 8) (hx : x < 2 ^ 30) (hy : y < 2 ^ 30) : ∃ σ2, F_X2_drown N (nI p) (nI x) (nI y) σ = some ((), σ2) ∧ Kp (fun i _ => i = 85) σ σ2 ∧ cT W (TX W p x y) σ2 := by
  have hn := ok.nw
  unfold F_X2_drown
  refine lp1U (Q := fun o => ∃ σ2, o = some ((), σ2) ∧ Kp (fun i _ => i = 85) σ σ2 ∧ cT W (TX W p x y) σ2) (W 0 0) (fun i σ2 => Kp (fun i _ => i = 85) σ σ2 ∧ (∀ j, j < W 0 0 → i ≤ j → siI σ2 85 j = nI (bst 20 (V0 W j))) ∧ ∀ j, j < i → siI σ2 85 j = nI (bst 20 (fun u => V0 W j u && !decide (W 6 (32 * j) = p ∧ x ≤ W 2 j ∧ W 2 j ≤ y)))) ?_ (i := 0) (Nat.zero_le _) (by omega) ⟨Kp.rf, fun j hj _ => (hv j hj).1, fun j q => absurd q (Nat.not_lt_zero _)⟩
  rintro r i σ2 hi ⟨hk, h1, h2⟩
  have hc2 : cW W σ2 := h.kp hk (fun i j q => by unfold cwR at q; omega)
  unfold B_X2_drown_L3
  rw [hc2.1, ite_le (by omega) (by omega)]
  by_cases hlt : W 0 0 ≤ i
  · left
    rw [if_pos hlt]
    refine ⟨σ2, rfl, hk, fun j u => V0 W j u && !decide (W 6 (32 * j) = p ∧ x ≤ W 2 j ∧ W 2 j ≤ y), fun _ _ => false, fun w2 hw2 => ⟨h2 w2 (by omega), ?_⟩, fun w2 hw2 u hu v hv2 => ?_⟩
    · rw [(hk 86 w2 (by omega)).1, (hv w2 hw2).2]
      have : bst (W 0 0) (fun _ => false) = 0 := by
        generalize W 0 0 = n
        induction n with
        | zero => rfl
        | succ n ih => rw [bst, ih]; rfl
      rw [this]
    · unfold TX V0
      have e1 : decide (4 * u + v < 4 * W 0 0) = true := decide_eq_true (by omega)
      dsimp only
      rw [e1, Bool.true_and, Bool.or_false, Bool.and_assoc, Bool.and_assoc]
      congr 1
      exact Bool.and_comm _ _
  right
  have hi2 : i < W 0 0 := by omega
  have hfp := first_plc ok hi2
  have hst := (ok.2.1 i hi2).2.1
  refine ⟨hi2, ?_⟩
  have keep : ¬ (W 6 (32 * i) = p ∧ x ≤ W 2 i ∧ W 2 i ≤ y) → ∃ σ', (Kp (fun i _ => i = 85) σ σ' ∧ (∀ j, j < W 0 0 → i + 1 ≤ j → siI σ' 85 j = nI (bst 20 (V0 W j))) ∧ ∀ j, j < i + 1 → siI σ' 85 j = nI (bst 20 (fun u => V0 W j u && !decide (W 6 (32 * j) = p ∧ x ≤ W 2 j ∧ W 2 j ≤ y)))) ∧ r (nI (i + 1)) σ2 = r (nI (i + 1)) σ' := fun q => by
    refine ⟨σ2, ⟨hk, fun j hj z => h1 j hj (by omega), fun j hj => ?_⟩, rfl⟩
    by_cases e : j = i
    · rw [e, h1 i hi2 (Nat.le_refl _)]
      refine congrArg nI (bst_congr (fun u _ => ?_))
      rw [decide_eq_false q]
      simp
    · exact h2 j (by omega)
  rw [if_neg hlt, C_firstPlace ok hc2 hi2, clx_s, nmx_s, ite_eq (by omega) (by omega), nI_add1]
  by_cases e : W 6 (32 * i) = p
  · rw [if_pos e, C_start ok hc2 hi2, clx_s, ite_lt (by omega) (by omega)]
    by_cases e2 : W 2 i < x
    · rw [if_pos e2]
      exact keep (fun q => by omega)
    · rw [if_neg e2, C_start ok hc2 hi2, clx_s, ite_lt (by omega) (by omega)]
      by_cases e3 : y < W 2 i
      · rw [if_pos e3]
        exact keep (fun q => by omega)
      · rw [if_neg e3, sIx_k (show i < 5 by omega) (by decide)]
        refine ⟨_, ⟨hk.I rfl, fun j hj z => by rw [uI_j (by omega)]; exact h1 j hj (by omega), fun j hj => ?_⟩, rfl⟩
        by_cases e4 : j = i
        · rw [e4, uI_s]
          have hb : ∀ n, bst n (fun u => V0 W i u && !decide (W 6 (32 * i) = p ∧ x ≤ W 2 i ∧ W 2 i ≤ y)) = 0 := by
            intro n
            induction n with
            | zero => rfl
            | succ n ih =>
              rw [bst, ih, decide_eq_true (show W 6 (32 * i) = p ∧ x ≤ W 2 i ∧ W 2 i ≤ y from ⟨e, by omega, by omega⟩)]
              simp
          rw [hb]
          rfl
        · rw [uI_j e4]
          exact h2 j (by omega)
  · rw [if_neg e]
    exact keep (fun q => e q.1)
theorem noOwn_TX (W : Wd) (p x y : Nat) : noOwn W (TX W p x y) := fun w2 _ v hv => by
  unfold TX
  rw [div4u hv]
  simp
theorem s_flood {N : Nat} (hN : 1100 < N) (a0 a1 a2 : Int32) {σ : Sx} (h : ReW N σ) : StI (ReW N) rgA σ (F_X9_flood N a0 a1 a2 σ) (F_X10_flood N a0 a1 a2) := by
  obtain ⟨W, G, b, h⟩ := h
  obtain ⟨ok, hc, hm⟩ := h.of3
  have hn := ok.nw
  rcases two_place a0 σ with ⟨e1, e2⟩ | ⟨p, hp, rfl, e1, e2⟩
  · exact ⟨-1, σ, σ, by rw [F_X9_flood, e1]; rfl, by rw [F_X10_flood, e2]; rfl, ⟨W, G, b, h⟩, Kp.rf⟩
  by_cases hneg : a1 < 0
  · exact ⟨-1, σ, σ, by rw [F_X9_flood, e1, clx_s, if10, if_pos hneg], by rw [F_X10_flood, e2, clx_s, if10, if_pos hneg], ⟨W, G, b, h⟩, Kp.rf⟩
  obtain ⟨ab, hab, rfl⟩ := nI_of hneg
  have d1 := div1000 hab
  have d2 := rem1000 hab
  have hmod : ab % 1000 < 1000 := Nat.mod_lt _ (by decide)
  rcases two_minute (nI (ab / 1000)) σ with ⟨e3, e4⟩ | ⟨x, hx, ex, e3, e4⟩
  · have h999 : 999 < ab / 1000 := by
      by_cases q : 999 < ab / 1000
      · exact q
      · rw [M_in, if_neg (nI_pos (by omega)), if_neg (show ¬ (999 : Int32) < nI (ab / 1000) from nI_nlt (a := 999) (b := ab / 1000) (by omega) (by decide))] at e4
        exact absurd (congrArg Prod.fst (Option.some.inj e4)) (by show ¬ (1 : Int32) = 0; decide)
    refine ⟨-1, σ, σ, by rw [F_X9_flood, e1, clx_s, if10, if_neg hneg, d1, e3]; rfl, ?_, ⟨W, G, b, h⟩, Kp.rf⟩
    rw [F_X10_flood, e2, clx_s, if10, if_neg hneg, d1, d2]
    rw [if_pos (nI_lt (by omega) (by omega))]
  have exx : ab / 1000 = x := (nI_eq (by omega) (by omega)).mp ex
  by_cases hlt : ab % 1000 < ab / 1000
  · refine ⟨-1, σ, σ, ?_, ?_, ⟨W, G, b, h⟩, Kp.rf⟩
    · rw [F_X9_flood, e1, clx_s, if10, if_neg hneg, d1, e3, clx_s, if10, d2, if_pos (nI_lt hlt (by omega))]
    · rw [F_X10_flood, e2, clx_s, if10, if_neg hneg, d1, d2, if_pos (nI_lt hlt (by omega))]
  have hlt' : ¬ nI (ab % 1000) < nI (ab / 1000) := nI_nlt (by omega) (by omega)
  have h999 : ¬ (999 : Int32) < nI (ab / 1000) := nI_nlt (a := 999) (b := ab / 1000) (by omega) (by decide)
  rcases two_01 a2 σ with ⟨e5, e6⟩ | ⟨h01, e5, e6⟩
  · refine ⟨-1, σ, σ, ?_, ?_, ⟨W, G, b, h⟩, Kp.rf⟩
    · rw [F_X9_flood, e1, clx_s, if10, if_neg hneg, d1, e3, clx_s, if10, d2, if_neg hlt', e5]
      rfl
    · rw [F_X10_flood, e2, clx_s, if10, if_neg hneg, d1, d2, if_neg hlt', if_neg h999, e6]
      rfl
  obtain ⟨σ1, s1, s2, h1, hr, h0⟩ := h.stale0 (by omega)
  obtain ⟨r1, r2, r3, r4, r5, r6⟩ := hr
  obtain ⟨σ2, p1, p2, p3⟩ := C_drown (N := N) (x := ab / 1000) (y := ab % 1000) (by omega) ok r1 r3 hp (by omega) (by omega)
  have hD : cD N G W (TX W p (ab / 1000) (ab % 1000)) σ2 := ⟨r1.kp p2 (fun i j q => by unfold cwR at q; omega), r2.kp p2 (fun i j q => by unfold lcR at q; omega), p3, r4.of (fun j => (p2 87 j (by omega)).1)⟩
  have hl2 : lsW W (W 0 0) σ2 := r5.of (fun i j q => (p2 i j (by unfold rgL at q; omega)).1)
  obtain ⟨σ3, g1, g2⟩ := C_countTried (N := N) (by omega) ok (noOwn_TX W _ _ _) hD hl2 h01
  have k3 : Kp rgD σ1 (upI σ3 3 2 1) := ((p2.le (fun i j q => by unfold rgD; omega)).tr (g2.le (fun i j q => by unfold rgH rgW at q; unfold rgD; omega))).I (by unfold rgD; omega)
  generalize hσ : upI σ3 3 2 1 = σ4 at *
  have h4 : RW N W G b σ4 := h1.stale (fun i j q => (k3 i j (by unfold rwR cwR mwR lcR lmR ccR at q; unfold rgD; omega)).1) (by rw [← hσ, uI_s])
  have hm4 := h4.2.2.1
  generalize hσb : upI (upI (upI σ4 103 34 (nI p)) 103 35 (nI (ab / 1000))) 103 36 (nI (ab % 1000)) = σ5
  have k5 : Kp (fun i j => i = 103 ∧ (j = 34 ∨ j = 35 ∨ j = 36)) σ4 σ5 := by rw [← hσb]; exact ((Kp.rf.I (by omega)).I (by omega)).I (by omega)
  have hm5 : mW W σ5 := hm4.kp k5 (fun i j q => by unfold mwR at q; omega)
  have hl5 : LM N G σ5 := h4.2.2.2.2.1.kp k5 (fun i j q => by unfold lmR at q; omega)
  obtain ⟨σ6, f1, f2, -, -, f5⟩ := M_findHeld (N := N) (by omega) ok hm5 hl5
  have v34 : siI σ5 103 34 = nI p := by rw [← hσb, uI_j (by decide), uI_j (by decide), uI_s]
  have v35 : siI σ5 103 35 = nI (ab / 1000) := by rw [← hσb, uI_j (by decide), uI_s]
  have v36 : siI σ5 103 36 = nI (ab % 1000) := by rw [← hσb, uI_s]
  have v32 : siI σ5 103 32 = -1 := by rw [(k5 103 32 (by omega)).1]; exact h4.2.2.2.2.2.2.2.1
  have hT : eqT W (TM W (siI σ5 103 32) (siI σ5 103 33) (siI σ5 103 34) (siI σ5 103 35) (siI σ5 103 36)) (TX W p (ab / 1000) (ab % 1000)) := fun w2 hw2 u hu v hv => by
    have hfp := first_plc ok hw2
    have hst := (ok.2.1 w2 hw2).2.1
    unfold TM TX
    rw [v32, v34, v35, v36, div4u hv]
    have e1 : ¬ nI u = (-1 : Int32) := ne_m1 (by omega)
    have e2 : (nI (W 6 (32 * w2)) = nI p ∧ ¬ nI (W 2 w2) < nI (ab / 1000) ∧ ¬ nI (ab % 1000) < nI (W 2 w2)) ↔ (W 6 (32 * w2) = p ∧ ab / 1000 ≤ W 2 w2 ∧ W 2 w2 ≤ ab % 1000) := by
      rw [nI_eq (by omega) (by omega), nI_ltI (by omega) (by omega), nI_ltI (by omega) (by omega), Nat.not_lt, Nat.not_lt]
    simp only [e2]
    simp [e1]
  have f6 : mH G W (TM W (siI σ5 103 32) (siI σ5 103 33) (siI σ5 103 34) (siI σ5 103 35) (siI σ5 103 36)) (upI σ6 103 34 (-1)) := ⟨by rw [uI_j (by decide)]; exact f5.1, f5.2.of (fun j => uI_i (by decide))⟩
  have k6 : Kp (fun i j => rgF i j ∨ (i = 103 ∧ (j = 34 ∨ j = 35 ∨ j = 36))) σ4 (upI σ6 103 34 (-1)) := ((k5.le (fun i j q => Or.inr q)).tr (f2.le (fun i j q => Or.inl q))).I (Or.inr ⟨rfl, Or.inl rfl⟩)
  have h6 : RW N W G b (upI σ6 103 34 (-1)) := by
    refine h4.stale (fun i j q => ?_) (by rw [(k6 3 2 (by unfold rgF; omega)).1, ← hσ, uI_s])
    by_cases e : i = 103 ∧ j = 34
    · obtain ⟨rfl, rfl⟩ := e
      rw [uI_s]
      exact h4.2.2.2.2.2.2.2.2.1.symm
    · refine (k6 i j ?_).1
      unfold rwR cwR mwR lcR lmR ccR at q
      unfold rgF
      omega
  refine ⟨hdR G W (TX W p (ab / 1000) (ab % 1000)) a2, σ4, upI σ6 103 34 (-1), ?_, ?_, ⟨W, G, b, h6⟩, ((rgA_D s2).tr (rgA_D k3)).tr (k6.le (fun i j q => by unfold rgF at q; unfold rgA otR; omega))⟩
  · rw [F_X9_flood, e1, clx_s, if10, if_neg hneg, d1, e3, clx_s, if10, d2, if_neg hlt', e5, clx_s, if10, s1, clx_s, F_X7_withFlood, p1, clx_s, g1, clx_s, clx_s]
  · have e2' : F_X10_isPlace (nI p) σ4 = some (1, σ4) := by
      rw [M_isPlace_in, M_in, if_neg (nI_pos (by omega)), if_neg (show ¬ (7 : Int32) < nI p from nI_nlt (a := 7) (by omega) (by decide))]
    have e6' : F_X10_in a2 (0 : Int32) (1 : Int32) σ4 = some (1, σ4) := by
      rcases h01 with rfl | rfl <;> rfl
    rw [F_X10_flood, e2', clx_s, if10, if_neg hneg, d1, d2, if_neg hlt', if_neg h999, e6', clx_s, if10, pIx_s, pIx_s, pIx_s, hσb, f1, clx_s, pIx_s, M_heldBy ok f6 h01, clx_s, hdR_eq ok hT]
