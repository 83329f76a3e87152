/-! THE LAW by its values: G s k l w m -/
def okS (s k l w m : Nat) : Prop := s < 32 ∧ k < 5 ∧ l ≤ 60 ∧ 1 ≤ w ∧ w ≤ 4 ∧ m ≤ 200
def lcR (i j : Nat) : Prop := (i = 2 ∧ j = 6) ∨ i = 81
def rgG (i j : Nat) : Prop := (i = 2 ∧ j = 8) ∨ i = 82
def LC (N : Nat) (G : Gt) (σ : Sx) : Prop := ∀ σ1 : Sx, (∀ i j, lcR i j → siI σ1 i j = siI σ i j) → ∀ s k l w m, okS s k l w m → ∃ σ2, F_X4_gives N (nI s) (nI k) (nI l) (nI w) (nI m) σ1 = some (G s k l w m, σ2) ∧ Kp rgG σ1 σ2
theorem LC.of {N : Nat} {G : Gt} {σ σ2 : Sx} (h : LC N G σ) (e : ∀ i j, lcR i j → siI σ2 i j = siI σ i j) : LC N G σ2 := fun σ1 q => h σ1 (fun i j r => (q i j r).trans (e i j r))
theorem LC.kp {N : Nat} {G : Gt} {σ σ2 : Sx} {reg : Nat → Nat → Prop} (h : LC N G σ) (k : Kp reg σ σ2) (d : ∀ i j, lcR i j → ¬ reg i j) : LC N G σ2 := h.of (fun i j hr => (k i j (d i j hr)).1)
/-- what is seen, by the cells visible and painted -/
def cT (W : Wd) (T : Nat → Nat → Bool) (σ : Sx) : Prop := ∃ V P : Nat → Nat → Bool, (∀ w, w < W 0 0 → siI σ 85 w = nI (bst 20 (V w)) ∧ siI σ 86 w = nI (bst (W 0 0) (P w))) ∧ ∀ w, w < W 0 0 → ∀ u, u < W 0 0 → ∀ v, v < 4 → T w (4 * u + v) = (V w (4 * u + v) || P w u)
theorem cT.of {W : Wd} {T : Nat → Nat → Bool} {σ σ2 : Sx} (h : cT W T σ) (e : ∀ i j, (i = 85 ∨ i = 86) → siI σ2 i j = siI σ i j) : cT W T σ2 := by
  obtain ⟨V, P, h1, h2⟩ := h
  refine ⟨V, P, fun w hw => ?_, h2⟩
  rw [e 85 w (Or.inl rfl), e 86 w (Or.inr rfl)]
  exact h1 w hw
/-- what was worked out is right -/
def cK (G : Gt) (W : Wd) (σ : Sx) : Prop := ∀ w, w < W 0 0 → ∀ s, s < 32 → siI σ 87 (w * 32 + s) = 0 ∨ siI σ 87 (w * 32 + s) = nI (1 + tkw G W w s)
theorem cK.of {G : Gt} {W : Wd} {σ σ2 : Sx} (h : cK G W σ) (e : ∀ j, siI σ2 87 j = siI σ 87 j) : cK G W σ2 := fun w hw s hs => by
  rw [e]
  exact h w hw s hs
def rgW (i j : Nat) : Prop := (i = 2 ∧ j = 8) ∨ i = 82 ∨ i = 87
/-- all that a question of the days rests on -/
def cD (N : Nat) (G : Gt) (W : Wd) (T : Nat → Nat → Bool) (σ : Sx) : Prop := cW W σ ∧ LC N G σ ∧ cT W T σ ∧ cK G W σ
theorem cD.kp {N : Nat} {G : Gt} {W : Wd} {T : Nat → Nat → Bool} {σ σ2 : Sx} {reg : Nat → Nat → Prop} (h : cD N G W T σ) (k : Kp reg σ σ2) (d : ∀ i j, (cwR i j ∨ lcR i j ∨ i = 85 ∨ i = 86 ∨ i = 87) → ¬ reg i j) : cD N G W T σ2 :=
  ⟨h.1.kp k (fun i j q => d i j (Or.inl q)), h.2.1.kp k (fun i j q => d i j (Or.inr (Or.inl q))), h.2.2.1.of (fun i j q => (k i j (d i j (Or.inr (Or.inr (by omega))))).1), h.2.2.2.of (fun j => (k 87 j (d 87 j (Or.inr (Or.inr (by omega))))).1)⟩
theorem cD.up {N : Nat} {G : Gt} {W : Wd} {T : Nat → Nat → Bool} {σ σ2 : Sx} (h : cD N G W T σ) (k : Kp rgW σ σ2) (hk : cK G W σ2) : cD N G W T σ2 :=
  ⟨h.1.kp k (fun i j q => by unfold cwR at q; unfold rgW; omega), h.2.1.kp k (fun i j q => by unfold lcR at q; unfold rgW; omega), h.2.2.1.of (fun i j q => (k i j (by unfold rgW; omega)).1), hk⟩
theorem bst_ext {n m : Nat} {f g : Nat → Bool} (h : ∀ i, (decide (i < n) && f i) = (decide (i < m) && g i)) : bst n f = bst m g := by
  apply Nat.eq_of_testBit_eq
  intro i
  rw [bst_tb, bst_tb]
  exact h i
theorem sight_eq {W : Wd} {T : Nat → Nat → Bool} {V P : Nat → Nat → Bool} (ok : okW W) {w : Nat} (h : ∀ u, u < W 0 0 → ∀ v, v < 4 → T w (4 * u + v) = (V w (4 * u + v) || P w u)) (d : Nat) : bst (W 0 0) (fun u => V w (4 * u + dg d u)) ||| bst (W 0 0) (P w) = sgt (W 0 0) T d w := by
  apply Nat.eq_of_testBit_eq
  intro u
  unfold sgt
  rw [Nat.testBit_or, bst_tb, bst_tb, bst_tb]
  by_cases hu : u < W 0 0
  · rw [h u hu _ (dg_lt d u)]
    simp [hu]
  · simp [hu]
theorem max1 {σ : Sx} {b : Nat} (h0 : 1 ≤ b) (hb : b < 2 ^ 30) : F_J9_max_7cf53 (nI b) (1 : Int32) σ = some (nI b, σ) := by
  unfold F_J9_max_7cf53
  rw [if_neg (show ¬ nI b < (1 : Int32) from nI_nlt (a := b) (b := 1) h0 (by omega))]
theorem C_lawful {N : Nat} {G : Gt} {W : Wd} {T : Nat → Nat → Bool} {σ : Sx} (ok : okW W) (h : cD N G W T σ) {w : Nat} (hw : w < W 0 0) (d : Nat) : ∃ σ2, F_X2_lawful N (nI w) (nI (wys (W 0 0) d)) σ = some (nI (tks G W T d w), σ2) ∧ Kp rgW σ σ2 ∧ cD N G W T σ2 := by
  have hn := ok.nw
  obtain ⟨hc, hl, hT, hK⟩ := id h
  obtain ⟨V, P, hV, hVP⟩ := hT
  have hs := sgt_lt ok T d w
  obtain ⟨hl1, hl2, -, hl4, hl5⟩ := ok.2.1 w hw
  have e1 : F_X8_walkersOf (nI (bst 20 (V w)) &&& nI (wys (W 0 0) d)) σ = some (nI (bst (W 0 0) (fun u => V w (4 * u + dg d u))), σ) := by
    rw [andI, C_walkersOf (and_lt hn _), wko_wys hn _ (by omega)]
  have ht := tkw_lt (G := G) (s := sgt (W 0 0) T d w) ok hw
  have hb : w * 32 + sgt (W 0 0) T d w < 160 := by omega
  unfold F_X2_lawful
  rw [aIx_k (show w < 5 by omega) (by decide), (hV w hw).1, e1, clx_s, aIx_k (show w < 5 by omega) (by decide), (hV w hw).2, orI, sight_eq ok (hVP w hw) d, nmx_s, mul32R, nI_add, aIx_k hb (by decide), nmx_s]
  rcases hK w hw _ hs.2 with q | q
  · obtain ⟨σ2, g1, g2⟩ := hl σ (fun _ _ _ => rfl) (sgt (W 0 0) T d w) w (W 1 w) (W 4 w) (W 2 w) ⟨hs.2, by omega, hl1, hl4, hl5, hl2⟩
    have hc2 : cW W σ2 := hc.kp g2 (fun i j q => by unfold cwR at q; unfold rgG; omega)
    have ev : tkI (G (sgt (W 0 0) T d w) w (W 1 w) (W 4 w) (W 2 w)) (W 4 w) = tks G W T d w := rfl
    have ht2 : tks G W T d w < W 4 w := ht
    rw [q, if_pos rfl, C_lead ok hc hw, clx_s, aIx_k (show w < 5 by omega) (by decide), hc.2.2.1 w (by omega), C_start ok hc hw, clx_s, g1, clx_s, aIx_k (show w < 5 by omega) (by decide), hc2.2.2.1 w (by omega), max1 hl4 (by omega), clx_s, C_floorMod _ (by omega) (by omega), clx_s, ev, show (1 : Int32) + nI (tks G W T d w) = nI (1 + tks G W T d w) from nI_add 1 _, nmx_s, sIx_k hb (by decide)]
    refine ⟨upI σ2 87 (w * 32 + sgt (W 0 0) T d w) (nI (1 + tks G W T d w)), congrArg (fun z => some (z, _)) (by rw [Nat.add_comm 1]; exact nI_pred _), ?_, ?_⟩
    · exact (g2.le (r2 := rgW) (fun i j z => by unfold rgG at z; unfold rgW; omega)).I (Or.inr (Or.inr rfl))
    · refine h.up ((g2.le (r2 := rgW) (fun i j z => by unfold rgG at z; unfold rgW; omega)).I (Or.inr (Or.inr rfl))) (fun w2 hw2 s2 hs2 => ?_)
      by_cases e : w2 * 32 + s2 = w * 32 + sgt (W 0 0) T d w
      · right
        rw [e, uI_s, show w2 = w by omega, show s2 = sgt (W 0 0) T d w by omega]
        rfl
      · rw [uI_j e, (g2 87 _ (by unfold rgG; omega)).1]
        exact hK w2 hw2 s2 hs2
  · rw [q, if_neg (nI_ne0 (by omega) (by omega))]
    refine ⟨σ, congrArg (fun z => some (z, _)) (by rw [Nat.add_comm 1]; exact nI_pred _), Kp.rf, h⟩
theorem C_isHeld {N : Nat} (hN : 8 < N) {G : Gt} {W : Wd} {T : Nat → Nat → Bool} {σ : Sx} (ok : okW W) (h : cD N G W T σ) {d : Nat} (hd : d < 2 ^ 31) : ∃ σ2, F_X2_isHeld N (nI d) (nI (wys (W 0 0) d)) σ = some (b2i (hldB G W T d), σ2) ∧ Kp rgW σ σ2 ∧ cD N G W T σ2 := by
  have hn := ok.nw
  unfold F_X2_isHeld
  refine lp1U (Q := fun o => ∃ σ2, o = some (b2i (hldB G W T d), σ2) ∧ Kp rgW σ σ2 ∧ cD N G W T σ2) (W 0 0) (fun w σ2 => Kp rgW σ σ2 ∧ cD N G W T σ2 ∧ ∀ u, u < w → tks G W T d u = dg d u) ?_ (i := 0) (Nat.zero_le _) (by omega) ⟨Kp.rf, h, fun u q => absurd q (Nat.not_lt_zero _)⟩
  rintro r w σ2 hw ⟨hk, hD, hu⟩
  unfold B_X2_isHeld_L2
  rw [hD.1.1, ite_le (by omega) (by omega)]
  by_cases hlt : W 0 0 ≤ w
  · left
    rw [if_pos hlt]
    refine ⟨σ2, ?_, hk, hD⟩
    rw [show hldB G W T d = true from hldB_iff.mpr (fun u q => hu u (by omega))]
    rfl
  · have hw2 : w < W 0 0 := by omega
    have ht := tkw_lt (G := G) (s := sgt (W 0 0) T d w) ok hw2
    have h4 := ok.ways w
    have hdg := dg_lt d w
    obtain ⟨σ3, g1, g2, g3⟩ := C_lawful ok hD hw2 d
    rw [if_neg hlt, g1, clx_s, C_choice hd (by omega), clx_s, ite_eq (by unfold tks; omega) (by omega), nI_add1]
    by_cases e : tks G W T d w = dg d w
    · right
      rw [if_pos e]
      refine ⟨hw2, σ3, ⟨hk.tr g2, g3, fun u q => ?_⟩, rfl⟩
      by_cases e2 : u = w
      · rw [e2]
        exact e
      · exact hu u (by omega)
    · left
      rw [if_neg e]
      refine ⟨σ3, ?_, hk.tr g2, g3⟩
      have : hldB G W T d = false := by
        cases hq : hldB G W T d
        · rfl
        · exact absurd (hldB_iff.mp hq w hw2) e
      rw [this]
      rfl
theorem C_costOf {N : Nat} (hN : 8 < N) {G : Gt} {W : Wd} {T : Nat → Nat → Bool} {σ : Sx} (ok : okW W) (h : cD N G W T σ) {d : Nat} (hd : d < 2 ^ 31) : ∃ σ2, F_X2_costOf N (nI d) (nI (wys (W 0 0) d)) σ = some (nI (cst G W T d), σ2) ∧ Kp rgW σ σ2 ∧ cD N G W T σ2 := by
  have hn := ok.nw
  unfold F_X2_costOf
  refine lp2U (Q := fun o => ∃ σ2, o = some (nI (cst G W T d), σ2) ∧ Kp rgW σ σ2 ∧ cD N G W T σ2) (W 0 0) (fun w x σ2 => Kp rgW σ σ2 ∧ cD N G W T σ2 ∧ x = nI (smN w (cstF G W T d))) ?_ (i := 0) (Nat.zero_le _) (by omega) ⟨Kp.rf, h, rfl⟩
  rintro r w x σ2 hw ⟨hk, hD, rfl⟩
  unfold B_X2_costOf_L5
  rw [hD.1.1, ite_le (by omega) (by omega)]
  by_cases hlt : W 0 0 ≤ w
  · left
    rw [if_pos hlt, show w = W 0 0 by omega]
    exact ⟨σ2, rfl, hk, hD⟩
  · have hw2 : w < W 0 0 := by omega
    have ht := tkw_lt (G := G) (s := sgt (W 0 0) T d w) ok hw2
    have h4 := ok.ways w
    have hdg := dg_lt d w
    obtain ⟨σ3, g1, g2, g3⟩ := C_lawful ok hD hw2 d
    right
    refine ⟨hw2, nI (smN (w + 1) (cstF G W T d)), σ3, ⟨hk.tr g2, g3, rfl⟩, ?_⟩
    rw [if_neg hlt, g1, clx_s, C_choice hd (by omega), clx_s, nmx_s, ite_eq (by unfold tks; omega) (by omega), nI_add1]
    show _ = r (nI (smN w (cstF G W T d) + cstF G W T d w)) _ _
    rw [show cstF G W T d w = if tks G W T d w = dg d w then 0 else W 3 w from rfl]
    by_cases e : tks G W T d w = dg d w
    · rw [if_pos e, if_pos e]
      rfl
    · rw [if_neg e, if_neg e]
      unfold F_X8_told
      rw [if_neg (by decide), aRx3_2, aIx_k (show w < 5 by omega) (by decide), (g3.1.2.1 w hw2).2.2, clx_s, nI_add, nmx_s]
theorem C_nextDay {N : Nat} (hN : 8 < N) {G : Gt} {W : Wd} {T : Nat → Nat → Bool} {σ : Sx} (ok : okW W) (h : cD N G W T σ) {d : Nat} (hd : d < 2 ^ 31) : ∃ σ2, F_X2_nextDay N (nI d) σ = some (nI (nxt G W T d), σ2) ∧ Kp rgW σ σ2 ∧ cD N G W T σ2 := by
  have hn := ok.nw
  unfold F_X2_nextDay
  rw [C_waysOn (by omega) ok h.1 hd, clx_s]
  refine lp2U (Q := fun o => ∃ σ2, o = some (nI (nxt G W T d), σ2) ∧ Kp rgW σ σ2 ∧ cD N G W T σ2) (W 0 0) (fun w x σ2 => Kp rgW σ σ2 ∧ cD N G W T σ2 ∧ x = nI (nxN G W T d w)) ?_ (i := 0) (Nat.zero_le _) (by omega) ⟨Kp.rf, h, rfl⟩
  rintro r w x σ2 hw ⟨hk, hD, rfl⟩
  unfold B_X2_nextDay_L14
  rw [hD.1.1, ite_le (by omega) (by omega)]
  by_cases hlt : W 0 0 ≤ w
  · left
    rw [if_pos hlt, show w = W 0 0 by omega]
    exact ⟨σ2, rfl, hk, hD⟩
  · have hw2 : w < W 0 0 := by omega
    obtain ⟨σ3, g1, g2, g3⟩ := C_lawful ok hD hw2 d
    right
    refine ⟨hw2, nI (nxN G W T d (w + 1)), σ3, ⟨hk.tr g2, g3, rfl⟩, ?_⟩
    rw [if_neg hlt, g1, clx_s, nx_or ok hw2, nmx_s, nI_add1]
