/-! CHANGES of the world -/
/-- the world but for the minutes in which places are come to -/
def cWb (W : Wd) (σ : Sx) : Prop :=
  siI σ 1 0 = nI (W 0 0) ∧ (∀ w, w < W 0 0 → siI σ 23 w = nI (W 1 w) ∧ siI σ 24 w = nI (W 2 w) ∧ siI σ 25 w = nI (W 3 w)) ∧ (∀ w, w < 5 → siI σ 35 w = nI (W 4 w)) ∧
  (∀ i, i < 20 → siI σ 36 i = nI (W 5 i)) ∧ (∀ i, i < 20 → ∀ k, k < W 5 i → siI σ (38 + i) k = nI (W 6 (8 * i + k))) ∧
  ∀ p q, p < 8 → q < 8 → p ≠ q → siI σ (27 + p) q = nI (W 7 (8 * p + q))
def cWc (W : Wd) (i : Nat) (σ : Sx) : Prop := ∀ k, k < W 5 i → siI σ (59 + i) k = nI (cam W i k)
theorem cW_bc {W : Wd} {σ : Sx} (h : cWb W σ) (hc : ∀ i, i < 20 → cWc W i σ) : cW W σ := ⟨h.1, h.2.1, h.2.2.1, h.2.2.2.1, fun i hi k hk => ⟨h.2.2.2.2.1 i hi k hk, hc i hi k hk⟩, h.2.2.2.2.2⟩
theorem cW_b {W : Wd} {σ : Sx} (h : cW W σ) : cWb W σ := ⟨h.1, h.2.1, h.2.2.1, h.2.2.2.1, fun i hi k hk => (h.2.2.2.2.1 i hi k hk).1, h.2.2.2.2.2⟩
theorem cW_c {W : Wd} {σ : Sx} (h : cW W σ) {i : Nat} (hi : i < 20) : cWc W i σ := fun k hk => (h.2.2.2.2.1 i hi k hk).2
theorem cWb.of {W : Wd} {σ σ2 : Sx} (h : cWb W σ) (e : ∀ i j, cwR i j → i < 59 → siI σ2 i j = siI σ i j) : cWb W σ2 := by
  obtain ⟨h1, h2, h3, h4, h5, h6⟩ := h
  refine ⟨by rw [e _ _ (by unfold cwR; omega) (by omega)]; exact h1, fun w hw => ?_, fun w hw => ?_, fun i hi => ?_, fun i hi k hk => ?_, fun p q hp hq hpq => ?_⟩
  · rw [e 23 w (by unfold cwR; omega) (by omega), e 24 w (by unfold cwR; omega) (by omega), e 25 w (by unfold cwR; omega) (by omega)]
    exact h2 w hw
  · rw [e _ _ (by unfold cwR; omega) (by omega)]
    exact h3 w hw
  · rw [e _ _ (by unfold cwR; omega) (by omega)]
    exact h4 i hi
  · rw [e _ _ (by unfold cwR; omega) (by omega)]
    exact h5 i hi k hk
  · rw [e _ _ (by unfold cwR; omega) (by omega)]
    exact h6 p q hp hq hpq
theorem C_between {W : Wd} {σ : Sx} (h : cWb W σ) {p q : Nat} (hp : p < 8) (hq : q < 8) : F_X8_minutesBetween (nI p) (nI q) σ = some (nI (btw W p q), σ) := by
  unfold F_X8_minutesBetween btw
  rw [ite_eq (by omega) (by omega)]
  by_cases e : p = q
  · rw [if_pos e, if_pos e]
    rfl
  · rw [if_neg e, if_neg e, aRx_k hp (by decide), aIx_k hq (by decide), h.2.2.2.2.2 p q hp hq e]
theorem C_reckon {N : Nat} {W : Wd} {σ : Sx} (hN : 20 < N) (ok : okW W) (h : cWb W σ) {i : Nat} (hi : i < 20) : ∃ σ2, F_X8_reckon N (nI i) σ = some ((), σ2) ∧ Kp (fun a _ => a = 59 + i) σ σ2 ∧ cWc W i σ2 := by
  have hl := ok.len hi
  unfold F_X8_reckon
  rw [div4 (by omega), C_start0 (by omega), clx_s]
  refine lp2U (Q := fun o => ∃ σ2, o = some ((), σ2) ∧ Kp (fun a _ => a = 59 + i) σ σ2 ∧ cWc W i σ2) (W 5 i) (fun k x σ2 => Kp (fun a _ => a = 59 + i) σ σ2 ∧ (x = if k = 0 then siI σ 24 (i / 4) else nI (cam W i (k - 1))) ∧ ∀ j, j < k → siI σ2 (59 + i) j = nI (cam W i j)) ?_ (i := 0) (Nat.zero_le _) (by omega) ⟨Kp.rf, rfl, fun j q => absurd q (Nat.not_lt_zero _)⟩
  rintro r k x σ2 hk ⟨hkp, rfl, hj⟩
  have h2 : cWb W σ2 := h.of (fun a b q z => (hkp a b (by omega)).1)
  unfold B_X8_reckon_L10
  rw [aIx_k hi (by decide), h2.2.2.2.1 i hi, ite_le (by omega) (by omega)]
  by_cases hlt : W 5 i ≤ k
  · left
    rw [if_pos hlt]
    exact ⟨σ2, rfl, hkp, fun j q => hj j (by omega)⟩
  right
  have hkl : k < W 5 i := by omega
  refine ⟨hkl, ?_⟩
  have fin : ∀ c : Int32, c = nI (cam W i k) → ∃ x' σ', (Kp (fun a _ => a = 59 + i) σ σ' ∧ (x' = if k + 1 = 0 then siI σ 24 (i / 4) else nI (cam W i (k + 1 - 1))) ∧ ∀ j, j < k + 1 → siI σ' (59 + i) j = nI (cam W i j)) ∧ (aRx 20 (nI i) (fun k11 => sIx (59 + k11) 8 (nI k) c σ2 (fun σ4 => r c (nI k + (1 : Int32)) σ4))) = r x' (nI (k + 1)) σ' := fun c hc => by
    refine ⟨c, upI σ2 (59 + i) k c, ⟨hkp.I rfl, by rw [if_neg (by omega), hc]; rfl, fun j q => ?_⟩, by rw [aRx_k hi (by decide), sIx_k (by omega) (by decide), nI_add1]⟩
    by_cases e : j = k
    · rw [e, uI_s, hc]
    · rw [uI_j e]
      exact hj j (by omega)
  rw [if_neg hlt, nmx_s]
  match k, hkl, fin with
  | 0, hkl, fin =>
    rw [if_pos (show nI 0 ≤ (0 : Int32) by decide), if_pos rfl]
    refine fin _ ?_
    rw [(h.2.1 _ (ok.own hi hkl).2).2.1]
    rfl
  | k + 1, hkl, fin =>
    have p1 := ok.plc hi (show k < W 5 i by omega)
    have p2 := ok.plc hi hkl
    rw [if_neg (show ¬ nI (k + 1) ≤ (0 : Int32) from nI_nle (by omega) (by omega)), if_neg (show ¬ k + 1 = 0 by omega), aRx_k hi (by decide), show nI (k + 1) - (1 : Int32) = nI k from nI_pred _, aIx_k (show k < 8 by omega) (by decide), h2.2.2.2.2.1 i hi k (by omega), aRx_k hi (by decide), aIx_k (show k + 1 < 8 by omega) (by decide), h2.2.2.2.2.1 i hi (k + 1) hkl, C_between h2 p1 p2, clx_s, nmx_s]
    refine fin _ ?_
    rw [Nat.add_sub_cancel, nI_add]
    rfl
theorem C_reckonAll {N : Nat} {W : Wd} {σ : Sx} (hN : 30 < N) (ok : okW W) (h : cWb W σ) : ∃ σ2, F_X8_reckonAll N σ = some ((), σ2) ∧ Kp (fun a _ => 59 ≤ a ∧ a < 79) σ σ2 ∧ cW W σ2 := by
  unfold F_X8_reckonAll
  refine lp1U (Q := fun o => ∃ σ2, o = some ((), σ2) ∧ Kp (fun a _ => 59 ≤ a ∧ a < 79) σ σ2 ∧ cW W σ2) 20 (fun i σ2 => Kp (fun a _ => 59 ≤ a ∧ a < 79) σ σ2 ∧ ∀ j, j < i → cWc W j σ2) ?_ (i := 0) (Nat.zero_le _) (by omega) ⟨Kp.rf, fun j q => absurd q (Nat.not_lt_zero _)⟩
  rintro r i σ2 hi ⟨hkp, hj⟩
  have h2 : cWb W σ2 := h.of (fun a b q z => (hkp a b (by omega)).1)
  unfold B_X8_reckonAll_L2
  rw [show (20 : Int32) = nI 20 from rfl, ite_le (by decide) (by omega)]
  by_cases hlt : 20 ≤ i
  · left
    rw [if_pos hlt]
    exact ⟨σ2, rfl, hkp, cW_bc h2 (fun j q => hj j (by omega))⟩
  · right
    obtain ⟨σ3, g1, g2, g3⟩ := C_reckon (N := N) (by omega) ok h2 (show i < 20 by omega)
    rw [if_neg hlt, g1, clx_s, nI_add1]
    refine ⟨by omega, σ3, ⟨hkp.tr (g2.le (fun a b q => by omega)), fun j q => ?_⟩, rfl⟩
    by_cases e : j = i
    · rw [e]
      exact g3
    · intro k hk
      rw [(g2 (59 + j) k (by omega)).1]
      exact hj j (by omega) k hk
/-- the world in which something told is v -/
def wT (W : Wd) (what num v : Nat) : Wd := fun a c => if (what < 3 ∧ a = what + 1 ∧ c = num) ∨ (what = 3 ∧ a = 7 ∧ (c = 8 * (num / 10) + num % 10 ∨ c = 8 * (num % 10) + num / 10)) then v else W a c
theorem wT_o (W : Wd) (what num v : Nat) {a : Nat} (h : ¬ (1 ≤ a ∧ a ≤ 3) ∧ a ≠ 7) (c : Nat) : wT W what num v a c = W a c := by
  unfold wT
  rw [if_neg (by omega)]
theorem okE.t2 {W : Wd} {what num v : Nat} (h : okE (W 0 0) what num v) : okT2 W what num := by
  unfold okE at h
  unfold okT2
  omega
theorem okW_T {W : Wd} (ok : okW W) {what num v : Nat} (h : okE (W 0 0) what num v) : okW (wT W what num v) := by
  obtain ⟨h1, h2, h3, h4, h5, h6⟩ := ok
  have o0 : ∀ c, wT W what num v 0 c = W 0 c := wT_o W _ _ _ (by decide)
  have o4 : ∀ c, wT W what num v 4 c = W 4 c := wT_o W _ _ _ (by decide)
  have o5 : ∀ c, wT W what num v 5 c = W 5 c := wT_o W _ _ _ (by decide)
  have o6 : ∀ c, wT W what num v 6 c = W 6 c := wT_o W _ _ _ (by decide)
  unfold okW
  simp only [o0, o4, o5, o6]
  refine ⟨h1, fun w hw => ?_, h3, h4, h5, fun p q hp hq hpq => ?_⟩
  · obtain ⟨b1, b2, b3, b4⟩ := h2 w hw
    refine ⟨?_, ?_, ?_, b4⟩
    · unfold wT
      split
      · unfold okE at h
        omega
      · exact b1
    · unfold wT
      split
      · unfold okE at h
        omega
      · exact b2
    · unfold wT
      split
      · unfold okE at h
        omega
      · exact b3
  · have := h6 p q hp hq hpq
    unfold wT
    split
    · unfold okE at h
      omega
    · exact this
theorem cam_T {W : Wd} {what num v : Nat} (h : what = 0 ∨ what = 2) (i : Nat) : ∀ k, cam (wT W what num v) i k = cam W i k := by
  have o2 : ∀ c, wT W what num v 2 c = W 2 c := fun c => by
    unfold wT
    rw [if_neg (by omega)]
  have o7 : ∀ c, wT W what num v 7 c = W 7 c := fun c => by
    unfold wT
    rw [if_neg (by omega)]
  have o6 : ∀ c, wT W what num v 6 c = W 6 c := wT_o W _ _ _ (by decide)
  have ob : ∀ p q, btw (wT W what num v) p q = btw W p q := fun p q => by
    unfold btw
    rw [o7]
  intro k
  induction k with
  | zero => unfold cam; rw [o2]
  | succ k ih => rw [cam, cam, ih, o6, o6, ob]
def rgTl (i _j : Nat) : Prop := (23 ≤ i ∧ i ≤ 25) ∨ (27 ≤ i ∧ i ≤ 34) ∨ (59 ≤ i ∧ i < 79)
theorem C_tell {N : Nat} {W : Wd} {σ : Sx} (hN : 30 < N) (ok : okW W) (hc : cW W σ) {what num v : Nat} (h : okE (W 0 0) what num v) : ∃ σ2, F_X8_tell N (nI num) (nI what) (nI v) σ = some ((), σ2) ∧ Kp rgTl σ σ2 ∧ cW (wT W what num v) σ2 := by
  have hn := ok.nw
  have ok2 := okW_T ok h
  have o0 : ∀ c, wT W what num v 0 c = W 0 c := wT_o W _ _ _ (by decide)
  have o4 : ∀ c, wT W what num v 4 c = W 4 c := wT_o W _ _ _ (by decide)
  have o5 : ∀ c, wT W what num v 5 c = W 5 c := wT_o W _ _ _ (by decide)
  have o6 : ∀ c, wT W what num v 6 c = W 6 c := wT_o W _ _ _ (by decide)
  obtain ⟨c1, c2, c3, c4, c5, c6⟩ := cW_b hc
  have cw3 : what ≤ 3 := by unfold okE at h; omega
  unfold F_X8_tell
  rw [nmx_s]
  by_cases h3 : what = 3
  · subst h3
    obtain ⟨b1, b2, b3, b4⟩ : num < 78 ∧ num / 10 < 8 ∧ num % 10 < 8 ∧ num / 10 ≠ num % 10 := by unfold okE at h; omega
    generalize hσa : upI (upI σ (27 + num / 10) (num % 10) (nI v)) (27 + num % 10) (num / 10) (nI v) = σa
    have ka : Kp (fun i _ => 27 ≤ i ∧ i ≤ 34) σ σa := by
      rw [← hσa]
      exact (Kp.rf.I (by omega)).I (by omega)
    have cb : cWb (wT W 3 num v) σa := by
      unfold cWb
      simp only [o0, o4, o5, o6]
      refine ⟨by rw [(ka 1 0 (by omega)).1]; exact c1, fun w hw => ?_, fun w hw => by rw [(ka 35 w (by omega)).1]; exact c3 w hw, fun i hi => by rw [(ka 36 i (by omega)).1]; exact c4 i hi, fun i hi k hk => by rw [(ka (38 + i) k (by omega)).1]; exact c5 i hi k hk, fun p q hp hq hpq => ?_⟩
      · rw [(ka 23 w (by omega)).1, (ka 24 w (by omega)).1, (ka 25 w (by omega)).1]
        unfold wT
        rw [if_neg (by omega), if_neg (by omega), if_neg (by omega)]
        exact c2 w hw
      · rw [← hσa]
        unfold wT
        by_cases e1 : p = num % 10 ∧ q = num / 10
        · obtain ⟨rfl, rfl⟩ := e1
          rw [uI_s, if_pos (by omega)]
        · by_cases e2 : p = num / 10 ∧ q = num % 10
          · obtain ⟨rfl, rfl⟩ := e2
            rw [uI, if_neg (by omega), uI_s, if_pos (by omega)]
          · rw [uI, if_neg (by omega), uI, if_neg (by omega), if_neg (by omega)]
            exact c6 p q hp hq hpq
    obtain ⟨σ2, g1, g2, g3⟩ := C_reckonAll hN ok2 cb
    refine ⟨σ2, ?_, (ka.le (fun i j q => by unfold rgTl; omega)).tr (g2.le (fun i j q => by unfold rgTl; omega)), g3⟩
    rw [if_pos (show nI 3 = (3 : Int32) from rfl), div10 (by omega), rem10 (by omega), aRx_k b2 (by decide), sIx_k b3 (by decide), aRx_k b3 (by decide), sIx_k b2 (by decide), hσa]
    dsimp only
    rw [nmx_s, if_pos (show nI 3 = (3 : Int32) from rfl)]
    dsimp only
    rw [g1, clx_s]
  · have hw3 : what < 3 := by omega
    have hnum : num < W 0 0 := by unfold okE at h; omega
    have n3 : ¬ nI what = (3 : Int32) := fun q => h3 ((nI_eq (by omega) (by decide)).mp (q : nI what = nI 3))
    rw [if_neg n3, aRx_k hw3 (by decide), sIx_k (show num < 5 by omega) (by decide)]
    dsimp only
    rw [nmx_s]
    generalize hσa : upI σ (23 + what) num (nI v) = σa
    have ka : Kp (fun i _ => 23 ≤ i ∧ i ≤ 25) σ σa := by
      rw [← hσa]
      exact Kp.rf.I (by omega)
    have v23 : ∀ a, a < 3 → ∀ w, w < W 0 0 → siI σa (23 + a) w = nI (wT W what num v (a + 1) w) := fun a ha w hw => by
      rw [← hσa]
      unfold wT
      by_cases e : a = what ∧ w = num
      · obtain ⟨rfl, rfl⟩ := e
        rw [uI_s, if_pos (by omega)]
      · rw [uI, if_neg (by omega), if_neg (by omega)]
        obtain ⟨d1, d2, d3⟩ := c2 w hw
        match a, ha with
        | 0, _ => exact d1
        | 1, _ => exact d2
        | 2, _ => exact d3
    have cb : cWb (wT W what num v) σa := by
      unfold cWb
      simp only [o0, o4, o5, o6]
      refine ⟨by rw [(ka 1 0 (by omega)).1]; exact c1, fun w hw => ⟨v23 0 (by decide) w hw, v23 1 (by decide) w hw, v23 2 (by decide) w hw⟩, fun w hw => by rw [(ka 35 w (by omega)).1]; exact c3 w hw, fun i hi => by rw [(ka 36 i (by omega)).1]; exact c4 i hi, fun i hi k hk => by rw [(ka (38 + i) k (by omega)).1]; exact c5 i hi k hk, fun p q hp hq hpq => ?_⟩
      rw [(ka (27 + p) q (by omega)).1]
      unfold wT
      rw [if_neg (by omega)]
      exact c6 p q hp hq hpq
    rw [if_neg n3]
    by_cases h1 : what = 1
    · obtain ⟨σ2, g1, g2, g3⟩ := C_reckonAll hN ok2 cb
      refine ⟨σ2, ?_, (ka.le (fun i j q => by unfold rgTl; omega)).tr (g2.le (fun i j q => by unfold rgTl; omega)), g3⟩
      rw [if_pos (show nI what = (1 : Int32) by rw [h1]; rfl)]
      dsimp only
      rw [g1, clx_s]
    · refine ⟨σa, ?_, ka.le (fun i j q => by unfold rgTl; omega), cW_bc cb (fun i hi k hk => ?_)⟩
      · rw [if_neg (show ¬ nI what = (1 : Int32) from fun q => h1 ((nI_eq (by omega) (by decide)).mp (q : nI what = nI 1)))]
      · rw [cam_T (by omega), (ka (59 + i) k (by omega)).1]
        rw [o5] at hk
        exact cW_c hc hi k hk
theorem M_lays {W : Wd} {σ : Sx} (ok : okW W) (hm : mW W σ) {what num v : Nat} (h : okE (W 0 0) what num v) : ∃ σ2, F_X10_lays (nI what) (nI num) (nI v) σ = some ((), σ2) ∧ Kp (fun i _ => (104 ≤ i ∧ i ≤ 106) ∨ i = 110) σ σ2 ∧ mW (wT W what num v) σ2 := by
  have hn := ok.nw
  have o0 : ∀ c, wT W what num v 0 c = W 0 c := wT_o W _ _ _ (by decide)
  have o4 : ∀ c, wT W what num v 4 c = W 4 c := wT_o W _ _ _ (by decide)
  have o5 : ∀ c, wT W what num v 5 c = W 5 c := wT_o W _ _ _ (by decide)
  have o6 : ∀ c, wT W what num v 6 c = W 6 c := wT_o W _ _ _ (by decide)
  obtain ⟨m1, m2, m3, m4, m5⟩ := hm
  have cw3 : what ≤ 3 := by unfold okE at h; omega
  have low : ∀ a, a < 3 → a = what → num < W 0 0 → mW (wT W what num v) (upI σ (104 + a) num (nI v)) := fun a ha e hnum => by
    subst e
    have k : Kp (fun i _ => 104 ≤ i ∧ i ≤ 106) σ (upI σ (104 + a) num (nI v)) := Kp.rf.I (by omega)
    have v4 : ∀ z, z < 3 → ∀ w, w < W 0 0 → siI (upI σ (104 + a) num (nI v)) (104 + z) w = nI (wT W a num v (z + 1) w) := fun z hz w hw => by
      unfold wT
      by_cases e : z = a ∧ w = num
      · obtain ⟨rfl, rfl⟩ := e
        rw [uI_s, if_pos (by omega)]
      · rw [uI, if_neg (by omega), if_neg (by omega)]
        obtain ⟨d1, d2, d3, -⟩ := m2 w hw
        match z, hz with
        | 0, _ => exact d1
        | 1, _ => exact d2
        | 2, _ => exact d3
    unfold mW
    simp only [o0, o4, o5, o6]
    refine ⟨by rw [(k 103 1 (by omega)).1]; exact m1, fun w hw => ⟨v4 0 (by decide) w hw, v4 1 (by decide) w hw, v4 2 (by decide) w hw, by rw [(k 107 w (by omega)).1]; exact (m2 w hw).2.2.2⟩, fun i hi hl => by rw [(k 108 i (by omega)).1]; exact m3 i hi hl, fun i hi q hq => by rw [(k 109 _ (by omega)).1]; exact m4 i hi q hq, fun p q hp hq hpq => ?_⟩
    rw [(k 110 _ (by omega)).1]
    unfold wT
    rw [if_neg (by omega)]
    exact m5 p q hp hq hpq
  unfold F_X10_lays
  by_cases h3 : what = 3
  · subst h3
    obtain ⟨b1, b2, b3, b4⟩ : num < 78 ∧ num / 10 < 8 ∧ num % 10 < 8 ∧ num / 10 ≠ num % 10 := by unfold okE at h; omega
    unfold F_X10_spotAt
    rw [if_neg (show ¬ nI 3 = (0 : Int32) by decide), if_neg (show ¬ nI 3 = (1 : Int32) by decide), if_neg (show ¬ nI 3 = (2 : Int32) by decide), div10 (by omega), rem10 (by omega), mul8L, nI_add, clx_s, sIx_k (by omega) (by decide), mul8L, nI_add, sIx_k (by omega) (by decide)]
    have k : Kp (fun i _ => i = 110) σ (upI (upI σ 110 (8 * (num / 10) + num % 10) (nI v)) 110 (8 * (num % 10) + num / 10) (nI v)) := (Kp.rf.I (reg := fun i _ => i = 110) rfl).I rfl
    refine ⟨_, rfl, k.le (fun i j q => by omega), ?_⟩
    unfold mW
    simp only [o0, o4, o5, o6]
    refine ⟨by rw [(k 103 1 (by omega)).1]; exact m1, fun w hw => ?_, fun i hi hl => by rw [(k 108 i (by omega)).1]; exact m3 i hi hl, fun i hi q hq => by rw [(k 109 _ (by omega)).1]; exact m4 i hi q hq, fun p q hp hq hpq => ?_⟩
    · rw [(k 104 w (by omega)).1, (k 105 w (by omega)).1, (k 106 w (by omega)).1, (k 107 w (by omega)).1]
      unfold wT
      rw [if_neg (by omega), if_neg (by omega), if_neg (by omega)]
      exact m2 w hw
    · unfold wT
      by_cases e1 : 8 * p + q = 8 * (num % 10) + num / 10
      · rw [e1, uI_s, if_pos (by omega)]
      · by_cases e2 : 8 * p + q = 8 * (num / 10) + num % 10
        · rw [uI_j e1, e2, uI_s, if_pos (by omega)]
        · rw [uI_j e1, uI_j e2, if_neg (by omega)]
          exact m5 p q hp hq hpq
  · have hnum : num < W 0 0 := by unfold okE at h; omega
    have h5 : num < 5 := by omega
    have kk : ∀ a, a < 3 → Kp (fun i _ => (104 ≤ i ∧ i ≤ 106) ∨ i = 110) σ (upI σ (104 + a) num (nI v)) := fun a ha => Kp.rf.I (by omega)
    rcases (show what = 0 ∨ what = 1 ∨ what = 2 by omega) with e | e | e
    · subst e
      rw [if_pos (show nI 0 = (0 : Int32) from rfl), sIx_k h5 (by decide)]
      exact ⟨_, rfl, kk 0 (by decide), low 0 (by decide) rfl hnum⟩
    · subst e
      rw [if_neg (show ¬ nI 1 = (0 : Int32) by decide), if_pos (show nI 1 = (1 : Int32) from rfl), sIx_k h5 (by decide)]
      exact ⟨_, rfl, kk 1 (by decide), low 1 (by decide) rfl hnum⟩
    · subst e
      rw [if_neg (show ¬ nI 2 = (0 : Int32) by decide), if_neg (show ¬ nI 2 = (1 : Int32) by decide), if_pos (show nI 2 = (2 : Int32) from rfl), sIx_k h5 (by decide)]
      exact ⟨_, rfl, kk 2 (by decide), low 2 (by decide) rfl hnum⟩
