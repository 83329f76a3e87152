/-! WALKERS AND WAYS come -/
def wA (W : Wd) (w ln : Nat) (P : Nat → Nat) : Wd := fun a c => if a = 4 ∧ c = w then W 4 w + 1 else if a = 5 ∧ c = 4 * w + W 4 w then ln else if a = 6 ∧ 8 * (4 * w + W 4 w) ≤ c ∧ c < 8 * (4 * w + W 4 w) + ln then P (c - 8 * (4 * w + W 4 w)) else W a c
theorem wA_o (W : Wd) (w ln : Nat) (P : Nat → Nat) {a : Nat} (h : a ≠ 4 ∧ a ≠ 5 ∧ a ≠ 6) (c : Nat) : wA W w ln P a c = W a c := by
  unfold wA
  rw [if_neg (by omega), if_neg (by omega), if_neg (by omega)]
theorem wA_4 (W : Wd) (w ln : Nat) (P : Nat → Nat) (c : Nat) : wA W w ln P 4 c = if c = w then W 4 w + 1 else W 4 c := by
  unfold wA
  by_cases e : c = w
  · rw [if_pos ⟨rfl, e⟩, if_pos e]
  · rw [if_neg (by omega), if_neg (by omega), if_neg (by omega), if_neg e]
theorem wA_5 (W : Wd) (w ln : Nat) (P : Nat → Nat) (c : Nat) : wA W w ln P 5 c = if c = 4 * w + W 4 w then ln else W 5 c := by
  unfold wA
  by_cases e : c = 4 * w + W 4 w
  · rw [if_neg (by omega), if_pos ⟨rfl, e⟩, if_pos e]
  · rw [if_neg (by omega), if_neg (by omega), if_neg (by omega), if_neg e]
theorem wA_6 (W : Wd) (w ln : Nat) (P : Nat → Nat) (hl : ln ≤ 8) (i k : Nat) (hk : k < 8) : wA W w ln P 6 (8 * i + k) = if i = 4 * w + W 4 w ∧ k < ln then P k else W 6 (8 * i + k) := by
  unfold wA
  by_cases e : i = 4 * w + W 4 w ∧ k < ln
  · rw [if_neg (by omega), if_neg (by omega), if_pos (by omega), if_pos e, e.1, Nat.add_sub_cancel_left]
  · rw [if_neg (by omega), if_neg (by omega), if_neg (by omega), if_neg e]
/-- a world but for the ways of w, that may have none yet -/
def okX (W : Wd) (w : Nat) : Prop :=
  W 0 0 ≤ 5 ∧ (∀ v, v < W 0 0 → W 1 v ≤ 60 ∧ W 2 v ≤ 200 ∧ W 3 v ≤ 99 ∧ (v ≠ w → 1 ≤ W 4 v) ∧ W 4 v ≤ 4) ∧ (∀ v, W 0 0 ≤ v → W 4 v = 0) ∧
  (∀ i, i < 20 → (i % 4 < W 4 (i / 4) → 1 ≤ W 5 i ∧ W 5 i ≤ 8) ∧ (¬ i % 4 < W 4 (i / 4) → W 5 i = 0)) ∧
  (∀ i, i < 20 → ∀ k, k < W 5 i → W 6 (8 * i + k) < 8) ∧ ∀ p q, p < 8 → q < 8 → p ≠ q → 1 ≤ W 7 (8 * p + q) ∧ W 7 (8 * p + q) ≤ 30
theorem okW.X {W : Wd} (ok : okW W) (w : Nat) : okX W w := by
  obtain ⟨h1, h2, h3, h4, h5, h6⟩ := ok
  exact ⟨h1, fun v hv => ⟨(h2 v hv).1, (h2 v hv).2.1, (h2 v hv).2.2.1, fun _ => (h2 v hv).2.2.2.1, (h2 v hv).2.2.2.2⟩, h3, h4, h5, h6⟩
theorem okX.A {W : Wd} {w ln : Nat} {P : Nat → Nat} (ok : okX W w) (hw : w < W 0 0) (h4 : W 4 w < 4) (hl1 : 1 ≤ ln) (hl8 : ln ≤ 8) (hP : ∀ j, j < ln → P j < 8) : okW (wA W w ln P) := by
  obtain ⟨h1, h2, h3, h5, h6, h7⟩ := ok
  have o := fun a h c => wA_o W w ln P (a := a) h c
  refine ⟨by rw [o 0 (by decide)]; exact h1, fun v hv => ?_, fun v hv => ?_, fun i hi => ?_, fun i hi k hk => ?_, fun p q hp hq hpq => ?_⟩
  · rw [o 0 (by decide)] at hv
    rw [o 1 (by decide), o 2 (by decide), o 3 (by decide), wA_4]
    obtain ⟨b1, b2, b3, b4, b5⟩ := h2 v hv
    refine ⟨b1, b2, b3, ?_⟩
    by_cases e : v = w
    · rw [if_pos e]
      omega
    · rw [if_neg e]
      exact ⟨b4 e, b5⟩
  · rw [o 0 (by decide)] at hv
    rw [wA_4, if_neg (by omega)]
    exact h3 v hv
  · rw [wA_4, wA_5]
    by_cases e : i = 4 * w + W 4 w
    · rw [if_pos (by omega), if_pos e]
      exact ⟨fun _ => ⟨hl1, hl8⟩, fun q => by omega⟩
    · rw [if_neg e]
      have := h5 i hi
      by_cases e2 : i / 4 = w
      · rw [if_pos e2]
        rw [e2] at this
        exact ⟨fun q => this.1 (by omega), fun q => this.2 (by omega)⟩
      · rw [if_neg e2]
        exact this
  · rw [wA_5] at hk
    by_cases e : i = 4 * w + W 4 w
    · rw [if_pos e] at hk
      rw [wA_6 W w ln P hl8 i k (by omega), if_pos ⟨e, hk⟩]
      exact hP k hk
    · rw [if_neg e] at hk
      have h8 : W 5 i ≤ 8 := by
        have := h5 i hi
        omega
      rw [wA_6 W w ln P hl8 i k (by omega), if_neg (by omega)]
      exact h6 i hi k hk
  · rw [o 7 (by decide)]
    exact h7 p q hp hq hpq
theorem cam_A {W : Wd} {w ln : Nat} {P : Nat → Nat} (hl : ln ≤ 8) {i : Nat} (hi : i ≠ 4 * w + W 4 w) : ∀ k, k < 8 → cam (wA W w ln P) i k = cam W i k := by
  have o := fun a h c => wA_o W w ln P (a := a) h c
  have ob : ∀ p q, btw (wA W w ln P) p q = btw W p q := fun p q => by
    unfold btw
    rw [o 7 (by decide)]
  intro k
  induction k with
  | zero => intro _; unfold cam; rw [o 2 (by decide)]
  | succ k ih => intro hk; rw [cam, cam, ih (by omega), wA_6 W w ln P hl i k (by omega), wA_6 W w ln P hl i (k + 1) hk, if_neg (by omega), if_neg (by omega), ob]
def rgAw (i _j : Nat) : Prop := i = 35 ∨ i = 36 ∨ (38 ≤ i ∧ i < 58) ∨ (59 ≤ i ∧ i < 79)
theorem C_addWay {N : Nat} {W : Wd} {σ : Sx} (hN : 30 < N) {w k f ln : Nat} {P : Nat → Nat} (hc : cW W σ) (h5 : W 0 0 ≤ 5) (hw : w < W 0 0) (h4 : W 4 w < 4) (hl8 : ln ≤ 8) (hlen : ∀ i, i < 20 → W 5 i ≤ 8) (ok2 : okW (wA W w ln P)) (hk : k < 6) (hf : f + ln ≤ 60) (hP : ∀ j, j < ln → siL σ (16 + k) (f + j) = (nI (P j)).toInt64) : ∃ σ2, F_X8_addWay N (nI w) k (nI f) (nI ln) σ = some (nI (W 4 w), σ2) ∧ Kp rgAw σ σ2 ∧ cW (wA W w ln P) σ2 := by
  have o := fun a h c => wA_o W w ln P (a := a) h c
  obtain ⟨c1, c2, c3, c4, c5, c6⟩ := cW_b hc
  have hw5 : w < 5 := by omega
  generalize hi : 4 * w + W 4 w = i
  have hi20 : i < 20 := by omega
  unfold F_X8_addWay
  rw [aIx_k hw5 (by decide), c3 w hw5, C_wayIndex, clx_s, hi, nmx_s]
  refine lp1U (Q := fun o => ∃ σ2, o = some (nI (W 4 w), σ2) ∧ Kp rgAw σ σ2 ∧ cW (wA W w ln P) σ2) ln (fun n σx => Kp (fun a _ => a = 38 + i) σ σx ∧ ∀ j, j < n → siI σx (38 + i) j = nI (P j)) ?_ (i := 0) (Nat.zero_le _) (by omega) ⟨Kp.rf, fun j q => absurd q (Nat.not_lt_zero _)⟩
  rintro r n σx hn ⟨hkx, hj⟩
  unfold B_X8_addWay_L19
  rw [ite_le (by omega) (by omega)]
  by_cases hlt : ln ≤ n
  · left
    rw [if_pos hlt]
    dsimp only
    have x35 : siI σx 35 w = nI (W 4 w) := by
      rw [(hkx 35 w (by omega)).1]
      exact c3 w hw5
    rw [sIx_k hi20 (by decide), aIx_k hw5 (by decide), uI_i (by decide), x35, nI_add1, sIx_k hw5 (by decide)]
    generalize hσb : upI (upI σx 36 i (nI ln)) 35 w (nI (W 4 w + 1)) = σb
    have kb : Kp (fun a _ => a = 38 + i ∨ a = 35 ∨ a = 36) σ σb := by
      rw [← hσb]
      exact ((hkx.le (fun a b q => by omega)).I (by omega)).I (by omega)
    have cb : cWb (wA W w ln P) σb := by
      refine ⟨by rw [(kb 1 0 (by omega)).1, o 0 (by decide)]; exact c1, fun v hv => ?_, fun v hv => ?_, fun a ha => ?_, fun a ha q hq => ?_, fun p q hp hq hpq => ?_⟩
      · rw [o 0 (by decide)] at hv
        rw [(kb 23 v (by omega)).1, (kb 24 v (by omega)).1, (kb 25 v (by omega)).1, o 1 (by decide), o 2 (by decide), o 3 (by decide)]
        exact c2 v hv
      · rw [wA_4]
        by_cases e : v = w
        · rw [if_pos e, e, ← hσb, uI_s]
        · rw [if_neg e, ← hσb, uI_j e, uI_i (by decide), (hkx 35 v (by omega)).1]
          exact c3 v hv
      · rw [wA_5, hi]
        by_cases e : a = i
        · rw [if_pos e, e, ← hσb, uI_i (by decide), uI_s]
        · rw [if_neg e, ← hσb, uI_i (by decide), uI_j e, (hkx 36 a (by omega)).1]
          exact c4 a ha
      · rw [wA_5, hi] at hq
        rw [← hσb, uI_i (by omega), uI_i (by omega)]
        by_cases e : a = i
        · rw [if_pos e] at hq
          rw [wA_6 W w ln P hl8 a q (by omega), if_pos (by omega), e]
          exact hj q (by omega)
        · rw [if_neg e] at hq
          rw [wA_6 W w ln P hl8 a q (by have := hlen a ha; omega), if_neg (by omega), (hkx (38 + a) q (by omega)).1]
          exact c5 a ha q hq
      · rw [(kb (27 + p) q (by omega)).1, o 7 (by decide)]
        exact c6 p q hp hq hpq
    obtain ⟨σ2, g1, g2, g3⟩ := C_reckon (N := N) (by omega) ok2 cb hi20
    rw [g1, clx_s]
    refine ⟨σ2, rfl, (kb.le (fun a b q => by unfold rgAw; omega)).tr (g2.le (fun a b q => by unfold rgAw; omega)), cW_bc (cb.of (fun a b q1 q2 => (g2 a b (by omega)).1)) (fun a ha => ?_)⟩
    by_cases e : a = i
    · rw [e]
      exact g3
    · intro q hq
      rw [wA_5, hi, if_neg e] at hq
      rw [(g2 (59 + a) q (by omega)).1, (kb (59 + a) q (by omega)).1, cam_A hl8 (by omega) q (by have := hlen a ha; omega)]
      exact cW_c hc ha q hq
  · right
    rw [if_neg hlt, aRx_k hi20 (by decide), nI_add, aLx_k (by omega) (by decide), (hkx (16 + k) _ (by omega)).2, hP n (by omega), Int32.toInt32_toInt64, sIx_k (by omega) (by decide), nI_add1]
    refine ⟨by omega, _, ⟨hkx.I rfl, fun j q => ?_⟩, rfl⟩
    by_cases e : j = n
    · rw [e, uI_s]
    · rw [uI_j e]
      exact hj j (by omega)
/-- the reference's world, m walkers told -/
def mWq (W : Wd) (m : Nat) (σ : Sx) : Prop :=
  siI σ 103 1 = nI m ∧ (∀ w, w < W 0 0 → siI σ 104 w = nI (W 1 w) ∧ siI σ 105 w = nI (W 2 w) ∧ siI σ 106 w = nI (W 3 w) ∧ siI σ 107 w = nI (W 4 w)) ∧
  (∀ i, i < 20 → i % 4 < W 4 (i / 4) → siI σ 108 i = nI (W 5 i)) ∧ (∀ i, i < 20 → ∀ k, k < W 5 i → siI σ 109 (8 * i + k) = nI (W 6 (8 * i + k))) ∧
  ∀ p q, p < 8 → q < 8 → p ≠ q → siI σ 110 (8 * p + q) = nI (W 7 (8 * p + q))
theorem M_addWay {N : Nat} {W : Wd} {σ : Sx} (hN : 30 < N) {w k f ln m : Nat} {P : Nat → Nat} (hm : mWq W m σ) (h5 : W 0 0 ≤ 5) (hw : w < W 0 0) (h4 : W 4 w < 4) (hl8 : ln ≤ 8) (h10 : ln < 10) (hlen : ∀ i, i < 20 → W 5 i ≤ 8) (hk : k < 6) (hf : f + ln ≤ 60) (hP : ∀ j, j < ln → siL σ 137 (60 * k + (f + j)) = (nI (P j)).toInt64) : ∃ σ2, F_X10_addWay N (nI w) (nI k) (nI (10 * f + ln)) σ = some (nI (W 4 w), σ2) ∧ Kp (fun i _ => 107 ≤ i ∧ i ≤ 109) σ σ2 ∧ mWq (wA W w ln P) m σ2 := by
  have o := fun a h c => wA_o W w ln P (a := a) h c
  obtain ⟨m1, m2, m3, m4, m5⟩ := hm
  have hw5 : w < 5 := by omega
  have hi20 : 4 * w + W 4 w < 20 := by omega
  have ed : (10 * f + ln) / 10 = f := by omega
  have em : (10 * f + ln) % 10 = ln := by omega
  have m107 := (m2 w hw).2.2.2
  unfold F_X10_addWay
  rw [aIx_k hw5 (by decide), m107, mul4L, nI_add, sIx_k hi20 (by decide), rem10 (by omega), em, nmx_s]
  generalize hσ0 : upI σ 108 (4 * w + W 4 w) (nI ln) = σ0
  have k0 : Kp (fun i _ => i = 108) σ σ0 := by
    rw [← hσ0]
    exact Kp.rf.I rfl
  refine lp1U (Q := fun o => ∃ σ2, o = some (nI (W 4 w), σ2) ∧ Kp (fun i _ => 107 ≤ i ∧ i ≤ 109) σ σ2 ∧ mWq (wA W w ln P) m σ2) ln (fun n σx => Kp (fun a _ => a = 109) σ0 σx ∧ (∀ j, j < n → siI σx 109 (8 * (4 * w + W 4 w) + j) = nI (P j)) ∧ ∀ q, (q < 8 * (4 * w + W 4 w) ∨ 8 * (4 * w + W 4 w) + 8 ≤ q) → siI σx 109 q = siI σ 109 q) ?_ (i := 0) (Nat.zero_le _) (by omega) ⟨Kp.rf, fun j q => absurd q (Nat.not_lt_zero _), fun q _ => (k0 109 q (by omega)).1⟩
  rintro r n σx hn ⟨hkx, hj, ho⟩
  unfold B_X10_addWay_L26
  rw [rem10 (by omega), em, ite_le (by omega) (by omega)]
  by_cases hlt : ln ≤ n
  · left
    rw [if_pos hlt]
    dsimp only
    have x107 : siI σx 107 w = nI (W 4 w) := by
      rw [(hkx 107 w (by omega)).1, (k0 107 w (by omega)).1]
      exact m107
    rw [aIx_k hw5 (by decide), x107, nI_add1, sIx_k hw5 (by decide)]
    have kx : Kp (fun i _ => 107 ≤ i ∧ i ≤ 109) σ σx := (k0.le (fun a b q => by omega)).tr (hkx.le (fun a b q => by omega))
    refine ⟨_, rfl, kx.I (by omega), ?_, fun v hv => ?_, fun i hi hv => ?_, fun i hi q hq => ?_, fun p q hp hq hpq => ?_⟩
    · rw [uI_i (by decide), (kx 103 1 (by omega)).1]
      exact m1
    · rw [o 0 (by decide)] at hv
      rw [uI_i (a := 104) (by decide), uI_i (a := 105) (by decide), uI_i (a := 106) (by decide), (kx 104 v (by omega)).1, (kx 105 v (by omega)).1, (kx 106 v (by omega)).1, o 1 (by decide), o 2 (by decide), o 3 (by decide), wA_4]
      obtain ⟨b1, b2, b3, b4⟩ := m2 v hv
      refine ⟨b1, b2, b3, ?_⟩
      by_cases e : v = w
      · rw [if_pos e, e, uI_s]
      · rw [if_neg e, uI_j e, (hkx 107 v (by omega)).1, (k0 107 v (by omega)).1]
        exact b4
    · rw [wA_4] at hv
      rw [uI_i (by decide), (hkx 108 i (by omega)).1, wA_5, ← hσ0]
      by_cases e : i = 4 * w + W 4 w
      · rw [if_pos e, e, uI_s]
      · rw [if_neg e, uI_j e]
        refine m3 i hi ?_
        by_cases e2 : i / 4 = w
        · rw [if_pos e2] at hv
          rw [e2]
          omega
        · rw [if_neg e2] at hv
          exact hv
    · rw [wA_5] at hq
      rw [uI_i (by decide)]
      by_cases e : i = 4 * w + W 4 w
      · rw [if_pos e] at hq
        rw [wA_6 W w ln P hl8 i q (by omega), if_pos ⟨e, hq⟩, e]
        exact hj q (by omega)
      · rw [if_neg e] at hq
        have := hlen i hi
        rw [wA_6 W w ln P hl8 i q (by omega), if_neg (by omega), ho _ (by omega)]
        exact m4 i hi q hq
    · rw [uI_i (by decide), (kx 110 _ (by omega)).1, o 7 (by decide)]
      exact m5 p q hp hq hpq
  · right
    rw [if_neg hlt, div10 (by omega), ed, mul60L, nI_add, nI_add, aLx_k (by omega) (by decide), (hkx 137 _ (by omega)).2, (k0 137 _ (by omega)).2, Nat.add_assoc, hP n (by omega), Int32.toInt32_toInt64, show (32 : Int32) * nI w = nI (32 * w) from pk_mul _ _, mul8L, nI_add, nI_add, sIx_k (by omega) (by decide), nI_add1, show 32 * w + 8 * W 4 w + n = 8 * (4 * w + W 4 w) + n by omega]
    refine ⟨by omega, _, ⟨hkx.I rfl, fun j q => ?_, fun q hq => ?_⟩, rfl⟩
    · by_cases e : j = n
      · rw [e, uI_s]
      · rw [uI_j (by omega)]
        exact hj j (by omega)
    · rw [uI_j (by omega)]
      exact ho q hq
theorem okE.mono {n m what num v : Nat} (h : okE n what num v) (hm : n ≤ m) : okE m what num v := by
  unfold okE at h ⊢
  omega
theorem ReC.mono {n m : Nat} {σ : Sx} (h : ReC n σ) (hm : n ≤ m) : ReC m σ := by
  obtain ⟨a, u, h1, h2, h3, h4, h5, h6⟩ := h
  refine ⟨a, u, h1, h2, h3, h4, h5, fun j hj => ?_⟩
  obtain ⟨what, num, was, bec, q1, q2, q3⟩ := h6 j hj
  exact ⟨what, num, was, bec, q1.mono hm, q2.mono hm, q3⟩
def rgWk (i j : Nat) : Prop := rgAw i j ∨ (107 ≤ i ∧ i ≤ 109) ∨ (i = 3 ∧ j = 2) ∨ (23 ≤ i ∧ i ≤ 25) ∨ (i = 1 ∧ j = 0) ∨ (104 ≤ i ∧ i ≤ 106) ∨ (i = 103 ∧ j = 1)
theorem rgWk_A {σ σ2 : Sx} (k : Kp rgWk σ σ2) : Kp rgA σ σ2 := k.le (fun i j q => by unfold rgWk rgAw at q; unfold rgA otR; omega)
theorem rgWk_e {σ σ2 : Sx} (k : Kp rgWk σ σ2) : ∀ i j, (lcR i j ∨ lmR i j ∨ (i = 103 ∧ (j = 32 ∨ j = 34))) → siI σ2 i j = siI σ i j := fun i j q => (k i j (by unfold lcR lmR at q; unfold rgWk rgAw; omega)).1
theorem rgWk_C {σ σ2 : Sx} (k : Kp rgWk σ σ2) {n : Nat} (h : ReC n σ) : ReC n σ2 := h.of (fun i j q => (k i j (by unfold ccR at q; unfold rgWk rgAw; omega)).1)
theorem s_way {N : Nat} (hN : 1100 < N) (a0 a1 a2 : Int32) {σ : Sx} (h : ReW N σ) (hs : RelS σ) : StI (ReW N) rgA σ (F_X9_way N a0 a1 a2 σ) (F_X10_way N a0 a1 a2) := by
  obtain ⟨W, G, b, h⟩ := h
  obtain ⟨ok, hc, hm⟩ := h.of3
  have hn := ok.nw
  have eM : ∀ σ : Sx, F_X10_way N a0 a1 a2 σ = clx (F_X10_isWalker a0 σ) (fun v1 σ1 => (if v1 = 0 then some ((-1 : Int32), σ1) else preW N a1 a2 (fun σ5 => aIx 107 5 a0 σ5 (fun v6 => (if v6 = (4 : Int32) then some ((-3 : Int32), σ5) else clx (F_X10_addWay N a0 a1 a2 σ5) (fun v7 σ6 => some (v7, σ6))))) σ1)) := fun σ => rfl
  rcases two_walker ok a0 hc.1 hm.1 with ⟨e1, e2⟩ | ⟨w, hw, rfl, e1, e2⟩
  · refine ⟨-1, σ, σ, ?_, ?_, ⟨W, G, b, h⟩, Kp.rf⟩
    · rw [F_X9_way, e1]
      rfl
    · rw [eM, e2]
      rfl
  have hw5 : w < 5 := by omega
  rcases two_wayT (N := N) (by omega) hs a1 a2 with ⟨r, r0, f1, f2⟩ | ⟨k, f, ln, P, hp, ⟨x, hx⟩, rfl, rfl, f1⟩
  · refine ⟨r, σ, σ, ?_, ?_, ⟨W, G, b, h⟩, Kp.rf⟩
    · rw [F_X9_way, e1, clx_s, if10, f1, clx_s, if_neg r0]
    · rw [eM, e2, clx_s, if10, f2]
  obtain ⟨hk, hl1, hl8, hf, -, hP⟩ := id hp
  have ed : (10 * f + ln) / 10 = f := by omega
  have em : (10 * f + ln) % 10 = ln := by omega
  have b4 : W 4 w ≤ 4 := ok.ways w
  have m107 := (hm.2.1 w hw).2.2.2
  by_cases h4 : W 4 w = 4
  · refine ⟨-3, σ, σ, ?_, ?_, ⟨W, G, b, h⟩, Kp.rf⟩
    · rw [F_X9_way, e1, clx_s, if10, f1, clx_s, if_pos rfl, aIx_k hw5 (by decide), hc.2.2.1 w hw5, h4]
      rfl
    · rw [eM, e2, clx_s, if10, M_pre (by omega) hp ⟨x, hx⟩, aIx_k hw5 (by decide), m107, h4]
      rfl
  have ok2 : okW (wA W w ln P) := (ok.X w).A hw (by omega) hl1 hl8 (fun j hj => (hP j hj).1)
  have hlen : ∀ i, i < 20 → W 5 i ≤ 8 := fun i hi => ok.len hi
  obtain ⟨σ1, c1, c2, c3⟩ := C_addWay (N := N) (by omega) hc hn hw (by omega) hl8 hlen ok2 hk hf (fun j hj => (hP j hj).2.1)
  generalize hσ2 : upI σ1 3 2 1 = σ2
  have k2 : Kp (fun i j => rgAw i j ∨ (i = 3 ∧ j = 2)) σ σ2 := by
    rw [← hσ2]
    exact (c2.le (fun i j q => Or.inl q)).I (Or.inr ⟨rfl, rfl⟩)
  have kA : Kp rgA σ σ2 := k2.le (fun i j q => by unfold rgAw at q; unfold rgA otR; omega)
  have m2 : mW W σ2 := hm.kp k2 (fun i j q => by unfold mwR at q; unfold rgAw; omega)
  have w2 : cW (wA W w ln P) σ2 := by
    rw [← hσ2]
    exact c3.kp (Kp.rf.I (reg := fun i j => i = 3 ∧ j = 2) ⟨rfl, rfl⟩) (fun i j q => by unfold cwR at q; omega)
  have hp2 := hp.kp kA
  have hx2 : ∀ j, j < 60 → siL σ2 137 (60 * k + j) = (x j).toInt64 := fun j hj => by
    rw [(kA 137 _ (by unfold rgA otR; omega)).2]
    exact hx j hj
  obtain ⟨σ3, d1, d2, d3⟩ := M_addWay (N := N) (by omega) (m := W 0 0) (P := P) m2 hn hw (by omega) hl8 (by omega) hlen hk hf (fun j hj => (hp2.2.2.2.2.2 j hj).2.2)
  have k3 : Kp rgWk σ σ3 := (k2.le (fun i j q => by unfold rgAw at q; unfold rgWk rgAw; omega)).tr (d2.le (fun i j q => by unfold rgWk; omega))
  have o0 : wA W w ln P 0 0 = W 0 0 := wA_o W w ln P (by decide) 0
  refine ⟨nI (W 4 w), σ2, σ3, ?_, ?_, ⟨_, G, b, h.next (rgWk_e k3) ok2 (w2.kp d2 (fun i j q => by unfold cwR at q; omega)) (by unfold mW; rw [o0]; rw [mWq, o0] at d3; exact d3) ?_ ?_⟩, rgWk_A k3⟩
  · rw [F_X9_way, e1, clx_s, if10, f1, clx_s, if_pos rfl, aIx_k hw5 (by decide), hc.2.2.1 w hw5, if_pos (show nI (W 4 w) < (4 : Int32) from nI_lt (show W 4 w < 4 by omega) (by decide)), aRx_k hk (by decide), div10 (by omega), rem10 (by omega), ed, em, c1, clx_s, C_spoil, clx_s, hσ2]
  · rw [eM, M_isWalker ok _ m2.1, if_neg (nI_pos (by omega)), if_neg (nI_ge hw (by omega)), clx_s, if10, M_pre (by omega) hp2 ⟨x, hx2⟩, aIx_k hw5 (by decide), (m2.2.1 w hw).2.2.2, if_neg (show ¬ nI (W 4 w) = (4 : Int32) from fun q => h4 ((nI_eq (b := 4) (by omega) (by decide)).mp q)), d1]
    rfl
  · rw [(d2 3 2 (by omega)).1, ← hσ2, uI_s]
  · rw [o0]
    exact rgWk_C k3 h.2.2.2.2.2.2.2.2.2
def wN (W : Wd) : Wd := fun a c => if a = 0 ∧ c = 0 then W 0 0 + 1 else if (a = 1 ∨ a = 3) ∧ c = W 0 0 then 10 else if a = 2 ∧ c = W 0 0 then 0 else W a c
theorem wN_o (W : Wd) {a : Nat} (h : 4 ≤ a) (c : Nat) : wN W a c = W a c := by
  unfold wN
  rw [if_neg (by omega), if_neg (by omega), if_neg (by omega)]
theorem wN_0 (W : Wd) : wN W 0 0 = W 0 0 + 1 := if_pos ⟨rfl, rfl⟩
theorem wN_w (W : Wd) {a w : Nat} (h : 1 ≤ a) (hw : w < W 0 0) : wN W a w = W a w := by
  unfold wN
  rw [if_neg (by omega), if_neg (by omega), if_neg (by omega)]
theorem wN_n (W : Wd) : wN W 1 (W 0 0) = 10 ∧ wN W 2 (W 0 0) = 0 ∧ wN W 3 (W 0 0) = 10 := by
  unfold wN
  refine ⟨?_, ?_, ?_⟩
  · rw [if_neg (by omega), if_pos (by omega)]
  · rw [if_neg (by omega), if_neg (by omega), if_pos (by omega)]
  · rw [if_neg (by omega), if_pos (by omega)]
theorem okX_N {W : Wd} (ok : okW W) (h5 : W 0 0 < 5) : okX (wN W) (W 0 0) := by
  obtain ⟨h1, h2, h3, h4, h6, h7⟩ := ok
  refine ⟨by rw [wN_0]; omega, fun v hv => ?_, fun v hv => ?_, fun i hi => ?_, fun i hi k hk => ?_, fun p q hp hq hpq => ?_⟩
  · rw [wN_0] at hv
    rw [wN_o W (a := 4) (by decide)]
    by_cases e : v = W 0 0
    · have z := wN_n W
      rw [e, z.1, z.2.1, z.2.2, h3 _ (Nat.le_refl _)]
      exact ⟨by decide, by decide, by decide, fun q => absurd rfl q, by decide⟩
    · rw [wN_w W (by decide) (show v < W 0 0 by omega), wN_w W (by decide) (show v < W 0 0 by omega), wN_w W (by decide) (show v < W 0 0 by omega)]
      obtain ⟨b1, b2, b3, b4, b5⟩ := h2 v (by omega)
      exact ⟨b1, b2, b3, fun _ => b4, b5⟩
  · rw [wN_0] at hv
    rw [wN_o W (a := 4) (by decide)]
    exact h3 v (by omega)
  · rw [wN_o W (a := 4) (by decide), wN_o W (a := 5) (by decide)]
    exact h4 i hi
  · rw [wN_o W (a := 5) (by decide)] at hk
    rw [wN_o W (a := 6) (by decide)]
    exact h6 i hi k hk
  · rw [wN_o W (a := 7) (by decide)]
    exact h7 p q hp hq hpq
theorem cam_N {W : Wd} {i : Nat} (hi : i / 4 < W 0 0) : ∀ k, cam (wN W) i k = cam W i k := by
  have ob : ∀ p q, btw (wN W) p q = btw W p q := fun p q => by
    unfold btw
    rw [wN_o W (a := 7) (by decide)]
  intro k
  induction k with
  | zero => unfold cam; rw [wN_w W (by decide) hi]
  | succ k ih => rw [cam, cam, ih, wN_o W (a := 6) (by decide), wN_o W (a := 6) (by decide), ob]
theorem s_walker {N : Nat} (hN : 1100 < N) (a0 a1 : Int32) {σ : Sx} (h : ReW N σ) (hs : RelS σ) : StI (ReW N) rgA σ (F_X9_walker N a0 a1 σ) (F_X10_walker N a0 a1) := by
  obtain ⟨W, G, b, h⟩ := h
  obtain ⟨ok, hc, hm⟩ := h.of3
  have hn := ok.nw
  have eM : ∀ σ : Sx, F_X10_walker N a0 a1 σ = preW N a0 a1 (fun σ4 => (if (siI σ4 103 1) = (5 : Int32) then some ((-3 : Int32), σ4) else sIx 104 5 (siI σ4 103 1) (10 : Int32) σ4 (fun σ5 => sIx 105 5 (siI σ5 103 1) (0 : Int32) σ5 (fun σ6 => sIx 106 5 (siI σ6 103 1) (10 : Int32) σ6 (fun σ7 => sIx 107 5 (siI σ7 103 1) (0 : Int32) σ7 (fun σ8 => clx (F_X10_addWay N (siI σ8 103 1) a0 a1 σ8) (fun v5 σ9 => pIx 103 1 ((siI σ9 103 1) + (1 : Int32)) σ9 (fun σ10 => some (((siI σ10 103 1) - (1 : Int32)), σ10))))))))) σ := fun σ => rfl
  rcases two_wayT (N := N) (by omega) hs a0 a1 with ⟨r, r0, f1, f2⟩ | ⟨k, f, ln, P, hp, ⟨x, hx⟩, rfl, rfl, f1⟩
  · refine ⟨r, σ, σ, ?_, ?_, ⟨W, G, b, h⟩, Kp.rf⟩
    · rw [F_X9_walker, f1, clx_s, if_neg r0]
    · rw [eM, f2]
  obtain ⟨hk, hl1, hl8, hf, -, hP⟩ := id hp
  have ed : (10 * f + ln) / 10 = f := by omega
  have em : (10 * f + ln) % 10 = ln := by omega
  generalize hn0 : W 0 0 = n at hn
  by_cases h5 : n = 5
  · refine ⟨-3, σ, σ, ?_, ?_, ⟨W, G, b, h⟩, Kp.rf⟩
    · rw [F_X9_walker, f1, clx_s, if_pos rfl, hc.1, hn0, h5]
      rfl
    · rw [eM, M_pre (by omega) hp ⟨x, hx⟩, hm.1, hn0, h5]
      rfl
  have hn5 : n < 5 := by omega
  have z3 := wN_n W
  rw [hn0] at z3
  have z0 : wN W 0 0 = n + 1 := by rw [wN_0, hn0]
  have z4 : wN W 4 n = 0 := by
    rw [wN_o W (by decide)]
    exact ok.2.2.1 n (by omega)
  have hlen : ∀ i, i < 20 → wN W 5 i ≤ 8 := fun i hi => by
    rw [wN_o W (by decide)]
    exact ok.len hi
  have okx := okX_N ok (by omega)
  rw [hn0] at okx
  have ok2 : okW (wA (wN W) n ln P) := okx.A (by omega) (by omega) hl1 hl8 (fun j hj => (hP j hj).1)
  generalize hσa : upI (upI (upI (upI σ 23 n 10) 24 n 0) 25 n 10) 1 0 (nI (n + 1)) = σa
  have ka : Kp (fun i j => (23 ≤ i ∧ i ≤ 25) ∨ (i = 1 ∧ j = 0)) σ σa := by
    rw [← hσa]
    exact (((Kp.rf.I (by omega)).I (by omega)).I (by omega)).I (by omega)
  have ca : cW (wN W) σa := by
    obtain ⟨c1, c2, c3, c4, c5, c6⟩ := hc
    rw [hn0] at c2
    refine ⟨by rw [z0, ← hσa, uI_s], fun w hw => ?_, fun w hw => by rw [(ka 35 w (by omega)).1, wN_o W (by decide)]; exact c3 w hw, fun i hi => by rw [(ka 36 i (by omega)).1, wN_o W (by decide)]; exact c4 i hi, fun i hi q hq => ?_, fun p q hp hq hpq => by rw [(ka (27 + p) q (by omega)).1, wN_o W (by decide)]; exact c6 p q hp hq hpq⟩
    · rw [z0] at hw
      by_cases e : w = n
      · rw [e, z3.1, z3.2.1, z3.2.2, ← hσa]
        refine ⟨?_, ?_, ?_⟩
        · rw [uI_i (by decide), uI_i (by decide), uI_i (by decide), uI_s]
          rfl
        · rw [uI_i (by decide), uI_i (by decide), uI_s]
          rfl
        · rw [uI_i (by decide), uI_s]
          rfl
      · rw [wN_w W (by decide) (by omega), wN_w W (by decide) (by omega), wN_w W (by decide) (by omega), ← hσa, uI_i (by decide), uI_i (by decide), uI_i (by decide), uI_j e, uI_i (by decide), uI_i (by decide), uI_j e, uI_i (by decide), uI_i (by decide), uI_j e, uI_i (by decide), uI_i (by decide)]
        exact c2 w (by omega)
    · rw [wN_o W (by decide)] at hq
      rw [(ka (38 + i) q (by omega)).1, (ka (59 + i) q (by omega)).1, wN_o W (by decide), cam_N (ok.own hi hq).2]
      exact c5 i hi q hq
  obtain ⟨σ1, c1, c2, c3⟩ := C_addWay (N := N) (by omega) ca (by omega) (w := n) (by omega) (by omega) hl8 hlen ok2 hk hf (fun j hj => by rw [(ka (16 + k) _ (by omega)).2]; exact (hP j hj).2.1)
  generalize hσ2 : upI σ1 3 2 1 = σ2
  have k2 : Kp (fun i j => rgAw i j ∨ (i = 3 ∧ j = 2) ∨ (23 ≤ i ∧ i ≤ 25) ∨ (i = 1 ∧ j = 0)) σ σ2 := by
    rw [← hσ2]
    exact ((ka.le (fun i j q => by omega)).tr (c2.le (fun i j q => Or.inl q))).I (by omega)
  have kA : Kp rgA σ σ2 := k2.le (fun i j q => by unfold rgAw at q; unfold rgA otR; omega)
  have m2 : mW W σ2 := hm.kp k2 (fun i j q => by unfold mwR at q; unfold rgAw; omega)
  have w2 : cW (wA (wN W) n ln P) σ2 := by
    rw [← hσ2]
    exact c3.kp (Kp.rf.I (reg := fun i j => i = 3 ∧ j = 2) ⟨rfl, rfl⟩) (fun i j q => by unfold cwR at q; omega)
  have hp2 := hp.kp kA
  have hx2 : ∀ j, j < 60 → siL σ2 137 (60 * k + j) = (x j).toInt64 := fun j hj => by
    rw [(kA 137 _ (by unfold rgA otR; omega)).2]
    exact hx j hj
  have m21 : siI σ2 103 1 = nI n := by
    rw [m2.1, hn0]
  generalize hσ8 : upI (upI (upI (upI σ2 104 n 10) 105 n 0) 106 n 10) 107 n 0 = σ8
  have k8 : Kp (fun i _ => 104 ≤ i ∧ i ≤ 107) σ2 σ8 := by
    rw [← hσ8]
    exact (((Kp.rf.I (by omega)).I (by omega)).I (by omega)).I (by omega)
  have m8 : mWq (wN W) n σ8 := by
    obtain ⟨q1, q2, q3, q4, q5⟩ := m2
    rw [hn0] at q2
    refine ⟨by rw [(k8 103 1 (by omega)).1]; exact m21, fun w hw => ?_, fun i hi hv => ?_, fun i hi q hq => ?_, fun p q hp hq hpq => by rw [(k8 110 _ (by omega)).1, wN_o W (by decide)]; exact q5 p q hp hq hpq⟩
    · rw [z0] at hw
      by_cases e : w = n
      · rw [e, z3.1, z3.2.1, z3.2.2, z4, ← hσ8]
        refine ⟨?_, ?_, ?_, ?_⟩
        · rw [uI_i (by decide), uI_i (by decide), uI_i (by decide), uI_s]
          rfl
        · rw [uI_i (by decide), uI_i (by decide), uI_s]
          rfl
        · rw [uI_i (by decide), uI_s]
          rfl
        · rw [uI_s]
          rfl
      · rw [wN_w W (by decide) (by omega), wN_w W (by decide) (by omega), wN_w W (by decide) (by omega), wN_o W (by decide), ← hσ8, uI_j e, uI_j e, uI_j e, uI_j e, uI_j e, uI_j e, uI_j e, uI_j e, uI_j e, uI_j e, uI_j e, uI_j e, uI_j e, uI_j e, uI_j e, uI_j e]
        exact q2 w (by omega)
    · rw [wN_o W (by decide)] at hv
      rw [(k8 108 i (by omega)).1, wN_o W (by decide)]
      exact q3 i hi hv
    · rw [wN_o W (by decide)] at hq
      rw [(k8 109 _ (by omega)).1, wN_o W (by decide)]
      exact q4 i hi q hq
  obtain ⟨σ3, d1, d2, d3⟩ := M_addWay (N := N) (by omega) (P := P) m8 (by omega) (w := n) (by omega) (by omega) hl8 (by omega) hlen hk hf (fun j hj => by rw [(k8 137 _ (by omega)).2]; exact (hp2.2.2.2.2.2 j hj).2.2)
  have d31 : siI σ3 103 1 = nI n := d3.1
  generalize hσ4 : upI σ3 103 1 (nI (n + 1)) = σ4
  have k4 : Kp (fun i j => (104 ≤ i ∧ i ≤ 109) ∨ (i = 103 ∧ j = 1)) σ2 σ4 := by
    rw [← hσ4]
    exact ((k8.le (fun i j q => by omega)).tr (d2.le (fun i j q => by omega))).I (by omega)
  have k5 : Kp rgWk σ σ4 := (k2.le (fun i j q => by unfold rgAw at q; unfold rgWk rgAw; omega)).tr (k4.le (fun i j q => by unfold rgWk; omega))
  have o0 : wA (wN W) n ln P 0 0 = n + 1 := by rw [wA_o (wN W) n ln P (by decide) 0, z0]
  have m4 : mW (wA (wN W) n ln P) σ4 := by
    obtain ⟨q1, q2, q3, q4, q5⟩ := d3
    rw [← hσ4]
    refine ⟨by rw [uI_s, o0], fun w hw => ?_, fun i hi hv => ?_, fun i hi q hq => ?_, fun p q hp hq hpq => ?_⟩
    · rw [uI_i (by decide), uI_i (by decide), uI_i (by decide), uI_i (by decide)]
      exact q2 w hw
    · rw [uI_i (by decide)]
      exact q3 i hi hv
    · rw [uI_i (by decide)]
      exact q4 i hi q hq
    · rw [uI_i (by decide)]
      exact q5 p q hp hq hpq
  refine ⟨nI n, σ2, σ4, ?_, ?_, ⟨_, G, b, h.next (rgWk_e k5) ok2 (w2.kp k4 (fun i j q => by unfold cwR at q; omega)) m4 ?_ ?_⟩, rgWk_A k5⟩
  · rw [F_X9_walker, f1, clx_s, if_pos rfl, hc.1, hn0, if_pos (show nI n < (5 : Int32) from nI_lt (by omega) (by decide)), F_X8_addWalker, nmx_s, hc.1, hn0, aRx3_0, sIx_k hn5 (by decide), aRx3_1, sIx_k hn5 (by decide), aRx3_2, sIx_k hn5 (by decide), uI_i (a := 1) (by decide), uI_i (a := 1) (by decide), uI_i (a := 1) (by decide), hc.1, hn0, nI_add1, pIx_s, hσa, clx_s, aRx_k hk (by decide), div10 (by omega), rem10 (by omega), ed, em, c1, clx_s, C_spoil, clx_s, hσ2]
  · rw [eM, M_pre (by omega) hp2 ⟨x, hx2⟩, m21, if_neg (show ¬ nI n = (5 : Int32) from fun q => h5 ((nI_eq (b := 5) (by omega) (by decide)).mp q)), sIx_k hn5 (by decide), uI_i (a := 103) (by decide), m21, sIx_k hn5 (by decide), uI_i (a := 103) (by decide), uI_i (a := 103) (by decide), m21, sIx_k hn5 (by decide), uI_i (a := 103) (by decide), uI_i (a := 103) (by decide), uI_i (a := 103) (by decide), m21, sIx_k hn5 (by decide), hσ8, show siI σ8 103 1 = nI n from m8.1, d1, clx_s, d31, nI_add1, pIx_s, hσ4, ← hσ4, uI_s, nI_sub1]
  · rw [(k4 3 2 (by omega)).1, ← hσ2, uI_s]
  · rw [o0]
    have := rgWk_C k5 h.2.2.2.2.2.2.2.2.2
    rw [hn0] at this
    exact this.mono (by omega)
