theorem ite_eq0 {α : Type} {a : Nat} (ha : a < 2 ^ 31) (x y : α) : (if nI a = 0 then x else y) = if a = 0 then x else y := ite_eq (b := 0) ha (by decide) x y
theorem C_isWay {W : Wd} {σ : Sx} (ok : okW W) (h1 : siI σ 1 0 = nI (W 0 0)) (h2 : ∀ w, w < 5 → siI σ 35 w = nI (W 4 w)) {u : Nat} (hu : u < 5) (b : Int32) : F_X8_isWay (nI u) b σ = some ((if b < 0 then 0 else if nI (W 4 u) ≤ b then 0 else 1), σ) := by
  have hn := ok.nw
  unfold F_X8_isWay
  rw [C_isWalker (W := W) _ h1, clx_s, if_neg (nI_pos (by omega))]
  by_cases hw : u < W 0 0
  · rw [if_neg (nI_ge hw (by omega)), if_neg (by decide), aIx_k hu (by decide), h2 u hu]
    by_cases q1 : b < 0
    · rw [if_pos q1, if_pos q1]
    · rw [if_neg q1, if_neg q1]
      by_cases q2 : nI (W 4 u) ≤ b
      · rw [if_pos q2, if_pos q2]
      · rw [if_neg q2, if_neg q2]
  · rw [if_pos (nI_le (by omega) (by omega)), if_pos rfl, ok.2.2.1 u (by omega)]
    by_cases q1 : b < 0
    · rw [if_pos q1]
    · rw [if_neg q1, if_pos (show nI 0 ≤ b from Int32.not_lt.mp q1)]
theorem M_isWay {W : Wd} {σ : Sx} (ok : okW W) (h : mW W σ) {u : Nat} (hu : u < 5) (b : Int32) : F_X10_isWay (nI u) b σ = some ((if b < 0 then 0 else if nI (W 4 u) ≤ b then 0 else 1), σ) := by
  have hn := ok.nw
  have h4 := ok.ways u
  unfold F_X10_isWay
  rw [M_isWalker ok _ h.1, clx_s, if_neg (nI_pos (by omega))]
  by_cases hw : u < W 0 0
  · have h5 := (ok.2.1 u hw).2.2.2.1
    rw [if_neg (nI_ge hw (by omega)), if_neg (by decide), aIx_k hu (by decide), (h.2.1 u hw).2.2.2, show nI (W 4 u) - (1 : Int32) = nI (W 4 u - 1) from pk_sub (b := 1) h5]
    rcases in_m (n := W 4 u - 1) (by omega) b σ with ⟨e, q⟩ | ⟨k, hk, rfl, e⟩
    · rw [e, clx_s, if_pos rfl]
      rcases q with q | ⟨q1, q2⟩
      · rw [if_pos q]
      · rw [if_neg q1, if_pos]
        rw [Int32.lt_iff_toInt_lt, nI_toInt (by omega)] at q2
        rw [Int32.le_iff_toInt_le, nI_toInt (by omega)]
        omega
    · rw [e, clx_s, if_neg (by decide), if_neg (nI_pos (by omega)), if_neg (nI_ge (by omega) (by omega))]
  · rw [if_pos (nI_le (by omega) (by omega)), if_pos rfl, ok.2.2.1 u (by omega)]
    by_cases q1 : b < 0
    · rw [if_pos q1]
    · rw [if_neg q1, if_pos (show nI 0 ≤ b from Int32.not_lt.mp q1)]
theorem two_way {W : Wd} {σ : Sx} (ok : okW W) (a b : Int32) (h1 : siI σ 1 0 = nI (W 0 0)) (h2 : ∀ w, w < 5 → siI σ 35 w = nI (W 4 w)) (h : mW W σ) : (F_X8_isWay a b σ = some (0, σ) ∧ F_X10_isWay a b σ = some (0, σ)) ∨ ∃ u v, u < W 0 0 ∧ v < W 4 u ∧ a = nI u ∧ b = nI v ∧ F_X8_isWay a b σ = some (1, σ) ∧ F_X10_isWay a b σ = some (1, σ) := by
  have hn := ok.nw
  rcases two_walker ok a h1 h.1 with ⟨e1, e2⟩ | ⟨u, hu, rfl, e1, e2⟩
  · left
    unfold F_X8_isWay F_X10_isWay
    rw [e1, e2, clx_s, clx_s]
    exact ⟨rfl, rfl⟩
  · have h4 := ok.ways u
    rw [C_isWay ok h1 h2 (by omega) b, M_isWay ok h (by omega) b]
    rcases arg_n b (n := W 4 u) (by omega) with ha | ⟨ha, ha2⟩ | ⟨v, hv, rfl⟩
    · left
      rw [if_pos ha]
      exact ⟨rfl, rfl⟩
    · left
      rw [if_neg ha, if_pos ha2]
      exact ⟨rfl, rfl⟩
    · right
      refine ⟨u, v, hu, hv, rfl, rfl, ?_⟩
      rw [if_neg (nI_pos (by omega)), if_neg (nI_ge hv (by omega))]
      exact ⟨rfl, rfl⟩
def dyF (W : Wd) (d u : Nat) : Bool := decide (¬ (dg d u = 0 ∨ dg d u < W 4 u))
theorem C_isDay0 {W : Wd} {σ : Sx} {N : Nat} (hN : 5 < N) (ok : okW W) (h2 : ∀ w, w < 5 → siI σ 35 w = nI (W 4 w)) {d : Nat} (hd : d < 1024) : lpx1 (B_X8_isDay_L15 N (nI d)) N (0 : Int32) σ = some ((if fsN 5 (dyF W d) < 5 then (0 : Int32) else 1), σ) := by
  rw [show lpx1 (B_X8_isDay_L15 N (nI d)) N (0 : Int32) σ = _ from lp1F (σ := σ) 5 (dyF W d) (fun _ => some ((0 : Int32), σ)) (some ((1 : Int32), σ)) ?_ ?_ hN]
  · split <;> rfl
  · intro r k hk
    have := dg_lt d k
    have h4 := ok.ways k
    unfold B_X8_isDay_L15
    rw [if_neg (show ¬ (5 : Int32) ≤ nI k from nI_ge (b := 5) hk (by decide)), C_choice (by omega) hk, clx_s, nmx_s, i32_0, ite_eq (by omega) (by decide), aIx_k hk (by decide), h2 k hk, ite_lt (by omega) (by omega), nI_add1]
    unfold dyF
    by_cases e1 : dg d k = 0
    · rw [if_pos e1, if_neg (by simp [e1])]
    · rw [if_neg e1]
      by_cases e2 : dg d k < W 4 k
      · rw [if_pos e2, if_neg (by simp [e2])]
      · rw [if_neg e2, if_pos (by simp [e1]; omega)]
  · intro r
    rfl
theorem M_isDay0 {W : Wd} {σ : Sx} {N : Nat} (hN : 5 < N) (ok : okW W) (h : mW W σ) {d : Nat} (hd : d < 1024) : lpx1 (B_X10_isDay_L15 N (nI d)) N (0 : Int32) σ = some ((if fsN 5 (dyF W d) < 5 then (0 : Int32) else 1), σ) := by
  rw [show lpx1 (B_X10_isDay_L15 N (nI d)) N (0 : Int32) σ = _ from lp1F (σ := σ) 5 (dyF W d) (fun _ => some ((0 : Int32), σ)) (some ((1 : Int32), σ)) ?_ ?_ hN]
  · split <;> rfl
  · intro r k hk
    have := dg_lt d k
    have h4 := ok.ways k
    unfold B_X10_isDay_L15
    rw [if_neg (show ¬ (5 : Int32) ≤ nI k from nI_ge (b := 5) hk (by decide)), M_wayIn (by omega) hk, clx_s, nmx_s, M_wayIn (by omega) hk, clx_s, M_isWay ok h hk, clx_s, if_neg (nI_pos (by omega)), nI_add1]
    rw [ite_eq0 (by omega)]
    unfold dyF
    by_cases e1 : dg d k = 0
    · rw [if_pos e1, if_neg (by simp [e1])]
    · rw [if_neg e1]
      by_cases e2 : dg d k < W 4 k
      · rw [if_neg (nI_ge e2 (by omega)), if_neg (by decide), if_neg (by simp [e2])]
      · rw [if_pos (nI_le (by omega) (by omega)), if_pos rfl, if_pos (by simp [e1]; omega)]
  · intro r
    rfl
theorem isDy_iff {W : Wd} {d : Nat} (hd : d < 1024) : isDy W d ↔ ¬ fsN 5 (dyF W d) < 5 := by
  rw [fsN_iff]
  unfold isDy dyF
  constructor
  · rintro ⟨-, h⟩ ⟨u, hu, hf⟩
    simp only [decide_eq_true_eq] at hf
    exact hf (h u hu)
  · intro h
    refine ⟨hd, fun u hu => ?_⟩
    rcases Decidable.em (dg d u = 0 ∨ dg d u < W 4 u) with q | q
    · exact q
    · exact absurd ⟨u, hu, by simpa using q⟩ h
theorem C_isDay {W : Wd} {σ : Sx} {N : Nat} (hN : 5 < N) (ok : okW W) (h2 : ∀ w, w < 5 → siI σ 35 w = nI (W 4 w)) {d : Nat} (h : isDy W d) : F_X8_isDay N (nI d) σ = some (1, σ) := by
  have hd := h.1
  unfold F_X8_isDay
  rw [if_neg (nI_pos (by omega)), if_pos (show nI d < (1024 : Int32) from nI_lt (b := 1024) hd (by decide)), C_isDay0 hN ok h2 hd, if_neg ((isDy_iff hd).mp h)]
theorem M_isDay {W : Wd} {σ : Sx} {N : Nat} (hN : 5 < N) (ok : okW W) (h : mW W σ) {d : Nat} (hd : d < 1024) : (isDy W d ∧ F_X10_isDay N (nI d) σ = some (1, σ)) ∨ (¬ isDy W d ∧ F_X10_isDay N (nI d) σ = some (0, σ)) := by
  unfold F_X10_isDay
  rw [show (1023 : Int32) = nI 1023 from rfl]
  rcases in_m (n := 1023) (by decide) (nI d) σ with ⟨e, q | ⟨q1, q2⟩⟩ | ⟨k, hk, q, e⟩
  · exact absurd q (nI_pos (by omega))
  · rw [nI_ltI (by decide) (by omega)] at q2
    omega
  · rw [e, clx_s, if_neg (by decide), M_isDay0 hN ok h hd]
    by_cases q : fsN 5 (dyF W d) < 5
    · right
      rw [if_pos q]
      exact ⟨fun z => (isDy_iff hd).mp z q, rfl⟩
    · left
      rw [if_neg q]
      exact ⟨(isDy_iff hd).mpr q, rfl⟩
theorem two_day {W : Wd} {σ : Sx} {N : Nat} (hN : 5 < N) (ok : okW W) (h2 : ∀ w, w < 5 → siI σ 35 w = nI (W 4 w)) (h : mW W σ) (a : Int32) : (F_X8_isDay N a σ = some (0, σ) ∧ F_X10_isDay N a σ = some (0, σ)) ∨ ∃ d, isDy W d ∧ a = nI d ∧ F_X8_isDay N a σ = some (1, σ) ∧ F_X10_isDay N a σ = some (1, σ) := by
  unfold F_X8_isDay F_X10_isDay
  rw [show (1023 : Int32) = nI 1023 from rfl, show (1024 : Int32) = nI 1024 from rfl]
  rcases in_m (n := 1023) (by decide) a σ with ⟨e, q⟩ | ⟨k, hk, rfl, e⟩
  · left
    rw [e, clx_s, if_pos rfl]
    refine ⟨?_, rfl⟩
    rcases q with q | ⟨q1, q2⟩
    · rw [if_pos q]
    · rw [if_neg q1, if_neg]
      intro z
      rw [Int32.lt_iff_toInt_lt, nI_toInt (by decide)] at q2 z
      omega
  · have hk2 : k < 1024 := by omega
    rw [e, clx_s, if_neg (show ¬ (1 : Int32) = 0 by decide), if_neg (nI_pos (show k < 2 ^ 31 by omega)), if_pos (nI_lt hk2 (by decide)), C_isDay0 hN ok h2 hk2, M_isDay0 hN ok h hk2]
    by_cases q : fsN 5 (dyF W k) < 5
    · left
      rw [if_pos q]
      exact ⟨rfl, rfl⟩
    · right
      refine ⟨k, (isDy_iff hk2).mpr q, rfl, ?_⟩
      rw [if_neg q]
      exact ⟨rfl, rfl⟩
/-! regions: what a world rests on -/
def cwR (i j : Nat) : Prop := (i = 1 ∧ j = 0) ∨ (23 ≤ i ∧ i ≤ 25) ∨ (27 ≤ i ∧ i ≤ 36) ∨ (38 ≤ i ∧ i ≤ 57) ∨ (59 ≤ i ∧ i ≤ 78)
def mwR (i j : Nat) : Prop := (i = 103 ∧ j = 1) ∨ (104 ≤ i ∧ i ≤ 110)
theorem cW.of {W : Wd} {σ σ2 : Sx} (h : cW W σ) (e : ∀ i j, cwR i j → siI σ2 i j = siI σ i j) : cW W σ2 := by
  obtain ⟨h1, h2, h3, h4, h5, h6⟩ := h
  refine ⟨by rw [e _ _ (Or.inl ⟨rfl, rfl⟩)]; exact h1, fun w hw => ?_, fun w hw => ?_, fun i hi => ?_, fun i hi k hk => ?_, fun p q hp hq hpq => ?_⟩
  · obtain ⟨a, b, c⟩ := h2 w hw
    exact ⟨by rw [e _ _ (Or.inr (Or.inl (by omega)))]; exact a, by rw [e _ _ (Or.inr (Or.inl (by omega)))]; exact b, by rw [e _ _ (Or.inr (Or.inl (by omega)))]; exact c⟩
  · rw [e _ _ (Or.inr (Or.inr (Or.inl (by omega))))]
    exact h3 w hw
  · rw [e _ _ (Or.inr (Or.inr (Or.inl (by omega))))]
    exact h4 i hi
  · rw [e _ _ (Or.inr (Or.inr (Or.inr (Or.inl (by omega))))), e _ _ (Or.inr (Or.inr (Or.inr (Or.inr (by omega)))))]
    exact h5 i hi k hk
  · rw [e _ _ (Or.inr (Or.inr (Or.inl (by omega))))]
    exact h6 p q hp hq hpq
theorem cW.kp {W : Wd} {σ σ2 : Sx} {reg : Nat → Nat → Prop} (h : cW W σ) (k : Kp reg σ σ2) (d : ∀ i j, cwR i j → ¬ reg i j) : cW W σ2 := h.of (fun i j hr => (k i j (d i j hr)).1)
theorem mW.of {W : Wd} {σ σ2 : Sx} (h : mW W σ) (e : ∀ i j, mwR i j → siI σ2 i j = siI σ i j) : mW W σ2 := by
  obtain ⟨h1, h2, h3, h4, h5⟩ := h
  refine ⟨by rw [e _ _ (Or.inl ⟨rfl, rfl⟩)]; exact h1, fun w hw => ?_, fun i hi hl => ?_, fun i hi k hk => ?_, fun p q hp hq hpq => ?_⟩
  · obtain ⟨a, b, c, d⟩ := h2 w hw
    exact ⟨by rw [e _ _ (Or.inr (by omega))]; exact a, by rw [e _ _ (Or.inr (by omega))]; exact b, by rw [e _ _ (Or.inr (by omega))]; exact c, by rw [e _ _ (Or.inr (by omega))]; exact d⟩
  · rw [e _ _ (Or.inr (by omega))]
    exact h3 i hi hl
  · rw [e _ _ (Or.inr (by omega))]
    exact h4 i hi k hk
  · rw [e _ _ (Or.inr (by omega))]
    exact h5 p q hp hq hpq
theorem mW.kp {W : Wd} {σ σ2 : Sx} {reg : Nat → Nat → Prop} (h : mW W σ) (k : Kp reg σ σ2) (d : ∀ i j, mwR i j → ¬ reg i j) : mW W σ2 := h.of (fun i j hr => (k i j (d i j hr)).1)
theorem mC.kp {W : Wd} {σ σ2 : Sx} {reg : Nat → Nat → Prop} (h : mC W σ) (k : Kp reg σ σ2) (d : ∀ j, ¬ reg 123 j) : mC W σ2 := fun i hi n hn => by
  rw [(k _ _ (d _)).1]
  exact h i hi n hn
theorem Kp.le {r r2 : Nat → Nat → Prop} {σ σ2 : Sx} (h : Kp r σ σ2) (hr : ∀ i j, r i j → r2 i j) : Kp r2 σ σ2 := fun i j hn => h i j (fun q => hn (hr i j q))
/-- the minutes are found anew -/
theorem M_findMinutes {W : Wd} {σ : Sx} {N : Nat} (hN : 8 < N) (ok : okW W) (h : mW W σ) : ∃ σ2, F_X10_findMinutes N σ = some ((), σ2) ∧ Kp (fun i _ => i = 123) σ σ2 ∧ mC W σ2 := by
  have hn := ok.nw
  unfold F_X10_findMinutes
  refine lp1U (Q := fun o => ∃ σ2, o = some ((), σ2) ∧ Kp (fun i _ => i = 123) σ σ2 ∧ mC W σ2) (W 0 0) (fun w σ2 => Kp (fun i _ => i = 123) σ σ2 ∧ ∀ i, i < 20 → i / 4 < w → ∀ k, k < W 5 i → siI σ2 123 (8 * i + k) = nI (cam W i k)) ?_ (i := 0) (Nat.zero_le _) (by omega) ⟨Kp.rf, fun i _ hi => absurd hi (Nat.not_lt_zero _)⟩
  rintro r w σ2 hw ⟨hk2, hd2⟩
  have hm2 : mW W σ2 := h.kp hk2 (fun i j hr => by unfold mwR at hr; omega)
  unfold B_X10_findMinutes_L2
  rw [hm2.1, ite_le (by omega) (by omega)]
  by_cases hlt : W 0 0 ≤ w
  · left
    rw [if_pos hlt]
    refine ⟨σ2, rfl, hk2, fun i hi k hk => hd2 i hi ?_ k hk⟩
    have := (ok.own hi hk).2
    omega
  right
  refine ⟨by omega, ?_⟩
  rw [if_neg hlt, nmx_s]
  have hw2 : w < W 0 0 := by omega
  have h4 := ok.ways w
  refine lp1U (Q := fun o => ∃ σ', (Kp (fun i _ => i = 123) σ σ' ∧ ∀ i, i < 20 → i / 4 < w + 1 → ∀ k, k < W 5 i → siI σ' 123 (8 * i + k) = nI (cam W i k)) ∧ o = r (nI (w + 1)) σ') (W 4 w) (fun v σ3 => Kp (fun i _ => i = 123) σ σ3 ∧ ∀ i, i < 20 → (i / 4 < w ∨ (i / 4 = w ∧ i % 4 < v)) → ∀ k, k < W 5 i → siI σ3 123 (8 * i + k) = nI (cam W i k)) ?_ (i := 0) (Nat.zero_le _) (by omega) ⟨hk2, fun i hi ho => hd2 i hi (by omega)⟩
  rintro r3 v σ3 hv ⟨hk3, hd3⟩
  have hm3 : mW W σ3 := h.kp hk3 (fun i j hr => by unfold mwR at hr; omega)
  unfold B_X10_findMinutes_L12
  rw [aIx_k (show w < 5 by omega) (by decide), (hm3.2.1 w hw2).2.2.2, ite_le (by omega) (by omega)]
  by_cases hlv : W 4 w ≤ v
  · left
    rw [if_pos hlv, nI_add1]
    refine ⟨σ3, ⟨hk3, fun i hi ho k hk => hd3 i hi ?_ k hk⟩, rfl⟩
    have := (ok.own hi hk).1
    rcases Nat.lt_or_ge (i / 4) w with q | q
    · exact Or.inl q
    · have e : i / 4 = w := by omega
      rw [e] at this
      omega
  right
  refine ⟨by omega, ?_⟩
  have hi : 4 * w + v < 20 := by omega
  have e4 : (4 * w + v) / 4 = w := div4u (by omega)
  have m4 : (4 * w + v) % 4 = v := mod4u (by omega)
  have hlen := ok.len hi
  rw [if_neg hlv, mul32L, mul8L, nI_add, nmx_s, aIx_k (show w < 5 by omega) (by decide), (hm3.2.1 w hw2).2.1, nmx_s, nI_add1]
  refine lp2U (Q := fun o => ∃ σ', (Kp (fun i _ => i = 123) σ σ' ∧ ∀ i, i < 20 → (i / 4 < w ∨ (i / 4 = w ∧ i % 4 < v + 1)) → ∀ k, k < W 5 i → siI σ' 123 (8 * i + k) = nI (cam W i k)) ∧ o = r3 (nI (v + 1)) σ') (W 5 (4 * w + v)) (fun k x σ4 => Kp (fun i _ => i = 123) σ σ4 ∧ (x = if k = 0 then nI (W 2 w) else nI (cam W (4 * w + v) (k - 1))) ∧ (∀ i, i < 20 → (i / 4 < w ∨ (i / 4 = w ∧ i % 4 < v)) → ∀ k, k < W 5 i → siI σ4 123 (8 * i + k) = nI (cam W i k)) ∧ ∀ j, j < k → siI σ4 123 (8 * (4 * w + v) + j) = nI (cam W (4 * w + v) j)) ?_ (i := 0) (Nat.zero_le _) (by omega) ⟨hk3, rfl, hd3, fun j hj => absurd hj (Nat.not_lt_zero _)⟩
  rintro r4 k x σ4 hk ⟨hk4, hx, hd4, hj4⟩
  have hm4 : mW W σ4 := h.kp hk4 (fun i j hr => by unfold mwR at hr; omega)
  unfold B_X10_findMinutes_L43
  rw [mul4L, nI_add, aIx_k hi (by decide), hm4.2.2.1 _ hi (by rw [e4, m4]; omega), ite_le (by omega) (by omega)]
  by_cases hlk : W 5 (4 * w + v) ≤ k
  · left
    rw [if_pos hlk]
    refine ⟨σ4, ⟨hk4, fun i hi2 ho k2 hk2 => ?_⟩, rfl⟩
    by_cases e : i = 4 * w + v
    · subst e
      exact hj4 k2 (by omega)
    · exact hd4 i hi2 (by omega) k2 hk2
  right
  refine ⟨by omega, ?_⟩
  have hkl : k < W 5 (4 * w + v) := by omega
  have ek : ∀ z, 32 * w + 8 * v + z = 8 * (4 * w + v) + z := fun z => by omega
  have fin : ∀ (c : Int32), c = nI (cam W (4 * w + v) k) → ∃ x' σ', (Kp (fun i _ => i = 123) σ σ' ∧ (x' = if k + 1 = 0 then nI (W 2 w) else nI (cam W (4 * w + v) (k + 1 - 1))) ∧ (∀ i, i < 20 → (i / 4 < w ∨ (i / 4 = w ∧ i % 4 < v)) → ∀ k, k < W 5 i → siI σ' 123 (8 * i + k) = nI (cam W i k)) ∧ ∀ j, j < k + 1 → siI σ' 123 (8 * (4 * w + v) + j) = nI (cam W (4 * w + v) j)) ∧ (sIx 123 160 (nI (32 * w + 8 * v) + nI k) c σ4 (fun σ7 => r4 c (nI k + (1 : Int32)) σ7)) = r4 x' (nI (k + 1)) σ' := by
    intro c hc
    refine ⟨c, upI σ4 123 (8 * (4 * w + v) + k) c, ⟨hk4.I rfl, ?_, fun i hi2 ho k2 hk2 => ?_, fun j hj => ?_⟩, ?_⟩
    · rw [if_neg (by omega), hc]
      rfl
    · have := ok.len hi2
      rw [uI_j (by omega)]
      exact hd4 i hi2 ho k2 hk2
    · by_cases e : j = k
      · subst e
        rw [uI_s, hc]
      · rw [uI_j (by omega)]
        exact hj4 j (by omega)
    · rw [nI_add, ek, sIx_k (by omega) (by decide), nI_add1]
  rw [if_neg hlk, nmx_s]
  match k, hkl, hx, fin with
  | 0, hkl, hx, fin =>
    rw [if_pos (show nI 0 ≤ (0 : Int32) by decide)]
    refine fin x ?_
    rw [hx, if_pos rfl]
    unfold cam
    rw [e4]
  | k + 1, hkl, hx, fin =>
    have p1 := ok.plc hi (show k < W 5 (4 * w + v) by omega)
    have p2 := ok.plc hi hkl
    rw [if_neg (show ¬ nI (k + 1) ≤ (0 : Int32) from nI_nle (by omega) (by omega)), nI_add, ek, aIx_k (by omega) (by decide), hm4.2.2.2.1 _ hi _ hkl, show nI (8 * (4 * w + v) + (k + 1)) - (1 : Int32) = nI (8 * (4 * w + v) + k) from nI_pred _, aIx_k (by omega) (by decide), hm4.2.2.2.1 _ hi _ (show k < W 5 (4 * w + v) by omega), nmx_s, aIx_k (by omega) (by decide), hm4.2.2.2.1 _ hi _ (show k < W 5 (4 * w + v) by omega), aIx_k (by omega) (by decide), hm4.2.2.2.1 _ hi _ hkl, mul8L, nI_add, aIx_k (by omega) (by decide), ite_eq (by omega) (by omega)]
    rw [if_neg (by omega), Nat.add_sub_cancel] at hx
    subst hx
    by_cases e : W 6 (8 * (4 * w + v) + (k + 1)) = W 6 (8 * (4 * w + v) + k)
    · rw [if_pos e]
      dsimp only
      rw [nmx_s]
      rw [show nI (8 * (4 * w + v) + (k + 1)) = nI (32 * w + 8 * v) + nI (k + 1) from by rw [nI_add, ek]]
      refine fin _ ?_
      rw [nI_add1]
      show _ = nI (cam W (4 * w + v) k + btw W _ _)
      unfold btw
      rw [if_pos e.symm]
    · rw [if_neg e, hm4.2.2.2.2 _ _ p1 p2 (fun q => e q.symm)]
      dsimp only
      rw [nmx_s]
      rw [show nI (8 * (4 * w + v) + (k + 1)) = nI (32 * w + 8 * v) + nI (k + 1) from by rw [nI_add, ek]]
      refine fin _ ?_
      rw [nI_add]
      show _ = nI (cam W (4 * w + v) k + btw W _ _)
      unfold btw
      rw [if_neg (fun q => e q.symm)]
