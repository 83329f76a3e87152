/-! THE LIST OF ALL DAYS -/
theorem sIx_0 {α : Type} {i n : Nat} {v : Int32} {σ : Sx} {K : Sx → Option α} (h : 0 < n) (hn : n < 2 ^ 31) : sIx i n (0 : Int32) v σ K = K (upI σ i 0 v) := sIx_k (k := 0) h hn
theorem sIx_1 {α : Type} {i n : Nat} {v : Int32} {σ : Sx} {K : Sx → Option α} (h : 1 < n) (hn : n < 2 ^ 31) : sIx i n (1 : Int32) v σ K = K (upI σ i 1 v) := sIx_k (k := 1) h hn
theorem sIx_2 {α : Type} {i n : Nat} {v : Int32} {σ : Sx} {K : Sx → Option α} (h : 2 < n) (hn : n < 2 ^ 31) : sIx i n (2 : Int32) v σ K = K (upI σ i 2 v) := sIx_k (k := 2) h hn
theorem sIx_3 {α : Type} {i n : Nat} {v : Int32} {σ : Sx} {K : Sx → Option α} (h : 3 < n) (hn : n < 2 ^ 31) : sIx i n (3 : Int32) v σ K = K (upI σ i 3 v) := sIx_k (k := 3) h hn
theorem sIx_4 {α : Type} {i n : Nat} {v : Int32} {σ : Sx} {K : Sx → Option α} (h : 4 < n) (hn : n < 2 ^ 31) : sIx i n (4 : Int32) v σ K = K (upI σ i 4 v) := sIx_k (k := 4) h hn
theorem sIx_5 {α : Type} {i n : Nat} {v : Int32} {σ : Sx} {K : Sx → Option α} (h : 5 < n) (hn : n < 2 ^ 31) : sIx i n (5 : Int32) v σ K = K (upI σ i 5 v) := sIx_k (k := 5) h hn
theorem aIx_0 {α : Type} {i n : Nat} {σ : Sx} {K : Int32 → Option α} (h : 0 < n) (hn : n < 2 ^ 31) : aIx i n (0 : Int32) σ K = K (siI σ i 0) := aIx_k (k := 0) h hn
theorem aIx_1 {α : Type} {i n : Nat} {σ : Sx} {K : Int32 → Option α} (h : 1 < n) (hn : n < 2 ^ 31) : aIx i n (1 : Int32) σ K = K (siI σ i 1) := aIx_k (k := 1) h hn
theorem aIx_2 {α : Type} {i n : Nat} {σ : Sx} {K : Int32 → Option α} (h : 2 < n) (hn : n < 2 ^ 31) : aIx i n (2 : Int32) σ K = K (siI σ i 2) := aIx_k (k := 2) h hn
theorem aIx_3 {α : Type} {i n : Nat} {σ : Sx} {K : Int32 → Option α} (h : 3 < n) (hn : n < 2 ^ 31) : aIx i n (3 : Int32) σ K = K (siI σ i 3) := aIx_k (k := 3) h hn
def szN (W : Wd) : Nat → Nat
  | 0 => 1
  | n + 1 => szN W n * W 4 n
def nmN (W : Wd) : Nat → Nat → Nat
  | 0, _ => 0
  | n + 1, x => nmN W n (x % szN W n) + (x / szN W n) * 4 ^ n
theorem p4 (n : Nat) : 2 ^ (2 * n) = 4 ^ n := by rw [Nat.pow_mul]
theorem szN_pos {W : Wd} (ok : okW W) : ∀ n, n ≤ W 0 0 → 0 < szN W n := by
  intro n
  induction n with
  | zero => intro _; exact Nat.one_pos
  | succ n ih =>
    intro h
    have h1 := (ok.2.1 n (by omega)).2.2.2.1
    exact Nat.mul_pos (ih (by omega)) (by omega)
theorem szN_le {W : Wd} (ok : okW W) : ∀ n, szN W n ≤ 4 ^ n := by
  intro n
  induction n with
  | zero => exact Nat.le_refl _
  | succ n ih =>
    rw [Nat.pow_succ]
    exact Nat.mul_le_mul ih (ok.ways n)
theorem szN_1024 {W : Wd} (ok : okW W) {n : Nat} (h : n ≤ 5) : szN W n ≤ 1024 := Nat.le_trans (szN_le ok n) (Nat.le_trans (Nat.pow_le_pow_right (by decide) h) (by decide))
theorem nmN_lt {W : Wd} (ok : okW W) : ∀ n x, n ≤ W 0 0 → x < szN W n → nmN W n x < 4 ^ n := by
  intro n
  induction n with
  | zero => intro x _ _; exact Nat.one_pos
  | succ n ih =>
    intro x hn hx
    have hp := szN_pos ok n (by omega)
    have h1 := ih (x % szN W n) (by omega) (Nat.mod_lt _ hp)
    have h2 : x / szN W n < W 4 n := Nat.div_lt_of_lt_mul hx
    have h4 := ok.ways n
    have h3 : x / szN W n * 4 ^ n ≤ 3 * 4 ^ n := Nat.mul_le_mul_right _ (by omega)
    unfold nmN
    rw [Nat.pow_succ]
    omega
theorem dg_add {a v n u : Nat} (ha : a < 4 ^ n) (hv : v < 4) : dg (a + v * 4 ^ n) u = if u < n then dg a u else if u = n then v else 0 := by
  unfold dg
  rw [p4]
  by_cases h : u < n
  · rw [if_pos h]
    obtain ⟨c, rfl⟩ : ∃ c, n = u + 1 + c := ⟨n - u - 1, by omega⟩
    have e : v * 4 ^ (u + 1 + c) = 4 ^ u * (4 * (v * 4 ^ c)) := by
      rw [Nat.pow_add, Nat.pow_succ]
      simp only [Nat.mul_comm, Nat.mul_left_comm, Nat.mul_assoc]
    rw [e, Nat.add_mul_div_left _ _ (Nat.pow_pos (by decide)), Nat.add_mul_mod_self_left]
  · rw [if_neg h]
    by_cases h2 : u = n
    · subst h2
      rw [if_pos rfl, Nat.add_mul_div_right _ _ (Nat.pow_pos (by decide)), Nat.div_eq_of_lt ha, Nat.zero_add, Nat.mod_eq_of_lt hv]
    · rw [if_neg h2]
      have h3 : a + v * 4 ^ n < 4 ^ (n + 1) := by
        have : v * 4 ^ n ≤ 3 * 4 ^ n := Nat.mul_le_mul_right _ (by omega)
        rw [Nat.pow_succ]
        omega
      rw [Nat.div_eq_of_lt (Nat.lt_of_lt_of_le h3 (Nat.pow_le_pow_right (by decide) (by omega)))]
theorem dg_big {a n u : Nat} (ha : a < 4 ^ n) (hu : n ≤ u) : dg a u = 0 := by
  unfold dg
  rw [p4, Nat.div_eq_of_lt (Nat.lt_of_lt_of_le ha (Nat.pow_le_pow_right (by decide) hu))]
theorem nmN_dg {W : Wd} (ok : okW W) : ∀ n x, n ≤ W 0 0 → x < szN W n → ∀ u, u < n → dg (nmN W n x) u < W 4 u := by
  intro n
  induction n with
  | zero => intro x _ _ u hu; omega
  | succ n ih =>
    intro x hn hx u hu
    have hp := szN_pos ok n (by omega)
    have h1 := nmN_lt ok n (x % szN W n) (by omega) (Nat.mod_lt _ hp)
    have h2 : x / szN W n < W 4 n := Nat.div_lt_of_lt_mul hx
    have h4 := ok.ways n
    unfold nmN
    rw [dg_add h1 (by omega)]
    by_cases h : u < n
    · rw [if_pos h]
      exact ih _ (by omega) (Nat.mod_lt _ hp) u h
    · rw [if_neg h, if_pos (by omega), show u = n by omega]
      exact h2
theorem nmN_mono {W : Wd} (ok : okW W) : ∀ n x y, n ≤ W 0 0 → x < y → y < szN W n → nmN W n x < nmN W n y := by
  intro n
  induction n with
  | zero =>
    intro x y _ h1 h2
    have : szN W 0 = 1 := rfl
    omega
  | succ n ih =>
    intro x y hn hxy hy
    have hp := szN_pos ok n (by omega)
    have hx1 := nmN_lt ok n (x % szN W n) (by omega) (Nat.mod_lt _ hp)
    have hy1 := nmN_lt ok n (y % szN W n) (by omega) (Nat.mod_lt _ hp)
    have hd : x / szN W n ≤ y / szN W n := Nat.div_le_div_right (by omega)
    unfold nmN
    rcases Nat.lt_or_ge (x / szN W n) (y / szN W n) with h | h
    · have : (x / szN W n + 1) * 4 ^ n ≤ y / szN W n * 4 ^ n := Nat.mul_le_mul_right _ h
      rw [Nat.succ_mul] at this
      omega
    · have e : x / szN W n = y / szN W n := by omega
      have hm : x % szN W n < y % szN W n := by
        have a := Nat.div_add_mod x (szN W n)
        have b := Nat.div_add_mod y (szN W n)
        rw [e] at a
        omega
      have := ih _ _ (by omega) hm (Nat.mod_lt _ hp)
      rw [e]
      omega
theorem nmN_sur {W : Wd} (ok : okW W) : ∀ n d, n ≤ W 0 0 → d < 4 ^ n → (∀ u, u < n → dg d u < W 4 u) → ∃ x, x < szN W n ∧ nmN W n x = d := by
  intro n
  induction n with
  | zero =>
    intro d _ hd _
    exact ⟨0, Nat.one_pos, by unfold nmN; have : 4 ^ 0 = 1 := rfl; omega⟩
  | succ n ih =>
    intro d hn hd hu
    have hp := szN_pos ok n (by omega)
    have h4p : 0 < 4 ^ n := Nat.pow_pos (by decide)
    have hv : d / 4 ^ n < 4 := Nat.div_lt_of_lt_mul (by rw [Nat.pow_succ] at hd; exact hd)
    have hm : d % 4 ^ n < 4 ^ n := Nat.mod_lt _ h4p
    have e : d = d % 4 ^ n + d / 4 ^ n * 4 ^ n := by
      rw [Nat.mul_comm]
      exact (Nat.mod_add_div _ _).symm
    have hdg : ∀ u, dg d u = if u < n then dg (d % 4 ^ n) u else if u = n then d / 4 ^ n else 0 := fun u => by
      rw [← dg_add hm hv, ← e]
    obtain ⟨x, hx, hx2⟩ := ih (d % 4 ^ n) (by omega) hm (fun u q => by
      have := hu u (by omega)
      rw [hdg, if_pos q] at this
      exact this)
    have hvw : d / 4 ^ n < W 4 n := by
      have := hu n (by omega)
      rw [hdg, if_neg (Nat.lt_irrefl _), if_pos rfl] at this
      exact this
    refine ⟨szN W n * (d / 4 ^ n) + x, ?_, ?_⟩
    · show _ < szN W n * W 4 n
      have : szN W n * (d / 4 ^ n + 1) ≤ szN W n * W 4 n := Nat.mul_le_mul_left _ hvw
      rw [Nat.mul_succ] at this
      omega
    · unfold nmN
      rw [Nat.mul_add_mod, Nat.mod_eq_of_lt hx, Nat.mul_add_div hp, Nat.div_eq_of_lt hx, Nat.add_zero, hx2]
      exact e.symm
/-- a day of the list is a day -/
theorem nm_day {W : Wd} (ok : okW W) {x : Nat} (hx : x < szN W (W 0 0)) : isDy W (nmN W (W 0 0) x) := by
  have hn := ok.nw
  have h1 := nmN_lt ok _ x (Nat.le_refl _) hx
  refine ⟨Nat.lt_of_lt_of_le h1 (Nat.le_trans (Nat.pow_le_pow_right (by decide) hn) (by decide)), fun u hu => ?_⟩
  rcases Nat.lt_or_ge u (W 0 0) with h | h
  · exact Or.inr (nmN_dg ok _ x (Nat.le_refl _) hx u h)
  · exact Or.inl (dg_big h1 h)
theorem day_nm {W : Wd} (ok : okW W) {d : Nat} (hd : isDy W d) : ∃ x, x < szN W (W 0 0) ∧ nmN W (W 0 0) x = d := by
  have hn := ok.nw
  refine nmN_sur ok _ d (Nat.le_refl _) ?_ (fun u hu => hd.way ok hu)
  have hz : ∀ u, W 0 0 ≤ u → u < 5 → dg d u = 0 := fun u h1 h2 => by
    rcases hd.2 u h2 with e | e
    · exact e
    · rw [ok.2.2.1 u h1] at e
      omega
  have key : ∀ c n, n + c = 5 → (∀ u, n ≤ u → u < 5 → dg d u = 0) → d < 4 ^ n := by
    intro c
    induction c with
    | zero =>
      intro n h1 _
      have : n = 5 := by omega
      subst this
      exact Nat.lt_of_lt_of_le hd.1 (by decide)
    | succ c ih =>
      intro n h1 h2
      have h3 := ih (n + 1) (by omega) (fun u q1 q2 => h2 u (by omega) q2)
      have h4 := h2 n (Nat.le_refl _) (by omega)
      unfold dg at h4
      rw [p4] at h4
      have h5 : d / 4 ^ n < 4 := Nat.div_lt_of_lt_mul (by rw [Nat.pow_succ] at h3; exact h3)
      rw [Nat.mod_eq_of_lt h5] at h4
      exact (Nat.div_eq_zero_iff.mp h4).elim (fun q => absurd q (Nat.ne_of_gt (Nat.pow_pos (by decide)))) id
  exact key (5 - W 0 0) (W 0 0) (by omega) hz
/-- the list stands in the cells -/
def lsW (W : Wd) (n : Nat) (σ : Sx) : Prop := siI σ 3 5 = nI (szN W n) ∧ ∀ x, x < szN W n → siI σ 83 x = nI (nmN W n x) ∧ siI σ 84 x = nI (wys n (nmN W n x))
def rgL (i j : Nat) : Prop := i = 83 ∨ i = 84 ∨ (i = 3 ∧ j = 5)
theorem wys_low {n d v : Nat} (hd : d < 4 ^ n) (hv : v < 4) : wys n (d + v * 4 ^ n) = wys n d := by
  unfold wys
  refine bst_congr (fun j hj => ?_)
  rw [dg_add hd hv, if_pos (by omega)]
theorem C_spread {W : Wd} {σ : Sx} {N : Nat} (hN : 1024 < N) (ok : okW W) (hw4 : ∀ w, w < 5 → siI σ 35 w = nI (W 4 w)) {n : Nat} (hn : n < W 0 0) (h : lsW W n σ) : ∃ σ2, F_X2_spread N (nI n) σ = some ((), σ2) ∧ Kp rgL σ σ2 ∧ lsW W (n + 1) σ2 := by
  have hnw := ok.nw
  have h4 := ok.ways n
  have h41 := (ok.2.1 n hn).2.2.2.1
  have hp := szN_pos ok n (by omega)
  have hS := szN_1024 ok (show n ≤ 5 by omega)
  have hS2 := szN_1024 ok (show n + 1 ≤ 5 by omega)
  have eS : szN W (n + 1) = szN W n * W 4 n := rfl
  have fr : ∀ {σ2 : Sx}, Kp rgL σ σ2 → ∀ w, w < 5 → siI σ2 35 w = nI (W 4 w) := fun k w hw => by
    rw [(k 35 w (by unfold rgL; omega)).1]
    exact hw4 w hw
  generalize hSS : szN W n = S at *
  have lo : ∀ x, x < S → nmN W (n + 1) x = nmN W n x := fun x hx => by
    show nmN W n (x % szN W n) + (x / szN W n) * 4 ^ n = _
    rw [hSS, Nat.mod_eq_of_lt hx, Nat.div_eq_of_lt hx, Nat.zero_mul, Nat.add_zero]
  have hi : ∀ v x, x < S → nmN W (n + 1) (S * v + x) = nmN W n x + v * 4 ^ n := fun v x hx => by
    show nmN W n ((S * v + x) % szN W n) + ((S * v + x) / szN W n) * 4 ^ n = _
    rw [hSS, Nat.mul_add_mod, Nat.mod_eq_of_lt hx, Nat.mul_add_div hp, Nat.div_eq_of_lt hx, Nat.add_zero]
  have nlt : ∀ x, x < S → nmN W n x < 4 ^ n := fun x hx => nmN_lt ok n x (by omega) (by rw [hSS]; exact hx)
  have p45 : 4 ^ n ≤ 256 := Nat.le_trans (Nat.pow_le_pow_right (by decide) (show n ≤ 4 by omega)) (by decide)
  unfold F_X2_spread
  rw [nmx_s, nmx_s, h.1, hSS]
  -- the days so far
  refine lp1U (Q := fun o => ∃ σ2, o = some ((), σ2) ∧ Kp rgL σ σ2 ∧ lsW W (n + 1) σ2) (W 4 n) (fun v σ2 => 1 ≤ v ∧ Kp rgL σ σ2 ∧ siI σ2 3 5 = nI (S * v) ∧ (∀ x, x < S * v → siI σ2 83 x = nI (nmN W (n + 1) x)) ∧ (∀ x, x < S → siI σ2 84 x = nI (wys n (nmN W n x))) ∧ ∀ x, S ≤ x → x < S * v → siI σ2 84 x = nI (wys (n + 1) (nmN W (n + 1) x))) ?_ (i := 1) h41 (by omega) ⟨Nat.le_refl _, Kp.rf, by rw [h.1, hSS, Nat.mul_one], fun x hx => ?_, fun x hx => (h.2 x (by rw [hSS]; exact hx)).2, fun x h1 h2 => by omega⟩
  · rintro r v σ2 hv ⟨hv1, hk, g1, g2, g3, g4⟩
    unfold B_X2_spread_L7
    rw [aIx_k (show n < 5 by omega) (by decide), fr hk n (by omega), ite_le (by omega) (by omega)]
    by_cases hlv : W 4 n ≤ v
    · left
      rw [if_pos hlv]
      have ev : v = W 4 n := by omega
      subst ev
      -- the first ones take the first way
      refine lp1U (Q := fun o => ∃ σ2, o = some ((), σ2) ∧ Kp rgL σ σ2 ∧ lsW W (n + 1) σ2) S (fun d σ3 => Kp rgL σ σ3 ∧ siI σ3 3 5 = nI (S * W 4 n) ∧ (∀ x, x < S * W 4 n → siI σ3 83 x = nI (nmN W (n + 1) x)) ∧ (∀ x, x < S * W 4 n → (x < d ∨ S ≤ x) → siI σ3 84 x = nI (wys (n + 1) (nmN W (n + 1) x))) ∧ ∀ x, d ≤ x → x < S → siI σ3 84 x = nI (wys n (nmN W n x))) ?_ (i := 0) (Nat.zero_le _) (by omega) ⟨hk, g1, g2, fun x q1 q2 => g4 x (by omega) q1, fun x _ q => g3 x q⟩
      rintro r2 d σ3 hd ⟨hk3, e1, e2, e3, e4⟩
      unfold B_X2_spread_L109
      rw [ite_le (by omega) (by omega)]
      by_cases hld : S ≤ d
      · left
        rw [if_pos hld]
        refine ⟨σ3, rfl, hk3, by rw [e1, eS], fun x hx => ?_⟩
        rw [eS] at hx
        exact ⟨e2 x hx, e3 x hx (by omega)⟩
      right
      refine ⟨by omega, ?_⟩
      have hd2 : d < S := by omega
      refine ⟨upI σ3 84 d (nI (wys n (nmN W n d) ||| 2 ^ (4 * n + 0))), ⟨hk3.I (Or.inr (Or.inl rfl)), by rw [uI_i (by decide)]; exact e1, fun x hx => by rw [uI_i (by decide)]; exact e2 x hx, fun x hx hx2 => ?_, fun x hx hx2 => by rw [uI_j (by omega)]; exact e4 x (by omega) hx2⟩, ?_⟩
      · by_cases e : x = d
        · subst e
          rw [uI_s, lo x hd2, ← wys_s, dg_big (nlt x hd2) (Nat.le_refl _)]
        · rw [uI_j e]
          exact e3 x hx (by omega)
      · rw [if_neg hld, aIx_k (show d < 1024 by omega) (by decide), e4 d (Nat.le_refl _) hd2, show F_X8_wayIndex (nI n) (0 : Int32) σ3 = _ from C_wayIndex n 0, clx_s, shl1 (by omega), orI, sIx_k (show d < 1024 by omega) (by decide), nI_add1]
    right
    refine ⟨by omega, ?_⟩
    have hv2 : v < W 4 n := by omega
    have hmul : S * (v + 1) ≤ S * W 4 n := Nat.mul_le_mul_left _ hv2
    rw [Nat.mul_succ] at hmul
    rw [if_neg hlv, nmx_s, nI_add1]
    refine lp1U (Q := fun o => ∃ σ', (1 ≤ v + 1 ∧ Kp rgL σ σ' ∧ siI σ' 3 5 = nI (S * (v + 1)) ∧ (∀ x, x < S * (v + 1) → siI σ' 83 x = nI (nmN W (n + 1) x)) ∧ (∀ x, x < S → siI σ' 84 x = nI (wys n (nmN W n x))) ∧ ∀ x, S ≤ x → x < S * (v + 1) → siI σ' 84 x = nI (wys (n + 1) (nmN W (n + 1) x))) ∧ o = r (nI (v + 1)) σ') S (fun d σ3 => Kp rgL σ σ3 ∧ siI σ3 3 5 = nI (S * v + d) ∧ (∀ x, x < S * v + d → siI σ3 83 x = nI (nmN W (n + 1) x)) ∧ (∀ x, x < S → siI σ3 84 x = nI (wys n (nmN W n x))) ∧ ∀ x, S ≤ x → x < S * v + d → siI σ3 84 x = nI (wys (n + 1) (nmN W (n + 1) x))) ?_ (i := 0) (Nat.zero_le _) (by omega) ⟨hk, g1, g2, g3, g4⟩
    rintro r2 d σ3 hd ⟨hk3, e1, e2, e3, e4⟩
    have hSv : S ≤ S * v := Nat.le_mul_of_pos_right _ (by omega)
    unfold B_X2_spread_L23
    rw [ite_le (by omega) (by omega)]
    by_cases hld : S ≤ d
    · left
      rw [if_pos hld]
      have ed : d = S := by omega
      subst ed
      refine ⟨σ3, ⟨by omega, hk3, by rw [e1, Nat.mul_succ], fun x hx => e2 x (by rw [Nat.mul_succ] at hx; exact hx), e3, fun x q1 q2 => e4 x q1 (by rw [Nat.mul_succ] at q2; exact q2)⟩, rfl⟩
    right
    refine ⟨by omega, ?_⟩
    have hd2 : d < S := by omega
    have hsz : S * v + d < 1024 := by omega
    have hx1 : siI σ3 83 d = nI (nmN W n d) := by rw [e2 d (by omega), lo d hd2]
    have o1 : nmN W n d ||| v * 4 ^ n = nmN W (n + 1) (S * v + d) := by
      rw [hi v d hd2, ← p4, Nat.mul_comm, Nat.or_comm, ← Nat.two_pow_add_eq_or_of_lt (by rw [p4]; exact nlt d hd2), Nat.add_comm]
    have o2 : wys n (nmN W n d) ||| 2 ^ (4 * n + v) = wys (n + 1) (nmN W (n + 1) (S * v + d)) := by
      rw [← wys_s, hi v d hd2, wys_low (nlt d hd2) (by omega), dg_add (nlt d hd2) (by omega), if_neg (Nat.lt_irrefl _), if_pos rfl]
    have v4 : v * 4 ^ n < 1024 := Nat.lt_of_le_of_lt (Nat.mul_le_mul (show v ≤ 3 by omega) p45) (by decide)
    refine ⟨upI (upI (upI σ3 83 (S * v + d) (nI (nmN W (n + 1) (S * v + d)))) 84 (S * v + d) (nI (wys (n + 1) (nmN W (n + 1) (S * v + d))))) 3 5 (nI (S * v + d + 1)), ⟨((hk3.I (Or.inl rfl)).I (Or.inr (Or.inl rfl))).I (Or.inr (Or.inr ⟨rfl, rfl⟩)), by rw [uI_s]; rfl, fun x hx => ?_, fun x hx => ?_, fun x q1 q2 => ?_⟩, ?_⟩
    · rw [uI_i (by decide), uI_i (by decide)]
      by_cases e : x = S * v + d
      · subst e
        rw [uI_s]
      · rw [uI_j e]
        exact e2 x (by omega)
    · rw [uI_i (by decide), uI_j (by omega), uI_i (by decide)]
      exact e3 x hx
    · rw [uI_i (by decide)]
      by_cases e : x = S * v + d
      · subst e
        rw [uI_s]
      · rw [uI_j e, uI_i (by decide)]
        exact e4 x q1 (by omega)
    · have u84 : ∀ q, siI (upI σ3 83 (S * v + d) q) 84 d = nI (wys n (nmN W n d)) := fun q => by rw [uI_i (by decide)]; exact e3 d hd2
      have u35 : ∀ q, siI (upI σ3 83 (S * v + d) q) 3 5 = nI (S * v + d) := fun q => by rw [uI_i (by decide)]; exact e1
      have u36 : ∀ q q2, siI (upI (upI σ3 83 (S * v + d) q) 84 (S * v + d) q2) 3 5 = nI (S * v + d) := fun q q2 => by rw [uI_i (by decide)]; exact u35 q
      rw [if_neg hld, e1, if_neg (show ¬ (1024 : Int32) ≤ nI (S * v + d) from nI_ge (b := 1024) hsz (by decide)), aIx_k (show d < 1024 by omega) (by decide), hx1, mul2L, shlI (by omega) (by rw [p4]; omega), orI, p4, o1, sIx_k hsz (by decide), aIx_k (show d < 1024 by omega) (by decide), u84, C_wayIndex, clx_s, shl1 (by omega), orI, o2, u35, sIx_k hsz (by decide), u36, nI_add1, pIx_s, nI_add1]
  · rw [Nat.mul_one] at hx
    rw [lo x hx]
    exact (h.2 x (by rw [hSS]; exact hx)).1
theorem C_list {W : Wd} {σ : Sx} {N : Nat} (hN : 1024 < N) (ok : okW W) (h1 : siI σ 1 0 = nI (W 0 0)) (hw4 : ∀ w, w < 5 → siI σ 35 w = nI (W 4 w)) : ∃ σ2, F_X2_list N σ = some ((), σ2) ∧ Kp rgL σ σ2 ∧ lsW W (W 0 0) σ2 := by
  have hnw := ok.nw
  unfold F_X2_list
  rw [sIx_0 (by decide) (by decide), sIx_0 (by decide) (by decide), pIx_s]
  refine lp1U (Q := fun o => ∃ σ2, o = some ((), σ2) ∧ Kp rgL σ σ2 ∧ lsW W (W 0 0) σ2) (W 0 0) (fun n σ2 => Kp rgL σ σ2 ∧ lsW W n σ2) ?_ (i := 0) (Nat.zero_le _) (by omega) ⟨((Kp.rf.I (Or.inl rfl)).I (Or.inr (Or.inl rfl))).I (Or.inr (Or.inr ⟨rfl, rfl⟩)), by rw [uI_s]; rfl, fun x hx => ?_⟩
  · rintro r n σ2 hn ⟨hk, hl⟩
    unfold B_X2_list_L21
    rw [(hk 1 0 (by unfold rgL; omega)).1, h1, ite_le (by omega) (by omega)]
    by_cases hlt : W 0 0 ≤ n
    · left
      rw [if_pos hlt]
      have : n = W 0 0 := by omega
      subst this
      exact ⟨σ2, rfl, hk, hl⟩
    · right
      refine ⟨by omega, ?_⟩
      obtain ⟨σ3, e, hk3, hl3⟩ := C_spread hN ok (fun w hw => by rw [(hk 35 w (by unfold rgL; omega)).1]; exact hw4 w hw) (show n < W 0 0 by omega) hl
      rw [if_neg hlt, e, clx_s, nI_add1]
      exact ⟨σ3, ⟨hk.tr hk3, hl3⟩, rfl⟩
  · have : x = 0 := by
      have : szN W 0 = 1 := rfl
      omega
    subst this
    refine ⟨?_, ?_⟩
    · rw [uI_i (by decide), uI_i (by decide), uI_s]
      rfl
    · rw [uI_i (by decide), uI_s]
      rfl
/-- two ascending lists of the same numbers are one -/
theorem asc_eq : ∀ (l m : List Nat), l.Pairwise (· < ·) → m.Pairwise (· < ·) → (∀ x, x ∈ l ↔ x ∈ m) → l = m := by
  intro l
  induction l with
  | nil =>
    intro m _ _ h
    cases m with
    | nil => rfl
    | cons b m => exact absurd ((h b).mpr List.mem_cons_self) (by simp)
  | cons a l ih =>
    intro m hl hm h
    cases m with
    | nil => exact absurd ((h a).mp List.mem_cons_self) (by simp)
    | cons b m =>
      rw [List.pairwise_cons] at hl hm
      have hab : a = b := by
        rcases List.mem_cons.mp ((h a).mp List.mem_cons_self) with e | e
        · exact e
        · rcases List.mem_cons.mp ((h b).mpr List.mem_cons_self) with e2 | e2
          · exact e2.symm
          · have := hm.1 a e
            have := hl.1 b e2
            omega
      subst hab
      rw [ih m hl.2 hm.2 (fun x => ?_)]
      constructor
      · intro hx
        rcases List.mem_cons.mp ((h x).mp (List.mem_cons_of_mem _ hx)) with e | e
        · have := hl.1 x hx
          omega
        · exact e
      · intro hx
        rcases List.mem_cons.mp ((h x).mpr (List.mem_cons_of_mem _ hx)) with e | e
        · have := hm.1 x hx
          omega
        · exact e
