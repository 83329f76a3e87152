/-! THE REFERENCE reads the world -/
theorem div4u {u v : Nat} (hv : v < 4) : (4 * u + v) / 4 = u := by omega
theorem mod4u {u v : Nat} (hv : v < 4) : (4 * u + v) % 4 = v := by omega
theorem M_hasTracks {W : Wd} {σ : Sx} {N : Nat} (hN : 8 < N) (ok : okW W) (h : mW W σ) (hc : mC W σ) {u v p m : Nat} (hu : u < W 0 0) (hv : v < W 4 u) (hp : p < 2 ^ 30) (hm : m < 2 ^ 30) : F_X10_hasTracks N (nI u) (nI v) (nI p) (nI m) σ = some (b2i (trk W (4 * u + v) p m), σ) := by
  have hn := ok.nw
  have h4 := ok.ways u
  have hi : 4 * u + v < 20 := by omega
  have e4 : (4 * u + v) / 4 = u := div4u (by omega)
  have m4 : (4 * u + v) % 4 = v := mod4u (by omega)
  have hl := ok.len hi
  have hlen := h.2.2.1 (4 * u + v) hi (by rw [e4, m4]; exact hv)
  unfold F_X10_hasTracks
  rw [mul32L, mul8L, nI_add, nmx_s]
  rw [show lpx1 (B_X10_hasTracks_L14 N (nI u) (nI v) (nI p) (nI m) (nI (32 * u + 8 * v))) N (0 : Int32) σ = _ from lp1F (σ := σ) (W 5 (4 * u + v)) (trkF W (4 * u + v) p m) (fun _ => some ((1 : Int32), σ)) (some ((0 : Int32), σ)) ?_ ?_ (by omega)]
  · rw [b2i_d]
    rfl
  · intro r k hk
    have hcl := cam_lt ok hi hk
    have hpl := ok.plc hi hk
    have hld := (ok.2.1 _ hu).1
    have ek : 32 * u + 8 * v + k = 8 * (4 * u + v) + k := by omega
    unfold B_X10_hasTracks_L14
    rw [mul4L, nI_add, aIx_k hi (by decide), hlen, if_neg (nI_ge hk (by omega)), nI_add, ek, aIx_k (by omega) (by decide), h.2.2.2.1 _ hi k hk, nmx_s, aIx_k (by omega) (by decide), hc _ hi k hk, aIx_k (by omega) (by decide), aIx_k (by omega) (by decide), hc _ hi k hk, (h.2.1 _ hu).1, nI_add1]
    rw [ite_eq (by omega) (by omega), ite_le (by omega) (by omega), nI_add, ite_lt (by omega) (by omega)]
    unfold trkF
    rw [e4]
    by_cases e1 : W 6 (8 * (4 * u + v) + k) = p
    · rw [if_pos e1]
      by_cases e2 : cam W (4 * u + v) k ≤ m
      · rw [if_pos e2, if_neg (by simp [e1]; omega)]
      · rw [if_neg e2]
        by_cases e3 : m + W 1 u < cam W (4 * u + v) k
        · rw [if_pos e3, if_neg (by simp [e1]; omega)]
        · rw [if_neg e3, if_pos (by simp [e1]; omega)]
    · rw [if_neg e1, if_neg (by simp [e1])]
  · intro r
    unfold B_X10_hasTracks_L14
    rw [mul4L, nI_add, aIx_k hi (by decide), hlen, if_pos (nI_le (Nat.le_refl _) (by omega))]
theorem M_placeIn {W : Wd} {σ : Sx} {N : Nat} (hN : 8 < N) (ok : okW W) (h : mW W σ) (hc : mC W σ) {u v : Nat} (a : Int32) (hu : u < W 0 0) (hv : v < W 4 u) : F_X10_placeIn N (nI u) (nI v) a σ = some (plA W (4 * u + v) a, σ) := by
  have hn := ok.nw
  have h4 := ok.ways u
  have hi : 4 * u + v < 20 := by omega
  have e4 : (4 * u + v) / 4 = u := div4u (by omega)
  have m4 : (4 * u + v) % 4 = v := mod4u (by omega)
  have hl := ok.len hi
  have hlen := h.2.2.1 (4 * u + v) hi (by rw [e4, m4]; exact hv)
  unfold F_X10_placeIn
  rw [mul32L, mul8L, nI_add, nmx_s, nmx_s]
  rw [show lpx1 (B_X10_placeIn_L14 N (nI u) (nI v) a (nI (32 * u + 8 * v)) (fun x1 σ1 => aIx 109 160 (nI (32 * u + 8 * v) + x1) σ1 (fun v2 => some (v2, σ1)))) N (0 : Int32) σ = _ from lp1F (σ := σ) (W 5 (4 * u + v)) (fun k => decide (nI (cam W (4 * u + v) k) = a)) (fun k => some (nI (W 6 (8 * (4 * u + v) + k)), σ)) (some ((-2 : Int32), σ)) ?_ ?_ (by omega)]
  · unfold plA
    split <;> rfl
  · intro r k hk
    have ek : 32 * u + 8 * v + k = 8 * (4 * u + v) + k := by omega
    unfold B_X10_placeIn_L14
    rw [mul4L, nI_add, aIx_k hi (by decide), hlen, if_neg (nI_ge hk (by omega)), nI_add, ek, aIx_k (by omega) (by decide), hc _ hi k hk, nI_add1]
    dsimp only
    rw [nI_add, ek, aIx_k (by omega) (by decide), h.2.2.2.1 _ hi k hk]
    by_cases e : nI (cam W (4 * u + v) k) = a
    · rw [if_pos e, if_pos (by simpa using e)]
    · rw [if_neg e, if_neg (by simpa using e)]
  · intro r
    unfold B_X10_placeIn_L14
    rw [mul4L, nI_add, aIx_k hi (by decide), hlen, if_pos (nI_le (Nat.le_refl _) (by omega))]
theorem M_isEverIn {W : Wd} {σ : Sx} {N : Nat} (hN : 8 < N) (ok : okW W) (h : mW W σ) {u v p : Nat} (hu : u < W 0 0) (hv : v < W 4 u) (hp : p < 2 ^ 30) : F_X10_isEverIn N (nI u) (nI v) (nI p) σ = some (b2i (gby W (4 * u + v) p), σ) := by
  have hn := ok.nw
  have h4 := ok.ways u
  have hi : 4 * u + v < 20 := by omega
  have e4 : (4 * u + v) / 4 = u := div4u (by omega)
  have m4 : (4 * u + v) % 4 = v := mod4u (by omega)
  have hl := ok.len hi
  have hlen := h.2.2.1 (4 * u + v) hi (by rw [e4, m4]; exact hv)
  unfold F_X10_isEverIn
  rw [show lpx1 (B_X10_isEverIn_L3 N (nI u) (nI v) (nI p)) N (0 : Int32) σ = _ from lp1F (σ := σ) (W 5 (4 * u + v)) (gbF W (4 * u + v) p) (fun _ => some ((1 : Int32), σ)) (some ((0 : Int32), σ)) ?_ ?_ (by omega)]
  · rw [b2i_d]
    rfl
  · intro r k hk
    have ek : 32 * u + 8 * v + k = 8 * (4 * u + v) + k := by omega
    have := ok.plc hi hk
    unfold B_X10_isEverIn_L3
    rw [mul4L, nI_add, aIx_k hi (by decide), hlen, if_neg (nI_ge hk (by omega)), mul32L, mul8L, nI_add, nI_add, ek, aIx_k (by omega) (by decide), h.2.2.2.1 _ hi k hk, ite_eq (by omega) (by omega), nI_add1]
    unfold gbF
    by_cases e : W 6 (8 * (4 * u + v) + k) = p
    · rw [if_pos e, if_pos (by simpa using e)]
    · rw [if_neg e, if_neg (by simpa using e)]
  · intro r
    unfold B_X10_isEverIn_L3
    rw [mul4L, nI_add, aIx_k hi (by decide), hlen, if_pos (nI_le (Nat.le_refl _) (by omega))]
/-- a day of ways that are there -/
def isDy (W : Wd) (d : Nat) : Prop := d < 1024 ∧ ∀ u, u < 5 → dg d u = 0 ∨ dg d u < W 4 u
theorem isDy.way {W : Wd} {d : Nat} (ok : okW W) (h : isDy W d) {u : Nat} (hu : u < W 0 0) : dg d u < W 4 u := by
  have hn := ok.nw
  rcases h.2 u (by omega) with e | e
  · have := (ok.2.1 u hu).2.2.2.1
    omega
  · exact e
theorem isDy.idx {W : Wd} {d : Nat} (ok : okW W) (h : isDy W d) {u : Nat} (hu : u < W 0 0) : 4 * u + dg d u < 20 := by
  have hn := ok.nw
  have := dg_lt d u
  omega
/-- whose tracks are in the place p in minute m by a day -/
def seB (W : Wd) (d p m u : Nat) : Bool := trk W (4 * u + dg d u) p m
theorem M_seesOn {W : Wd} {σ : Sx} {N : Nat} (hN : 8 < N) (ok : okW W) (h : mW W σ) (hc : mC W σ) {d p m : Nat} (hd : isDy W d) (hp : p < 2 ^ 30) (hm : m < 2 ^ 30) : F_X10_seesOn N (nI d) (nI p) (nI m) σ = some (nI (bst (W 0 0) (seB W d p m)), σ) := by
  have hn := ok.nw
  have hd2 := hd.1
  unfold F_X10_seesOn
  refine lp2A (σ := σ) (W 0 0) (fun k => nI (bst k (seB W d p m))) _ ?_ ?_ (Nat.zero_le _) (by omega)
  · intro r k hk
    unfold B_X10_seesOn_L6
    rw [h.1, if_neg (nI_ge hk (by omega)), M_wayIn (by omega) (by omega), clx_s, M_hasTracks hN ok h hc hk (hd.way ok hk) hp hm, clx_s, nmx_s, if_b2i, nI_add1, shl1 (by omega), nmx_s, orI]
    by_cases e : seB W d p m k = true
    · rw [if_pos (show trk W (4 * k + dg d k) p m = true from e), bst_s1 e]
    · rw [if_neg (show ¬ trk W (4 * k + dg d k) p m = true from e), bst_s0 e]
  · intro r
    unfold B_X10_seesOn_L6
    rw [h.1, if_pos (nI_le (Nat.le_refl _) (by omega))]
/-- the class tells the same from its sets of ways -/
theorem C_seesOn {W : Wd} {σ : Sx} (ok : okW W) {d p m : Nat} : F_X8_walkersOf (nI (bst (4 * W 0 0) (fun i => trk W i p m)) &&& nI (wys (W 0 0) d)) σ = some (nI (bst (W 0 0) (seB W d p m)), σ) := by
  rw [andI, C_walkersOf (and_lt ok.nw _), wko_wys ok.nw _ (Nat.le_refl _)]
  rfl
/-! what is asked of told numbers -/
theorem M_isWalker {W : Wd} {σ : Sx} (ok : okW W) (a : Int32) (g : siI σ 103 1 = nI (W 0 0)) : F_X10_isWalker a σ = some ((if a < 0 then 0 else if nI (W 0 0) ≤ a then 0 else 1), σ) := by
  have hn := ok.nw
  unfold F_X10_isWalker
  rw [M_in, clx_s, g]
  by_cases h1 : a < 0
  · rw [if_pos h1, if_pos h1]
    rfl
  · rw [if_neg h1, if_neg h1]
    have e : (nI (W 0 0) - (1 : Int32) < a) ↔ nI (W 0 0) ≤ a := by
      have e1 : (nI (W 0 0) - (1 : Int32)).toInt = (W 0 0 : Int) - 1 := pk_sub_toInt (b := 1) (by omega) (by decide)
      rw [Int32.lt_iff_toInt_lt, Int32.le_iff_toInt_le, e1, nI_toInt (by omega)]
      omega
    by_cases h2 : nI (W 0 0) ≤ a
    · rw [if_pos (e.mpr h2), if_pos h2]
      rfl
    · rw [if_neg (fun q => h2 (e.mp q)), if_neg h2]
      rfl
theorem C_isWalker {W : Wd} {σ : Sx} (a : Int32) (h : siI σ 1 0 = nI (W 0 0)) : F_X8_isWalker a σ = some ((if a < 0 then 0 else if nI (W 0 0) ≤ a then 0 else 1), σ) := by
  unfold F_X8_isWalker
  rw [h]
  by_cases h1 : a < 0
  · rw [if_pos h1, if_pos h1]
  · rw [if_neg h1, if_neg h1]
    by_cases h2 : nI (W 0 0) ≤ a
    · rw [if_pos h2, if_pos h2]
    · rw [if_neg h2, if_neg h2]
theorem two_walker {W : Wd} {σ : Sx} (ok : okW W) (a : Int32) (h : siI σ 1 0 = nI (W 0 0)) (g : siI σ 103 1 = nI (W 0 0)) : (F_X8_isWalker a σ = some (0, σ) ∧ F_X10_isWalker a σ = some (0, σ)) ∨ ∃ w, w < W 0 0 ∧ a = nI w ∧ F_X8_isWalker a σ = some (1, σ) ∧ F_X10_isWalker a σ = some (1, σ) := by
  have hn := ok.nw
  rw [C_isWalker a h, M_isWalker ok a g]
  rcases arg_n a (n := W 0 0) (by omega) with ha | ⟨ha, ha2⟩ | ⟨w, hw, rfl⟩
  · left
    rw [if_pos ha]
    exact ⟨rfl, rfl⟩
  · left
    rw [if_neg ha, if_pos ha2]
    exact ⟨rfl, rfl⟩
  · right
    refine ⟨w, hw, rfl, ?_⟩
    rw [if_neg (nI_pos (by omega)), if_neg (nI_ge hw (by omega))]
    exact ⟨rfl, rfl⟩
theorem in_m {n : Nat} (hn : n < 2 ^ 30) (a : Int32) (σ : Sx) : (F_X10_in a (0 : Int32) (nI n) σ = some (0, σ) ∧ ((a < 0) ∨ (¬ a < 0 ∧ nI n < a))) ∨ ∃ k, k ≤ n ∧ a = nI k ∧ F_X10_in a (0 : Int32) (nI n) σ = some (1, σ) := by
  rw [M_in]
  rcases arg_n a (n := n + 1) (by omega) with ha | ⟨ha, ha2⟩ | ⟨w, hw, rfl⟩
  · left
    rw [if_pos ha]
    exact ⟨rfl, Or.inl ha⟩
  · left
    have : nI n < a := by
      rw [Int32.lt_iff_toInt_lt, nI_toInt (by omega)]
      rw [Int32.le_iff_toInt_le, nI_toInt (by omega)] at ha2
      omega
    rw [if_neg ha, if_pos this]
    exact ⟨rfl, Or.inr ⟨ha, this⟩⟩
  · right
    refine ⟨w, by omega, rfl, ?_⟩
    rw [if_neg (nI_pos (by omega)), if_neg (nI_nlt (by omega) (by omega))]
theorem two_place (a : Int32) (σ : Sx) : (F_X9_isPlace a σ = some (0, σ) ∧ F_X10_isPlace a σ = some (0, σ)) ∨ ∃ p, p < 8 ∧ a = nI p ∧ F_X9_isPlace a σ = some (1, σ) ∧ F_X10_isPlace a σ = some (1, σ) := by
  unfold F_X9_isPlace F_X10_isPlace
  rw [show (8 : Int32) = nI 8 from rfl, show (7 : Int32) = nI 7 from rfl]
  rcases in_m (n := 7) (by decide) a σ with ⟨e, h⟩ | ⟨k, hk, rfl, e⟩
  · left
    rw [e, clx_s]
    refine ⟨?_, rfl⟩
    rcases h with h | ⟨h1, h2⟩
    · rw [if_pos h]
    · rw [if_neg h1, if_pos]
      rw [Int32.lt_iff_toInt_lt, nI_toInt (by decide)] at h2
      rw [Int32.le_iff_toInt_le, nI_toInt (by decide)]
      omega
  · right
    refine ⟨k, by omega, rfl, ?_, by rw [e, clx_s]; rfl⟩
    rw [if_neg (nI_pos (by omega)), if_neg (nI_ge (by omega) (by decide))]
theorem two_minute (a : Int32) (σ : Sx) : (F_X9_isMinute a σ = some (0, σ) ∧ F_X10_in a (0 : Int32) (999 : Int32) σ = some (0, σ)) ∨ ∃ p, p ≤ 999 ∧ a = nI p ∧ F_X9_isMinute a σ = some (1, σ) ∧ F_X10_in a (0 : Int32) (999 : Int32) σ = some (1, σ) := by
  unfold F_X9_isMinute
  rw [show (999 : Int32) = nI 999 from rfl]
  rcases in_m (n := 999) (by decide) a σ with ⟨e, h⟩ | ⟨k, hk, rfl, e⟩
  · left
    rw [e]
    refine ⟨?_, rfl⟩
    rcases h with h | ⟨h1, h2⟩
    · rw [if_pos h]
    · rw [if_neg h1, if_pos h2]
  · right
    refine ⟨k, hk, rfl, ?_, e⟩
    rw [if_neg (nI_pos (by omega)), if_neg (nI_nlt hk (by decide))]
theorem two_01 (a : Int32) (σ : Sx) : (F_X9_isZeroOrOne a σ = some (0, σ) ∧ F_X10_in a (0 : Int32) (1 : Int32) σ = some (0, σ)) ∨ ((a = 0 ∨ a = 1) ∧ F_X9_isZeroOrOne a σ = some (1, σ) ∧ F_X10_in a (0 : Int32) (1 : Int32) σ = some (1, σ)) := by
  unfold F_X9_isZeroOrOne
  rw [show F_X10_in a (0 : Int32) (1 : Int32) σ = F_X10_in a (0 : Int32) (nI 1) σ from rfl]
  rcases in_m (n := 1) (by decide) a σ with ⟨e, h⟩ | ⟨k, hk, rfl, e⟩
  · left
    rw [e]
    have h0 : ¬ a = 0 := by
      rintro rfl
      revert h
      decide
    have h1 : ¬ a = 1 := by
      rintro rfl
      revert h
      decide
    exact ⟨by simp [h0, h1], rfl⟩
  · right
    rw [e]
    match k, hk with
    | 0, _ => exact ⟨Or.inl rfl, rfl, rfl⟩
    | 1, _ => exact ⟨Or.inr rfl, rfl, rfl⟩
theorem two_shelf (a : Int32) (σ : Sx) : (F_X9_isShelf a σ = some (0, σ) ∧ F_X10_isShelf a σ = some (0, σ)) ∨ ∃ k, k < 6 ∧ a = nI k ∧ F_X9_isShelf a σ = some (1, σ) ∧ F_X10_isShelf a σ = some (1, σ) := by
  rw [C_isShelf, M_isShelf]
  rcases shelf_cases a with ⟨e, -⟩ | ⟨k, hk, rfl, e⟩
  · left
    rw [e]
    exact ⟨rfl, rfl⟩
  · right
    refine ⟨k, hk, rfl, ?_⟩
    rw [e]
    exact ⟨rfl, rfl⟩
