/-! of, place, takes, sure, follow -/
theorem lp1K {α : Type} {B : (Int32 → Sx → Option α) → Int32 → Sx → Option α} {σ : Sx} (n i : Nat) (f : Nat → Bool) (H E : Option α)
    (hB : ∀ (r : Int32 → Sx → Option α) (k : Nat), i ≤ k → k < n → B r (nI k) σ = if f k = true then H else r (nI (k + 1)) σ) (hE : ∀ (r : Int32 → Sx → Option α) (k : Nat), n ≤ k → k ≤ n + i → B r (nI k) σ = E)
    {N : Nat} (hN : n < N) : lpx1 B N (nI i) σ = if fsN (n - i) (fun j => f (i + j)) < n - i then H else E := by
  rcases Nat.lt_or_ge n i with hni | hni
  · obtain ⟨N, rfl⟩ : ∃ k, N = k + 1 := ⟨N - 1, by omega⟩
    rw [lpx1_s, hE _ _ (by omega) (by omega), show n - i = 0 by omega, if_neg (Nat.not_lt_zero _)]
  refine lp1U (Q := fun o => o = if fsN (n - i) (fun j => f (i + j)) < n - i then H else E) n (fun k σ' => σ' = σ ∧ i ≤ k ∧ ∀ j, j < k - i → f (i + j) = false) ?_ hni (by omega) ⟨rfl, Nat.le_refl _, fun j h => absurd h (by omega)⟩
  rintro r k σ' hk ⟨rfl, hik, hl⟩
  rcases Nat.lt_or_ge k n with h | h
  · rw [hB r k hik h]
    by_cases hf : f k = true
    · left
      rw [if_pos hf, fsN_eq (k := k - i) (by omega) (by rw [show i + (k - i) = k by omega]; exact hf) hl, if_pos (by omega)]
    · right
      refine ⟨h, σ', ⟨rfl, by omega, fun j hj => ?_⟩, by rw [if_neg hf]⟩
      by_cases e : j = k - i
      · rw [e, show i + (k - i) = k by omega]
        simpa using hf
      · exact hl j (by omega)
  · left
    have : k = n := by omega
    subst this
    rw [hE _ _ (Nat.le_refl _) (by omega), fsN_no hl, if_neg (Nat.lt_irrefl _)]
def okT2 (W : Wd) (what num : Nat) : Prop := (what < 3 ∧ num < W 0 0) ∨ (what = 3 ∧ num < 78 ∧ num / 10 < 8 ∧ num % 10 < 8 ∧ num / 10 ≠ num % 10)
def valT (W : Wd) (what num : Nat) : Nat := if what = 0 then W 1 num else if what = 1 then W 2 num else if what = 2 then W 3 num else W 7 (8 * (num / 10) + num % 10)
theorem two_told {W : Wd} {σ : Sx} (ok : okW W) (hc : cW W σ) (hm : mW W σ) (a0 a1 : Int32) : (F_X8_isTold a0 a1 σ = some (0, σ) ∧ F_X10_isOne a0 a1 σ = some (0, σ)) ∨ ∃ what num, okT2 W what num ∧ a0 = nI num ∧ a1 = nI what ∧ F_X8_isTold a0 a1 σ = some (1, σ) ∧ F_X10_isOne a0 a1 σ = some (1, σ) := by
  have hn := ok.nw
  unfold F_X8_isTold F_X10_isOne
  rw [M_in, clx_s]
  by_cases h3 : a1 = 3
  · subst h3
    rw [if_pos rfl, if_neg (show ¬ (3 : Int32) < 0 by decide), if_pos (show (2 : Int32) < 3 by decide), if_pos rfl, if_pos rfl]
    by_cases ha : a0 < 0
    · rw [if_pos ha, if_pos ha]
      exact Or.inl ⟨rfl, rfl⟩
    · obtain ⟨x, hx, rfl⟩ := nI_of ha
      rw [if_neg ha, if_neg ha, div10 hx, rem10 hx]
      rcases two_place (nI (x / 10)) σ with ⟨e1, e2⟩ | ⟨p, hp, ep, e1, e2⟩
      · rw [e1, e2]
        exact Or.inl ⟨rfl, rfl⟩
      · rcases two_place (nI (x % 10)) σ with ⟨e3, e4⟩ | ⟨q, hq, eq, e3, e4⟩
        · rw [e1, e2, clx_s, clx_s, if_neg (by decide), if_neg (by decide), e3, e4]
          exact Or.inl ⟨rfl, rfl⟩
        · have h1 : x / 10 = p := (nI_eq (by omega) (by omega)).mp ep
          have h2 : x % 10 = q := (nI_eq (by omega) (by omega)).mp eq
          simp only [e1, e2, e3, e4, clx_s, if10, ite_eq (show x / 10 < 2 ^ 31 by omega) (show x % 10 < 2 ^ 31 by omega)]
          by_cases e : x / 10 = x % 10
          · rw [if_pos e]
            exact Or.inl ⟨rfl, rfl⟩
          · rw [if_neg e]
            exact Or.inr ⟨3, x, Or.inr ⟨rfl, by omega, by omega, by omega, e⟩, rfl, rfl, rfl, rfl⟩
  · rw [if_neg h3]
    by_cases h0 : a1 < 0
    · rw [if_pos h0, if_pos h0, if_pos rfl, if_neg h3]
      exact Or.inl ⟨rfl, rfl⟩
    · rw [if_neg h0, if_neg h0]
      by_cases h2 : (2 : Int32) < a1
      · rw [if_pos h2, if_pos h2, if_pos rfl, if_neg h3]
        exact Or.inl ⟨rfl, rfl⟩
      · rw [if_neg h2, if_neg h2, if_neg (by decide)]
        obtain ⟨what, hw, rfl⟩ := nI_of2 (M := 2) (n := 2) rfl h0 (Int32.not_lt.mp h2)
        rcases two_walker ok a0 hc.1 hm.1 with ⟨e1, e2⟩ | ⟨w, hw2, rfl, e1, e2⟩
        · rw [e1, e2]
          exact Or.inl ⟨rfl, rfl⟩
        · rw [e1, e2]
          exact Or.inr ⟨what, w, Or.inl ⟨by omega, hw2⟩, rfl, rfl, rfl, rfl⟩
theorem C_told {W : Wd} {σ : Sx} (ok : okW W) (hc : cW W σ) {what num : Nat} (h : okT2 W what num) : F_X8_told (nI num) (nI what) σ = some (nI (valT W what num), σ) := by
  have hn := ok.nw
  unfold F_X8_told
  rcases h with ⟨h1, h2⟩ | ⟨rfl, h2, h3, h4, h5⟩
  · rw [show (3 : Int32) = nI 3 from rfl, ite_eq (by omega) (by decide), if_neg (by omega), aRx_k h1 (by decide), aIx_k (show num < 5 by omega) (by decide)]
    obtain ⟨g1, g2, g3⟩ := hc.2.1 num h2
    unfold valT
    match what, h1 with
    | 0, _ => rw [if_pos rfl, show 23 + 0 = 23 from rfl, g1]
    | 1, _ => rw [if_neg (by decide), if_pos rfl, show 23 + 1 = 24 from rfl, g2]
    | 2, _ => rw [if_neg (by decide), if_neg (by decide), if_pos rfl, show 23 + 2 = 25 from rfl, g3]
  · rw [if_pos (show nI 3 = (3 : Int32) from rfl), div10 (by omega), rem10 (by omega), aRx_k h3 (by decide), aIx_k h4 (by decide), hc.2.2.2.2.2 _ _ h3 h4 h5]
    rfl
theorem M_valueAt {W : Wd} {σ : Sx} (ok : okW W) (hm : mW W σ) {what num : Nat} (h : okT2 W what num) : F_X10_valueAt (nI what) (nI num) σ = some (nI (valT W what num), σ) := by
  have hn := ok.nw
  unfold F_X10_valueAt
  rcases h with ⟨h1, h2⟩ | ⟨rfl, h2, h3, h4, h5⟩
  · obtain ⟨g1, g2, g3, -⟩ := hm.2.1 num h2
    unfold valT
    match what, h1 with
    | 0, _ => rw [if_pos (show nI 0 = (0 : Int32) from rfl), aIx_k (show num < 5 by omega) (by decide), g1, if_pos rfl]
    | 1, _ => rw [if_neg (show ¬ nI 1 = (0 : Int32) by decide), if_pos (show nI 1 = (1 : Int32) from rfl), aIx_k (show num < 5 by omega) (by decide), g2, if_neg (by decide), if_pos rfl]
    | 2, _ => rw [if_neg (show ¬ nI 2 = (0 : Int32) by decide), if_neg (show ¬ nI 2 = (1 : Int32) by decide), if_pos (show nI 2 = (2 : Int32) from rfl), aIx_k (show num < 5 by omega) (by decide), g3, if_neg (by decide), if_neg (by decide), if_pos rfl]
  · unfold F_X10_spotAt
    rw [if_neg (show ¬ nI 3 = (0 : Int32) by decide), if_neg (show ¬ nI 3 = (1 : Int32) by decide), if_neg (show ¬ nI 3 = (2 : Int32) by decide), div10 (by omega), rem10 (by omega), mul8L, nI_add, clx_s, aIx_k (by omega) (by decide), hm.2.2.2.2 _ _ h3 h4 h5]
    rfl
theorem s_of {N : Nat} (a0 a1 : Int32) {σ : Sx} (h : ReW N σ) : StI (ReW N) rgA σ (F_X9_of a0 a1 σ) (F_X10_of a0 a1) := by
  obtain ⟨W, G, b, h⟩ := h
  obtain ⟨ok, hc, hm⟩ := h.of3
  have hn := ok.nw
  have key : ∃ r, F_X9_of a0 a1 σ = some (r, σ) ∧ F_X10_of a0 a1 σ = some (r, σ) := by
    unfold F_X9_of F_X10_of
    rw [show (3 : Int32) = nI 3 from rfl]
    rcases in_m (n := 3) (by decide) a1 σ with ⟨e, q⟩ | ⟨k, hk, rfl, e⟩
    · rw [e, clx_s, if_pos rfl]
      by_cases h4 : (4 : Int32) ≤ a1
      · have hp : ¬ a1 < 0 := by
          intro z
          rw [Int32.lt_iff_toInt_lt] at z
          rw [Int32.le_iff_toInt_le] at h4
          have q1 : (4 : Int32).toInt = 4 := rfl
          have q2 : (0 : Int32).toInt = 0 := rfl
          omega
        obtain ⟨x, hx, rfl⟩ := nI_of hp
        have hx4 : 4 ≤ x := (nI_leI (by decide) hx).mp h4
        rw [if_pos h4]
        rcases two_walker ok a0 hc.1 hm.1 with ⟨e1, e2⟩ | ⟨w, hw, rfl, e1, e2⟩
        · rw [e1, e2]
          exact ⟨-1, rfl, rfl⟩
        · simp only [e1, e2, clx_s, if10, M_in, show (4 : Int32) = nI 4 from rfl, if_neg (nI_nlt hx4 hx), ite_eq hx (show 4 < 2 ^ 31 by decide)]
          by_cases e4 : x = 4
          · subst e4
            simp only [if_true, if_neg (show ¬ (8 : Int32) < nI 4 by decide), if10, aIx_k (show w < 5 by omega) (show 5 < 2 ^ 31 by decide), hc.2.2.1 w (by omega), (hm.2.1 w hw).2.2.2]
            exact ⟨_, rfl, rfl⟩
          · have h4w := ok.ways w
            simp only [if_neg e4, show (5 : Int32) = nI 5 from rfl, pk_sub (show 5 ≤ x by omega), C_isWay ok hc.1 hc.2.2.1 (show w < 5 by omega), clx_s, if_neg (nI_pos (show x - 5 < 2 ^ 31 by omega)), aIx_k (show w < 5 by omega) (show 5 < 2 ^ 31 by decide), (hm.2.1 w hw).2.2.2, ite_le (show W 4 w < 2 ^ 31 by omega) (show x - 5 < 2 ^ 31 by omega), show (8 : Int32) = nI 8 from rfl, ite_lt (show 8 < 2 ^ 31 by decide) hx]
            by_cases e5 : W 4 w ≤ x - 5
            · simp only [if_pos e5]
              refine ⟨-1, rfl, ?_⟩
              by_cases e8 : 8 < x
              · simp only [if_pos e8]
                rfl
              · simp only [if_neg e8]
                rfl
            · have e4' : (4 * w + (x - 5)) / 4 = w := div4u (by omega)
              have m4' : (4 * w + (x - 5)) % 4 = x - 5 := mod4u (by omega)
              simp only [if_neg e5, if10, if_neg (show ¬ 8 < x by omega)]
              rw [C_wayIndex, clx_s, aIx_k (show 4 * w + (x - 5) < 20 by omega) (by decide), hc.2.2.2.1 _ (by omega), show nI 4 * nI w = nI (4 * w) from pk_mul _ _, nI_add, pk_sub (by omega), show 4 * w + x - 5 = 4 * w + (x - 5) by omega, aIx_k (show 4 * w + (x - 5) < 20 by omega) (by decide), hm.2.2.1 _ (by omega) (by rw [e4', m4']; omega)]
              exact ⟨_, rfl, rfl⟩
      · rw [if_neg h4]
        have h0 : a1 < 0 := by
          rcases q with q | ⟨q1, q2⟩
          · exact q
          · exfalso
            apply h4
            rw [Int32.lt_iff_toInt_lt, nI_toInt (by decide)] at q2
            rw [Int32.le_iff_toInt_le]
            have q3 : (4 : Int32).toInt = 4 := rfl
            omega
        have n3 : ¬ a1 = 3 := by
          rintro rfl
          exact absurd h0 (by decide)
        have f1 : F_X8_isTold a0 a1 σ = some (0, σ) := by
          unfold F_X8_isTold
          rw [if_neg n3, if_pos h0]
        have f4 : a1 < (4 : Int32) := Int32.not_le.mp h4
        rw [f1]
        refine ⟨-1, rfl, ?_⟩
        rcases two_walker ok a0 hc.1 hm.1 with ⟨e1, e2⟩ | ⟨w, hw, rfl, e1, e2⟩
        · rw [e2]
          rfl
        · rw [e2, clx_s, if10, M_in, if_pos f4]
          rfl
    · rw [e, clx_s, if10, if_neg (show ¬ (4 : Int32) ≤ nI k from nI_ge (b := 4) (by omega) (by decide))]
      rcases two_told ok hc hm a0 (nI k) with ⟨e1, e2⟩ | ⟨what, num, ht, rfl, e3, e1, e2⟩
      · rw [e1, e2]
        exact ⟨-1, rfl, rfl⟩
      · rw [e1, e2, clx_s, clx_s, if_neg (by decide), if_neg (by decide), e3, C_told ok hc ht, M_valueAt ok hm ht]
        exact ⟨_, rfl, rfl⟩
  obtain ⟨r, k1, k2⟩ := key
  exact ⟨r, σ, σ, k1, k2, ⟨W, G, b, h⟩, Kp.rf⟩
theorem s_place {N : Nat} (a0 a1 : Int32) {σ : Sx} (h : ReW N σ) : StI (ReW N) rgA σ (F_X9_place a0 a1 σ) (F_X10_place a0 a1) := by
  obtain ⟨W, G, b, h⟩ := h
  obtain ⟨ok, hc, hm⟩ := h.of3
  have hn := ok.nw
  have key : ∃ r, F_X9_place a0 a1 σ = some (r, σ) ∧ F_X10_place a0 a1 σ = some (r, σ) := by
    unfold F_X9_place F_X10_place
    by_cases h0 : a0 < 0
    · rw [if_pos h0, if_pos h0]
      exact ⟨_, rfl, rfl⟩
    · obtain ⟨x, hx, rfl⟩ := nI_of h0
      rw [if_neg h0, if_neg h0, div10 hx, rem10 hx]
      by_cases h1 : a1 < 0
      · rw [if_pos h1]
        refine ⟨-1, rfl, ?_⟩
        rcases two_way ok (nI (x / 10)) (nI (x % 10)) hc.1 hc.2.2.1 hm with ⟨e1, e2⟩ | ⟨u, v, hu, hv, eu, ev, e1, e2⟩
        · rw [e2]
          rfl
        · rw [e2, clx_s, if_neg (by decide), if_neg (Int32.not_le.mpr h1)]
      · obtain ⟨k, hk, rfl⟩ := nI_of h1
        rw [if_neg h1]
        rcases two_way ok (nI (x / 10)) (nI (x % 10)) hc.1 hc.2.2.1 hm with ⟨e1, e2⟩ | ⟨u, v, hu, hv, eu, ev, e1, e2⟩
        · rw [e1, e2]
          exact ⟨-1, rfl, rfl⟩
        · have g1 : x / 10 = u := (nI_eq (by omega) (by omega)).mp eu
          have h4 := ok.ways u
          have g2 : x % 10 = v := (nI_eq (by omega) (by omega)).mp ev
          have hi : 4 * u + v < 20 := by omega
          have e4 : (4 * u + v) / 4 = u := div4u (by omega)
          have m4 : (4 * u + v) % 4 = v := mod4u (by omega)
          have hl := ok.len hi
          rw [e1, e2, clx_s, clx_s, if_neg (by decide), if_neg (by decide), eu, ev, C_wayIndex, clx_s, aIx_k hi (by decide), hc.2.2.2.1 _ hi, if_pos (nI_pos' hk), mul4L, nI_add, aIx_k hi (by decide), hm.2.2.1 _ hi (by rw [e4, m4]; exact hv), ite_le (by omega) hk, ite_le (by omega) hk]
          by_cases hlk : W 5 (4 * u + v) ≤ k
          · rw [if_pos hlk, if_pos hlk]
            exact ⟨_, rfl, rfl⟩
          · have hkl : k < W 5 (4 * u + v) := by omega
            rw [if_neg hlk, if_neg hlk, aRx_k hi (by decide), aIx_k (show k < 8 by omega) (by decide), (hc.2.2.2.2.1 _ hi k hkl).1, mul32L, mul8L, nI_add, nI_add, show 32 * u + 8 * v + k = 8 * (4 * u + v) + k by omega, aIx_k (by omega) (by decide), hm.2.2.2.1 _ hi k hkl]
            exact ⟨_, rfl, rfl⟩
  obtain ⟨r, k1, k2⟩ := key
  exact ⟨r, σ, σ, k1, k2, ⟨W, G, b, h⟩, Kp.rf⟩
theorem RW.nx {N : Nat} (hN : 1100 < N) {W : Wd} {G : Gt} {b : Bool} {σ : Sx} (h : RW N W G b σ) {d : Nat} (hd : isDy W d) : F_X10_isDay N (nI d) σ = some (1, σ) := by
  rcases M_isDay (N := N) (by omega) h.1 h.2.2.1 hd.1 with ⟨-, q⟩ | ⟨q, -⟩
  · exact q
  · exact absurd hd q
theorem RW.iw {N : Nat} {W : Wd} {G : Gt} {b : Bool} {σ : Sx} (h : RW N W G b σ) {w : Nat} (hw : w < W 0 0) : F_X10_isWalker (nI w) σ = some (1, σ) := by
  have hn := h.1.nw
  rw [M_isWalker h.1 _ h.2.2.1.1, if_neg (nI_pos (by omega)), if_neg (nI_ge hw (by omega))]
theorem s_takes {N : Nat} (hN : 1100 < N) (a0 a1 : Int32) {σ : Sx} (h : ReW N σ) : StI (ReW N) rgA σ (F_X9_takes N a0 a1 σ) (F_X10_takes N a0 a1) := by
  obtain ⟨W, G, b, h⟩ := h
  obtain ⟨ok, hc, hm⟩ := h.of3
  have hn := ok.nw
  unfold F_X9_takes
  rcases two_day (N := N) (by omega) ok hc.2.2.1 hm a0 with ⟨e1, e2⟩ | ⟨d, hd, rfl, e1, e2⟩
  · exact ⟨-1, σ, σ, by rw [e1]; rfl, by rw [F_X10_takes, e2]; rfl, ⟨W, G, b, h⟩, Kp.rf⟩
  rcases two_walker ok a1 hc.1 hm.1 with ⟨e3, e4⟩ | ⟨w, hw, rfl, e3, e4⟩
  · exact ⟨-1, σ, σ, by rw [e1, clx_s, if_neg (by decide), e3]; rfl, by rw [F_X10_takes, e2, clx_s, if_neg (by decide), e4]; rfl, ⟨W, G, b, h⟩, Kp.rf⟩
  have hd1 := hd.1
  obtain ⟨σ1, s1, s2, h1, hr, h0⟩ := h.stale0 (by omega)
  obtain ⟨σ2, g1, g2, g3⟩ := C_lawful ok hr.D hw d
  obtain ⟨h2, -⟩ := h1.wrk hr g2 g3.2.2.2 h0
  obtain ⟨σ3, f1, f2, f3, T, hT, f4⟩ := h2.sights (by omega)
  have h3 := h2.F f2.S
  refine ⟨nI (tks G W (T0 W) d w), σ2, σ3, ?_, ?_, ⟨W, G, b, h3⟩, ((rgA_D s2).tr (rgA_W g2)).tr (rgA_F f2.S)⟩
  · rw [e1, clx_s, if_neg (by decide), e3, clx_s, if_neg (by decide), s1, clx_s, C_waysOn (by omega) ok h1.2.1 (by omega), clx_s, g1, clx_s]
  · rw [F_X10_takes, h2.nx hN hd, clx_s, if_neg (by decide), h2.iw hw, clx_s, if_neg (by decide), f1, clx_s, M_takesOn (by omega) ok h3.2.2.1 f4 hd hw, clx_s, hT.tk hw]
theorem plA_cases (W : Wd) (i : Nat) (a : Int32) : plA W i a = -2 ∨ ∃ k, k < W 5 i ∧ plA W i a = nI (W 6 (8 * i + k)) := by
  unfold plA
  split
  · exact Or.inr ⟨_, ‹_›, rfl⟩
  · exact Or.inl rfl
theorem s_sure {N : Nat} (hN : 1100 < N) (a0 a1 : Int32) {σ : Sx} (h : ReW N σ) : StI (ReW N) rgA σ (F_X9_sure N a0 a1 σ) (F_X10_sure N a0 a1) := by
  obtain ⟨W, G, b, h⟩ := h
  obtain ⟨ok, hc, hm⟩ := h.of3
  have hn := ok.nw
  unfold F_X9_sure
  rcases two_walker ok a0 hc.1 hm.1 with ⟨e1, e2⟩ | ⟨w, hw, rfl, e1, e2⟩
  · exact ⟨-1, σ, σ, by rw [e1]; rfl, by rw [F_X10_sure, e2]; rfl, ⟨W, G, b, h⟩, Kp.rf⟩
  rcases two_minute a1 σ with ⟨e3, e4⟩ | ⟨m, hmm, rfl, e3, e4⟩
  · exact ⟨-1, σ, σ, by rw [e1, clx_s, if_neg (by decide), e3]; rfl, by rw [F_X10_sure, e2, clx_s, if_neg (by decide), e4]; rfl, ⟨W, G, b, h⟩, Kp.rf⟩
  obtain ⟨σ1, s1, s2, h1, hr, h0⟩ := h.stale0 (by omega)
  obtain ⟨σ2, f1, f2, f3, -, f5, f6⟩ := h1.held (by omega)
  have h2 := h1.F f2
  have hlen := hl_1024 (G := G) (T := T0 W) ok
  have kk : Kp rgA σ σ2 := (rgA_D s2).tr (rgA_F f2)
  have e4' : F_X10_in (nI m) (0 : Int32) (999 : Int32) σ1 = some (1, σ1) := by
    rw [M_in, if_neg (nI_pos (by omega)), if_neg (show ¬ (999 : Int32) < nI m from nI_nlt (b := m) (a := 999) (by omega) (by decide))]
  by_cases hz : (hlL G W (T0 W)).length = 0
  · refine ⟨-2, σ1, σ2, ?_, ?_, ⟨W, G, b, h2⟩, kk⟩
    · rw [e1, clx_s, if_neg (by decide), e3, clx_s, if_neg (by decide), s1, clx_s, F_X5_surePlace, hr.2.2.2.2.2.1, hz]
      rfl
    · rw [F_X10_sure, h1.iw hw, clx_s, if_neg (by decide), e4', clx_s, if_neg (by decide), f1, clx_s, f5, hz]
      rfl
  have hz0 : 0 < (hlL G W (T0 W)).length := by omega
  have hday : ∀ k, k < (hlL G W (T0 W)).length → isDy W ((mlL G W (T0 W)).getD k 0) := fun k hk => ml_day ok hk
  have hcd : ∀ k, k < (hlL G W (T0 W)).length → F_X2_heldDay (nI k) σ1 = some (nI ((mlL G W (T0 W)).getD k 0), σ1) := fun k hk => by
    rcases C_heldDay ok hr (nI k) with ⟨-, q⟩ | ⟨j, hj, ej, q⟩
    · have := q k rfl
      omega
    · rw [q, show j = k from (nI_eq (by omega) (by omega)).mp ej.symm]
  generalize hml : (fun k => (mlL G W (T0 W)).getD k 0) = ml at *
  have hml2 : ∀ k, (mlL G W (T0 W)).getD k 0 = ml k := fun k => by rw [← hml]
  have pC : ∀ k, k < (hlL G W (T0 W)).length → ∀ K : Int32 → Sx → Option (Int32 × Sx), clx (F_X2_heldDay (nI k) σ1) (fun v4 σ6 => clx (F_X8_wayOn v4 (nI w) σ6) (fun v5 σ7 => clx (F_X8_placeAt N v5 (nI m) σ7) (fun v6 σ8 => K v6 σ8))) = K (plA W (4 * w + dg (ml k) w) (nI m)) σ1 := fun k hk K => by
    have hd := hday k hk
    rw [hml2] at hd
    have hd1 := hd.1
    rw [hcd k hk, clx_s, hml2, C_wayOn (by omega) (by omega), clx_s, C_placeAt (by omega) ok h1.2.1 _ (hd.idx ok hw), clx_s]
  have pM : ∀ k, k < (hlL G W (T0 W)).length → ∀ K : Int32 → Sx → Option (Int32 × Sx), aIx 126 1024 (nI k) σ2 (fun v6 => clx (F_X10_wayIn v6 (nI w) σ2) (fun v7 σ8 => clx (F_X10_placeIn N (nI w) v7 (nI m) σ8) (fun v8 σ9 => K v8 σ9))) = K (plA W (4 * w + dg (ml k) w) (nI m)) σ2 := fun k hk K => by
    have hd := hday k hk
    rw [hml2] at hd
    have hd1 := hd.1
    rw [aIx_k (show k < 1024 by omega) (by decide), f6 k (by rw [ml_len ok]; exact hk), hml2, M_wayIn (by omega) (by omega), clx_s, M_placeIn (by omega) ok h2.2.2.1 f3 _ hw (hd.way ok hw), clx_s]
  generalize hp0 : plA W (4 * w + dg (ml 0) w) (nI m) = p0 at *
  generalize hE : (if p0 = (-2 : Int32) then (-3 : Int32) else p0) = E
  have hE2 : (if 0 ≤ p0 then p0 else (-3 : Int32)) = E := by
    rw [← hE]
    rcases plA_cases W (4 * w + dg (ml 0) w) (nI m) with q | ⟨k, hk, q⟩
    · rw [hp0] at q
      rw [q]
      rfl
    · rw [hp0] at q
      have hd := hday 0 hz0
      rw [hml2] at hd
      have := ok.plc (hd.idx ok hw) hk
      rw [q, if_pos (nI_pos' (by omega)), if_neg (ne_m2 (by omega))]
  refine ⟨if fsN ((hlL G W (T0 W)).length - 1) (fun j => decide (¬ plA W (4 * w + dg (ml (1 + j)) w) (nI m) = p0)) < (hlL G W (T0 W)).length - 1 then -3 else E, σ1, σ2, ?_, ?_, ⟨W, G, b, h2⟩, kk⟩
  · rw [e1, clx_s, if_neg (by decide), e3, clx_s, if_neg (by decide), s1, clx_s]
    have : F_X5_surePlace N (nI w) (nI m) σ1 = some ((if fsN ((hlL G W (T0 W)).length - 1) (fun j => decide (¬ plA W (4 * w + dg (ml (1 + j)) w) (nI m) = p0)) < (hlL G W (T0 W)).length - 1 then -3 else E), σ1) := by
      unfold F_X5_surePlace
      rw [hr.2.2.2.2.2.1, if_neg (nI_ne0 hz0 (by omega))]
      refine (pC 0 hz0 _).trans ?_
      rw [hp0, nmx_s]
      refine (lp1K (σ := σ1) (hlL G W (T0 W)).length 1 (fun k => decide (¬ plA W (4 * w + dg (ml k) w) (nI m) = p0)) (some (-3, σ1)) (some (E, σ1)) ?_ ?_ (by omega)).trans ?_
      · intro r k hk1 hk
        unfold B_X5_surePlace_L37
        rw [hr.2.2.2.2.2.1, if_neg (nI_ge hk (by omega))]
        refine (pC k hk _).trans ?_
        by_cases e : plA W (4 * w + dg (ml k) w) (nI m) = p0
        · rw [if_pos e, if_neg (by simp [e]), nI_add1]
        · rw [if_neg e, if_pos (by simp [e])]
      · intro r k hk1 hk2
        unfold B_X5_surePlace_L37
        rw [hr.2.2.2.2.2.1, if_pos (nI_le hk1 (by omega))]
        dsimp only
        rw [← hE]
        split <;> rfl
      · split <;> rfl
    rw [this, clx_s]
  · rw [F_X10_sure, h1.iw hw, clx_s, if_neg (by decide), e4', clx_s, if_neg (by decide), f1, clx_s, f5, if_neg (nI_ne0 hz0 (by omega))]
    refine (pM 0 hz0 _).trans ?_
    rw [hp0, nmx_s]
    refine (lp1K (σ := σ2) (hlL G W (T0 W)).length 1 (fun k => decide (¬ plA W (4 * w + dg (ml k) w) (nI m) = p0)) (some (-3, σ2)) (some (E, σ2)) ?_ ?_ (by omega)).trans ?_
    · intro r k hk1 hk
      unfold B_X10_sure_L55
      rw [f5, if_neg (nI_ge hk (by omega))]
      refine (pM k hk _).trans ?_
      by_cases e : plA W (4 * w + dg (ml k) w) (nI m) = p0
      · rw [if_pos e, if_neg (by simp [e]), nI_add1]
      · rw [if_neg e, if_pos (by simp [e])]
    · intro r k hk1 hk2
      unfold B_X10_sure_L55
      rw [f5, if_pos (nI_le hk1 (by omega))]
      dsimp only
      rw [← hE2]
      split <;> rfl
    · split <;> rfl
