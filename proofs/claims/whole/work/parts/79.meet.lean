/-! MEET -/
theorem lp2B {α : Type} {B : (Int32 → Int32 → Sx → Option α) → Int32 → Int32 → Sx → Option α} {σ : Sx} (n i : Nat) (A : Nat → Int32) (E : Option α)
    (hB : ∀ (r : Int32 → Int32 → Sx → Option α) (k : Nat), i ≤ k → k < n → B r (A k) (nI k) σ = r (A (k + 1)) (nI (k + 1)) σ) (hE : ∀ r : Int32 → Int32 → Sx → Option α, B r (A n) (nI n) σ = E)
    {N : Nat} (hi : i ≤ n) (hN : n - i < N) : lpx2 B N (A i) (nI i) σ = E := by
  refine lp2U (Q := fun o => o = E) n (fun k x σ' => σ' = σ ∧ x = A k ∧ i ≤ k) ?_ hi hN ⟨rfl, rfl, Nat.le_refl _⟩
  rintro r k x σ' hk ⟨rfl, rfl, hik⟩
  rcases Nat.lt_or_ge k n with h | h
  · exact Or.inr ⟨h, _, _, ⟨rfl, rfl, by omega⟩, hB r k hik h⟩
  · have : k = n := by omega
    subst this
    exact Or.inl (hE r)
def wy (d u : Nat) : Nat := 4 * u + dg d u
def m2F (W : Wd) (a b k : Nat) : Nat := if plA W b (nI (cam W a k)) = nI (W 6 (8 * a + k)) then 1 else 0
def m2 (W : Wd) (a b : Nat) : Nat := smN (W 5 a) (m2F W a b)
def mtF (W : Wd) (d i j : Nat) : Nat := if i < j then m2 W (wy d i) (wy d j) else 0
def metN (W : Wd) (d : Nat) : Nat := smN (W 0 0) (fun i => smN (W 0 0) (mtF W d i))
theorem smN_0 {n : Nat} {f : Nat → Nat} (h : ∀ j, j < n → f j = 0) : smN n f = 0 := by
  rw [smN_congr h, smN_zero]
theorem C_meetingsOfTwo {W : Wd} {σ : Sx} {N : Nat} (hN : 8 < N) (ok : okW W) (h : cW W σ) {a b : Nat} (ha : a < 20) (hb : b < 20) : F_X8_meetingsOfTwo N (nI a) (nI b) σ = some (nI (m2 W a b), σ) := by
  have hl := ok.len ha
  unfold F_X8_meetingsOfTwo
  refine lp2A (σ := σ) (W 5 a) (fun k => nI (smN k (m2F W a b))) _ ?_ ?_ (i := 0) (Nat.zero_le _) (by omega)
  · intro r k hk
    unfold B_X8_meetingsOfTwo_L5
    rw [aIx_k ha (by decide), h.2.2.2.1 a ha, if_neg (nI_ge hk (by omega)), aRx_k ha (by decide), aIx_k (show k < 8 by omega) (by decide), (h.2.2.2.2.1 a ha k hk).2, C_placeAt hN ok h _ hb, clx_s, aRx_k ha (by decide), aIx_k (show k < 8 by omega) (by decide), (h.2.2.2.2.1 a ha k hk).1, nmx_s, nI_add1, nI_add1]
    show _ = r (nI (smN k (m2F W a b) + m2F W a b k)) (nI (k + 1)) σ
    rw [show m2F W a b k = if plA W b (nI (cam W a k)) = nI (W 6 (8 * a + k)) then 1 else 0 from rfl]
    by_cases e : plA W b (nI (cam W a k)) = nI (W 6 (8 * a + k))
    · rw [if_pos e, if_pos e]
    · rw [if_neg e, if_neg e]
      rfl
  · intro r
    unfold B_X8_meetingsOfTwo_L5
    rw [aIx_k ha (by decide), h.2.2.2.1 a ha, if_pos (nI_le (Nat.le_refl _) (by omega))]
    rfl
theorem wy_lt {W : Wd} (ok : okW W) {d u : Nat} (hu : u < W 0 0) : wy d u < 20 := by
  have hn := ok.nw
  have := dg_lt d u
  unfold wy
  omega
theorem C_meetings {W : Wd} {σ : Sx} {N : Nat} (hN : 8 < N) (ok : okW W) (h : cW W σ) {d : Nat} (hd : d < 2 ^ 31) : F_X8_meetings N (nI d) σ = some (nI (metN W d), σ) := by
  have hn := ok.nw
  unfold F_X8_meetings
  refine lp2A (σ := σ) (W 0 0) (fun i => nI (smN i (fun i => smN (W 0 0) (mtF W d i)))) _ ?_ ?_ (i := 0) (Nat.zero_le _) (by omega)
  · intro r i hi
    unfold B_X8_meetings_L4
    rw [h.1, if_neg (nI_ge hi (by omega)), nmx_s, nmx_s, nI_add1]
    rw [show nI (smN i (fun i => smN (W 0 0) (mtF W d i))) = nI (smN i (fun i => smN (W 0 0) (mtF W d i)) + smN (i + 1) (mtF W d i)) from by
      rw [smN_0 (n := i + 1) (f := mtF W d i) (fun j hj => by unfold mtF; rw [if_neg (by omega)]), Nat.add_zero]]
    refine lp2B (σ := σ) (W 0 0) (i + 1) (fun j => nI (smN i (fun i => smN (W 0 0) (mtF W d i)) + smN j (mtF W d i))) _ ?_ ?_ (by omega) (by omega)
    · intro r2 j hij hj
      unfold B_X8_meetings_L17
      rw [h.1, if_neg (nI_ge hj (by omega)), C_wayOn hd (by omega), clx_s, C_wayOn hd (by omega), clx_s, C_meetingsOfTwo hN ok h (show 4 * i + dg d i < 20 from wy_lt ok hi) (show 4 * j + dg d j < 20 from wy_lt ok hj), clx_s, nI_add, nmx_s, nI_add1]
      rw [Nat.add_assoc, show smN (j + 1) (mtF W d i) = smN j (mtF W d i) + m2 W (4 * i + dg d i) (4 * j + dg d j) from by
        show smN j (mtF W d i) + mtF W d i j = _
        unfold mtF
        rw [if_pos (by omega)]
        rfl]
    · intro r2
      unfold B_X8_meetings_L17
      rw [h.1, if_pos (nI_le (Nat.le_refl _) (by omega))]
      rfl
  · intro r
    unfold B_X8_meetings_L4
    rw [h.1, if_pos (nI_le (Nat.le_refl _) (by omega))]
    rfl
/-- x is the least of S, -2 where there is none -/
def isMn (S : Nat → Prop) (x : Int32) : Prop := (x = -2 ∧ ∀ t, ¬ S t) ∨ ∃ t, x = nI t ∧ t < 2 ^ 30 ∧ S t ∧ ∀ s, S s → t ≤ s
theorem isMn.congr {S T : Nat → Prop} {x : Int32} (h : isMn S x) (e : ∀ t, S t ↔ T t) : isMn T x := by
  rcases h with ⟨h1, h2⟩ | ⟨t, h1, h2, h3, h4⟩
  · exact Or.inl ⟨h1, fun t q => h2 t ((e t).mpr q)⟩
  · exact Or.inr ⟨t, h1, h2, (e t).mp h3, fun s hs => h4 s ((e s).mpr hs)⟩
theorem isMn.uniq {S : Nat → Prop} {x y : Int32} (h : isMn S x) (g : isMn S y) : x = y := by
  rcases h with ⟨h1, h2⟩ | ⟨t, h1, h2, h3, h4⟩
  · rcases g with ⟨g1, g2⟩ | ⟨s, g1, g2, g3, g4⟩
    · rw [h1, g1]
    · exact absurd g3 (h2 s)
  · rcases g with ⟨g1, g2⟩ | ⟨s, g1, g2, g3, g4⟩
    · exact absurd h3 (g2 t)
    · have := h4 s g3
      have := g4 t h3
      rw [h1, g1, show t = s by omega]
theorem isMn.add {S : Nat → Prop} {x : Int32} {t : Nat} (h : isMn S x) (ht : t < 2 ^ 30) : (x < 0 ∧ isMn (fun s => S s ∨ s = t) (nI t)) ∨ (¬ x < 0 ∧ x ≤ nI t ∧ isMn (fun s => S s ∨ s = t) x) ∨ (¬ x < 0 ∧ ¬ x ≤ nI t ∧ isMn (fun s => S s ∨ s = t) (nI t)) := by
  rcases h with ⟨rfl, h2⟩ | ⟨z, rfl, h2, h3, h4⟩
  · exact Or.inl ⟨by decide, Or.inr ⟨t, rfl, ht, Or.inr rfl, fun s hs => by
      rcases hs with hs | hs
      · exact absurd hs (h2 s)
      · omega⟩⟩
  · right
    rcases Nat.lt_or_ge t z with q | q
    · exact Or.inr ⟨nI_pos (by omega), nI_ge q (by omega), Or.inr ⟨t, rfl, ht, Or.inr rfl, fun s hs => by
        rcases hs with hs | hs
        · have := h4 s hs
          omega
        · omega⟩⟩
    · exact Or.inl ⟨nI_pos (by omega), nI_le q (by omega), Or.inr ⟨z, rfl, h2, Or.inl h3, fun s hs => by
        rcases hs with hs | hs
        · exact h4 s hs
        · omega⟩⟩
theorem isMn.join {S T : Nat → Prop} {x v : Int32} (h : isMn S x) (g : isMn T v) : (v = -2 ∧ isMn (fun s => S s ∨ T s) x) ∨ (¬ v = -2 ∧ x = -2 ∧ isMn (fun s => S s ∨ T s) v) ∨ (¬ v = -2 ∧ ¬ x = -2 ∧ x ≤ v ∧ isMn (fun s => S s ∨ T s) x) ∨ (¬ v = -2 ∧ ¬ x = -2 ∧ ¬ x ≤ v ∧ isMn (fun s => S s ∨ T s) v) := by
  rcases g with ⟨rfl, g2⟩ | ⟨t, rfl, g2, g3, g4⟩
  · exact Or.inl ⟨rfl, h.congr (fun s => ⟨Or.inl, fun q => q.elim id (fun z => absurd z (g2 s))⟩)⟩
  · right
    rcases h with ⟨rfl, h2⟩ | ⟨z, rfl, h2, h3, h4⟩
    · exact Or.inl ⟨ne_m2 (by omega), rfl, Or.inr ⟨t, rfl, g2, Or.inr g3, fun s hs => hs.elim (fun q => absurd q (h2 s)) (g4 s)⟩⟩
    · right
      rcases Nat.lt_or_ge t z with q | q
      · exact Or.inr ⟨ne_m2 (by omega), ne_m2 (by omega), nI_ge q (by omega), Or.inr ⟨t, rfl, g2, Or.inr g3, fun s hs => by
          rcases hs with hs | hs
          · have := h4 s hs
            omega
          · exact g4 s hs⟩⟩
      · exact Or.inl ⟨ne_m2 (by omega), ne_m2 (by omega), nI_le q (by omega), Or.inr ⟨z, rfl, h2, Or.inl h3, fun s hs => by
          rcases hs with hs | hs
          · exact h4 s hs
          · have := g4 s hs
            omega⟩⟩
/-- minutes in which two ways meet -/
def mS2 (W : Wd) (a b t : Nat) : Prop := ∃ k, k < W 5 a ∧ plA W b (nI (cam W a k)) = nI (W 6 (8 * a + k)) ∧ t = cam W a k
def mSt (W : Wd) (d t : Nat) : Prop := ∃ i j, i < j ∧ j < W 0 0 ∧ mS2 W (wy d i) (wy d j) t
theorem C_firstTwo {W : Wd} {σ : Sx} {N : Nat} (hN : 8 < N) (ok : okW W) (h : cW W σ) {a b : Nat} (ha : a < 20) (hb : b < 20) : ∃ x, F_X8_firstMeetingOfTwo N (nI a) (nI b) σ = some (x, σ) ∧ isMn (mS2 W a b) x := by
  have hl := ok.len ha
  unfold F_X8_firstMeetingOfTwo
  rw [nmx_s]
  rw [show lpx1 (B_X8_firstMeetingOfTwo_L2 N (nI a) (nI b) (fun x1 σ1 => aRx 20 (nI a) (fun k11 => aIx (59 + k11) 8 x1 σ1 (fun v1 => some (v1, σ1))))) N (0 : Int32) σ = _ from lp1F (σ := σ) (W 5 a) (fun k => decide (plA W b (nI (cam W a k)) = nI (W 6 (8 * a + k)))) (fun k => some (nI (cam W a k), σ)) (some ((-2 : Int32), σ)) ?_ ?_ (by omega)]
  · by_cases q : fsN (W 5 a) (fun k => decide (plA W b (nI (cam W a k)) = nI (W 6 (8 * a + k)))) < W 5 a
    · rw [if_pos q]
      refine ⟨_, rfl, Or.inr ⟨_, rfl, cam_lt ok ha q, ⟨_, q, by simpa using fsN_at q, rfl⟩, ?_⟩⟩
      rintro s ⟨k, hk, hm, rfl⟩
      rcases Nat.lt_trichotomy k (fsN (W 5 a) (fun k => decide (plA W b (nI (cam W a k)) = nI (W 6 (8 * a + k))))) with z | z | z
      · have := fsN_lt z
        simp only [decide_eq_false_iff_not] at this
        exact absurd hm this
      · rw [← z]
        exact Nat.le_refl _
      · exact Nat.le_of_lt (cam_mono ok ha _ _ z hk)
    · rw [if_neg q]
      refine ⟨_, rfl, Or.inl ⟨rfl, ?_⟩⟩
      rintro s ⟨k, hk, hm, rfl⟩
      exact q (fsN_iff.mpr ⟨k, hk, by simpa using hm⟩)
  · intro r k hk
    unfold B_X8_firstMeetingOfTwo_L2
    rw [aIx_k ha (by decide), h.2.2.2.1 a ha, if_neg (nI_ge hk (by omega)), aRx_k ha (by decide), aIx_k (show k < 8 by omega) (by decide), (h.2.2.2.2.1 a ha k hk).2, C_placeAt hN ok h _ hb, clx_s, aRx_k ha (by decide), aIx_k (show k < 8 by omega) (by decide), (h.2.2.2.2.1 a ha k hk).1, nI_add1]
    dsimp only
    rw [aRx_k ha (by decide), aIx_k (show k < 8 by omega) (by decide), (h.2.2.2.2.1 a ha k hk).2]
    by_cases e : plA W b (nI (cam W a k)) = nI (W 6 (8 * a + k))
    · rw [if_pos e, if_pos (by simpa using e)]
    · rw [if_neg e, if_neg (by simpa using e)]
  · intro r
    unfold B_X8_firstMeetingOfTwo_L2
    rw [aIx_k ha (by decide), h.2.2.2.1 a ha, if_pos (nI_le (Nat.le_refl _) (by omega))]
theorem C_firstMeeting {W : Wd} {σ : Sx} {N : Nat} (hN : 8 < N) (ok : okW W) (h : cW W σ) {d : Nat} (hd : d < 2 ^ 31) : ∃ x, F_X8_firstMeeting N (nI d) σ = some (x, σ) ∧ isMn (mSt W d) x := by
  have hn := ok.nw
  unfold F_X8_firstMeeting
  refine lp2U (Q := fun o => ∃ x, o = some (x, σ) ∧ isMn (mSt W d) x) (W 0 0) (fun i x σ2 => σ2 = σ ∧ isMn (fun t => ∃ i2 j, i2 < i ∧ i2 < j ∧ j < W 0 0 ∧ mS2 W (wy d i2) (wy d j) t) x) ?_ (i := 0) (Nat.zero_le _) (by omega) ⟨rfl, Or.inl ⟨rfl, fun t q => by obtain ⟨i2, j, q, -⟩ := q; omega⟩⟩
  rintro r i x σ2 hi ⟨rfl, hx⟩
  unfold B_X8_firstMeeting_L5
  rw [h.1, ite_le (by omega) (by omega)]
  by_cases hlt : W 0 0 ≤ i
  · left
    rw [if_pos hlt]
    exact ⟨x, rfl, hx.congr (fun t => ⟨fun ⟨i2, j, q1, q2, q3, q4⟩ => ⟨i2, j, q2, q3, q4⟩, fun ⟨i2, j, q2, q3, q4⟩ => ⟨i2, j, by omega, q2, q3, q4⟩⟩)⟩
  right
  refine ⟨by omega, ?_⟩
  rw [if_neg hlt, nmx_s, nmx_s, nI_add1]
  refine lp2U (Q := fun o => ∃ x' σ', (σ' = σ2 ∧ isMn (fun t => ∃ i2 j, i2 < i + 1 ∧ i2 < j ∧ j < W 0 0 ∧ mS2 W (wy d i2) (wy d j) t) x') ∧ o = r x' (nI (i + 1)) σ') (W 0 0) (fun j x σ3 => σ3 = σ2 ∧ i < j ∧ isMn (fun t => ∃ i2 j2, (i2 < i ∨ (i2 = i ∧ j2 < j)) ∧ i2 < j2 ∧ j2 < W 0 0 ∧ mS2 W (wy d i2) (wy d j2) t) x) ?_ (by omega) (by omega) ⟨rfl, by omega, hx.congr (fun t => ⟨fun ⟨i2, j, q1, q2, q3, q4⟩ => ⟨i2, j, Or.inl q1, q2, q3, q4⟩, fun ⟨i2, j, q1, q2, q3, q4⟩ => ⟨i2, j, by omega, q2, q3, q4⟩⟩)⟩
  rintro r2 j x2 σ3 hj ⟨rfl, hij, hx2⟩
  unfold B_X8_firstMeeting_L18
  rw [h.1, ite_le (by omega) (by omega)]
  by_cases hlt2 : W 0 0 ≤ j
  · left
    rw [if_pos hlt2]
    exact ⟨x2, σ3, ⟨rfl, hx2.congr (fun t => ⟨fun ⟨i2, j, q1, q2, q3, q4⟩ => ⟨i2, j, by omega, q2, q3, q4⟩, fun ⟨i2, j, q1, q2, q3, q4⟩ => ⟨i2, j, by omega, q2, q3, q4⟩⟩)⟩, rfl⟩
  right
  refine ⟨by omega, ?_⟩
  have hi2 : i < W 0 0 := by omega
  have hj2 : j < W 0 0 := by omega
  obtain ⟨v, hv1, hv2⟩ := C_firstTwo hN ok h (show 4 * i + dg d i < 20 from wy_lt ok hi2) (show 4 * j + dg d j < 20 from wy_lt ok hj2)
  have ext : ∀ z, isMn (fun s => (∃ i2 j2, (i2 < i ∨ (i2 = i ∧ j2 < j)) ∧ i2 < j2 ∧ j2 < W 0 0 ∧ mS2 W (wy d i2) (wy d j2) s) ∨ mS2 W (4 * i + dg d i) (4 * j + dg d j) s) z → isMn (fun t => ∃ i2 j2, (i2 < i ∨ (i2 = i ∧ j2 < j + 1)) ∧ i2 < j2 ∧ j2 < W 0 0 ∧ mS2 W (wy d i2) (wy d j2) t) z := fun z hz => hz.congr (fun t => by
    constructor
    · rintro (⟨i2, j2, q1, q2, q3, q4⟩ | q)
      · exact ⟨i2, j2, by omega, q2, q3, q4⟩
      · exact ⟨i, j, by omega, hij, hj2, q⟩
    · rintro ⟨i2, j2, q1, q2, q3, q4⟩
      by_cases e : i2 = i ∧ j2 = j
      · obtain ⟨rfl, rfl⟩ := e
        exact Or.inr q4
      · exact Or.inl ⟨i2, j2, by omega, q2, q3, q4⟩)
  rw [if_neg hlt2, C_wayOn hd (by omega), clx_s, C_wayOn hd (by omega), clx_s, hv1, clx_s, nmx_s, nI_add1]
  rcases hx2.join hv2 with ⟨e1, hz⟩ | ⟨e1, e2, hz⟩ | ⟨e1, e2, e3, hz⟩ | ⟨e1, e2, e3, hz⟩
  · rw [if_pos e1]
    exact ⟨x2, σ3, ⟨rfl, by omega, ext _ hz⟩, rfl⟩
  · rw [if_neg e1, nmx_s, if_pos e2]
    exact ⟨v, σ3, ⟨rfl, by omega, ext _ hz⟩, rfl⟩
  · rw [if_neg e1, nmx_s, if_neg e2, if_pos e3]
    exact ⟨x2, σ3, ⟨rfl, by omega, ext _ hz⟩, rfl⟩
  · rw [if_neg e1, nmx_s, if_neg e2, if_neg e3]
    exact ⟨v, σ3, ⟨rfl, by omega, ext _ hz⟩, rfl⟩
/-! the reference counts by walker, place, other walker -/
def mmF (W : Wd) (d w k u : Nat) : Nat := if w < u then m2F W (wy d w) (wy d u) k else 0
def mmW (W : Wd) (d w : Nat) : Nat := smN (W 5 (wy d w)) (fun k => smN (W 0 0) (mmF W d w k))
theorem mmN_eq (W : Wd) (d : Nat) : smN (W 0 0) (mmW W d) = metN W d := by
  unfold metN
  refine smN_congr (fun i _ => ?_)
  unfold mmW
  rw [smN_swap]
  refine smN_congr (fun j _ => ?_)
  unfold mmF mtF m2
  by_cases e : i < j
  · simp only [if_pos e]
  · simp only [if_neg e]
    exact smN_zero _
def rgM (i j : Nat) : Prop := i = 103 ∧ (j = 39 ∨ j = 40)
theorem M_findMet {W : Wd} {σ : Sx} {N : Nat} (hN : 8 < N) (ok : okW W) (h : mW W σ) (hc : mC W σ) {d : Nat} (hd : isDy W d) : ∃ σ2, F_X10_findMet N (nI d) σ = some ((), σ2) ∧ Kp rgM σ σ2 ∧ siI σ2 103 39 = nI (metN W d) ∧ isMn (mSt W d) (siI σ2 103 40) := by
  have hn := ok.nw
  have hd1 := hd.1
  have fr : ∀ {σ2 : Sx}, Kp rgM σ σ2 → mW W σ2 ∧ mC W σ2 := fun k => ⟨h.kp k (fun i j hr => by unfold mwR at hr; unfold rgM; omega), hc.kp k (fun j => by unfold rgM; omega)⟩
  unfold F_X10_findMet
  rw [pIx_s, pIx_s]
  refine lp1U (Q := fun o => ∃ σ2, o = some ((), σ2) ∧ Kp rgM σ σ2 ∧ siI σ2 103 39 = nI (metN W d) ∧ isMn (mSt W d) (siI σ2 103 40)) (W 0 0) (fun w σ2 => Kp rgM σ σ2 ∧ siI σ2 103 39 = nI (smN w (mmW W d)) ∧ isMn (fun t => ∃ i j, i < w ∧ i < j ∧ j < W 0 0 ∧ mS2 W (wy d i) (wy d j) t) (siI σ2 103 40)) ?_ (i := 0) (Nat.zero_le _) (by omega) ⟨(Kp.rf.I ⟨rfl, Or.inl rfl⟩).I ⟨rfl, Or.inr rfl⟩, by rw [uI_j (by decide), uI_s]; rfl, by rw [uI_s]; exact Or.inl ⟨rfl, fun t q => by obtain ⟨i2, j, q, -⟩ := q; omega⟩⟩
  rintro r w σ2 hw ⟨hk, h39, h40⟩
  obtain ⟨hm2, hc2⟩ := fr hk
  unfold B_X10_findMet_L13
  rw [hm2.1, ite_le (by omega) (by omega)]
  by_cases hlt : W 0 0 ≤ w
  · left
    rw [if_pos hlt]
    refine ⟨σ2, rfl, hk, ?_, h40.congr (fun t => ⟨fun ⟨i2, j, q1, q2, q3, q4⟩ => ⟨i2, j, q2, q3, q4⟩, fun ⟨i2, j, q2, q3, q4⟩ => ⟨i2, j, by omega, q2, q3, q4⟩⟩)⟩
    rw [h39, ← mmN_eq, show w = W 0 0 by omega]
  right
  refine ⟨by omega, ?_⟩
  have hw2 : w < W 0 0 := by omega
  have hwl := wy_lt ok (d := d) hw2
  have hlen := ok.len hwl
  have e4 : wy d w / 4 = w := div4u (dg_lt _ _)
  have m4 : wy d w % 4 = dg d w := mod4u (dg_lt _ _)
  rw [if_neg hlt, M_wayIn (by omega) (by omega), clx_s, mul32L, mul8L, nI_add, nmx_s, nmx_s, nI_add1]
  refine lp1U (Q := fun o => ∃ σ', (Kp rgM σ σ' ∧ siI σ' 103 39 = nI (smN (w + 1) (mmW W d)) ∧ isMn (fun t => ∃ i j, i < w + 1 ∧ i < j ∧ j < W 0 0 ∧ mS2 W (wy d i) (wy d j) t) (siI σ' 103 40)) ∧ o = r (nI (w + 1)) σ') (W 5 (wy d w)) (fun k σ3 => Kp rgM σ σ3 ∧ siI σ3 103 39 = nI (smN w (mmW W d) + smN k (fun k => smN (W 0 0) (mmF W d w k))) ∧ isMn (fun t => (∃ i j, i < w ∧ i < j ∧ j < W 0 0 ∧ mS2 W (wy d i) (wy d j) t) ∨ ∃ j k2, k2 < k ∧ w < j ∧ j < W 0 0 ∧ plA W (wy d j) (nI (cam W (wy d w) k2)) = nI (W 6 (8 * wy d w + k2)) ∧ t = cam W (wy d w) k2) (siI σ3 103 40)) ?_ (i := 0) (Nat.zero_le _) (by omega) ⟨hk, h39, h40.congr (fun t => ⟨Or.inl, fun q => q.elim id (fun ⟨j, k2, q, _⟩ => absurd q (Nat.not_lt_zero _))⟩)⟩
  rintro r3 k σ3 hk3 ⟨hkp3, h39, h40⟩
  obtain ⟨hm3, hc3⟩ := fr hkp3
  unfold B_X10_findMet_L41
  rw [mul4L, nI_add, aIx_k (show 4 * w + dg d w < 20 from hwl) (by decide), show siI σ3 108 (4 * w + dg d w) = nI (W 5 (wy d w)) from hm3.2.2.1 _ hwl (by rw [div4u (dg_lt _ _), mod4u (dg_lt _ _)]; exact hd.way ok hw2), ite_le (by omega) (by omega)]
  by_cases hlk : W 5 (wy d w) ≤ k
  · left
    rw [if_pos hlk]
    have ek : k = W 5 (wy d w) := by omega
    subst ek
    refine ⟨σ3, ⟨hkp3, h39, h40.congr (fun t => ?_)⟩, rfl⟩
    constructor
    · rintro (⟨i2, j, q1, q2, q3, q4⟩ | ⟨j, k2, q1, q2, q3, q4, q5⟩)
      · exact ⟨i2, j, by omega, q2, q3, q4⟩
      · exact ⟨w, j, by omega, q2, q3, k2, q1, q4, q5⟩
    · rintro ⟨i2, j, q1, q2, q3, q4⟩
      by_cases e : i2 = w
      · subst e
        obtain ⟨k2, q5, q6, q7⟩ := q4
        exact Or.inr ⟨j, k2, q5, q2, q3, q6, q7⟩
      · exact Or.inl ⟨i2, j, by omega, q2, q3, q4⟩
  right
  refine ⟨by omega, ?_⟩
  have hkl : k < W 5 (wy d w) := by omega
  have ek : 32 * w + 8 * dg d w + k = 8 * wy d w + k := by unfold wy; omega
  rw [if_neg hlk, nI_add1, nmx_s, nmx_s, nI_add1]
  refine lp1U (Q := fun o => ∃ σ', (Kp rgM σ σ' ∧ siI σ' 103 39 = nI (smN w (mmW W d) + smN (k + 1) (fun k => smN (W 0 0) (mmF W d w k))) ∧ isMn (fun t => (∃ i j, i < w ∧ i < j ∧ j < W 0 0 ∧ mS2 W (wy d i) (wy d j) t) ∨ ∃ j k2, k2 < k + 1 ∧ w < j ∧ j < W 0 0 ∧ plA W (wy d j) (nI (cam W (wy d w) k2)) = nI (W 6 (8 * wy d w + k2)) ∧ t = cam W (wy d w) k2) (siI σ' 103 40)) ∧ o = r3 (nI (k + 1)) σ') (W 0 0) (fun u σ4 => w < u ∧ Kp rgM σ σ4 ∧ siI σ4 103 39 = nI (smN w (mmW W d) + smN k (fun k => smN (W 0 0) (mmF W d w k)) + smN u (mmF W d w k)) ∧ isMn (fun t => (∃ i j, i < w ∧ i < j ∧ j < W 0 0 ∧ mS2 W (wy d i) (wy d j) t) ∨ ∃ j k2, (k2 < k ∨ (k2 = k ∧ j < u)) ∧ w < j ∧ j < W 0 0 ∧ plA W (wy d j) (nI (cam W (wy d w) k2)) = nI (W 6 (8 * wy d w + k2)) ∧ t = cam W (wy d w) k2) (siI σ4 103 40)) ?_ (by omega) (by omega) ⟨by omega, hkp3, ?_, h40.congr (fun t => ?_)⟩
  · rintro r4 u σ4 hu ⟨hwu, hkp4, h39, h40⟩
    obtain ⟨hm4, hc4⟩ := fr hkp4
    unfold B_X10_findMet_L61
    rw [hm4.1, ite_le (by omega) (by omega)]
    by_cases hlu : W 0 0 ≤ u
    · left
      rw [if_pos hlu]
      have eu : u = W 0 0 := by omega
      refine ⟨σ4, ⟨hkp4, ?_, h40.congr (fun t => ?_)⟩, rfl⟩
      · rw [h39, eu]
        show _ = nI (_ + (smN k _ + _))
        rw [Nat.add_assoc]
      · refine or_congr Iff.rfl ⟨?_, ?_⟩
        · rintro ⟨j, k2, q1, q2⟩
          exact ⟨j, k2, by omega, q2⟩
        · rintro ⟨j, k2, q1, q2, q3, q4⟩
          exact ⟨j, k2, by omega, q2, q3, q4⟩
    right
    refine ⟨by omega, ?_⟩
    have hu2 : u < W 0 0 := by omega
    have hcl := cam_lt ok hwl hkl
    rw [if_neg hlu, M_wayIn (by omega) (by omega), clx_s, nI_add, ek, aIx_k (by omega) (by decide), hc4 _ hwl k hkl, M_placeIn hN ok hm4 hc4 _ hu2 (hd.way ok hu2), clx_s, aIx_k (by omega) (by decide), hm4.2.2.2.1 _ hwl k hkl, nmx_s, nI_add1]
    have sums : smN (u + 1) (mmF W d w k) = smN u (mmF W d w k) + m2F W (wy d w) (wy d u) k := by
      show smN u _ + mmF W d w k u = _
      unfold mmF
      rw [if_pos hwu]
    have hmf : m2F W (wy d w) (wy d u) k = if plA W (4 * u + dg d u) (nI (cam W (wy d w) k)) = nI (W 6 (8 * wy d w + k)) then 1 else 0 := rfl
    by_cases e : plA W (4 * u + dg d u) (nI (cam W (wy d w) k)) = nI (W 6 (8 * wy d w + k))
    · rw [if_pos e, pIx_s, nmx_s]
      have h40' : siI (upI σ4 103 39 (siI σ4 103 39 + (1 : Int32))) 103 40 = siI σ4 103 40 := uI_j (by decide)
      have hc5 : mC W (upI σ4 103 39 (siI σ4 103 39 + (1 : Int32))) := hc4.kp (Kp.rf.I (reg := fun i _ => i = 103) rfl) (fun j => by omega)
      have h39' : siI (upI σ4 103 39 (siI σ4 103 39 + (1 : Int32))) 103 39 = nI (smN w (mmW W d) + smN k (fun k => smN (W 0 0) (mmF W d w k)) + smN (u + 1) (mmF W d w k)) := by
        rw [uI_s, h39, nI_add1, sums, hmf, if_pos e]
        exact congrArg nI (Nat.add_assoc _ _ _)
      have ext : ∀ z, isMn (fun s => ((∃ i j, i < w ∧ i < j ∧ j < W 0 0 ∧ mS2 W (wy d i) (wy d j) s) ∨ ∃ j k2, (k2 < k ∨ (k2 = k ∧ j < u)) ∧ w < j ∧ j < W 0 0 ∧ plA W (wy d j) (nI (cam W (wy d w) k2)) = nI (W 6 (8 * wy d w + k2)) ∧ s = cam W (wy d w) k2) ∨ s = cam W (wy d w) k) z → isMn (fun t => (∃ i j, i < w ∧ i < j ∧ j < W 0 0 ∧ mS2 W (wy d i) (wy d j) t) ∨ ∃ j k2, (k2 < k ∨ (k2 = k ∧ j < u + 1)) ∧ w < j ∧ j < W 0 0 ∧ plA W (wy d j) (nI (cam W (wy d w) k2)) = nI (W 6 (8 * wy d w + k2)) ∧ t = cam W (wy d w) k2) z := fun z hz => hz.congr (fun t => by
        constructor
        · rintro ((q | ⟨j, k2, q1, q2, q3, q4, q5⟩) | q)
          · exact Or.inl q
          · exact Or.inr ⟨j, k2, by omega, q2, q3, q4, q5⟩
          · exact Or.inr ⟨u, k, by omega, hwu, hu2, e, q⟩
        · rintro (q | ⟨j, k2, q1, q2, q3, q4, q5⟩)
          · exact Or.inl (Or.inl q)
          · by_cases e2 : k2 = k ∧ j = u
            · obtain ⟨rfl, rfl⟩ := e2
              exact Or.inr q5
            · exact Or.inl (Or.inr ⟨j, k2, by omega, q2, q3, q4, q5⟩))
      rcases h40.add hcl with ⟨g1, hz⟩ | ⟨g1, g2, hz⟩ | ⟨g1, g2, hz⟩
      · rw [h40', if_pos g1]
        dsimp only
        rw [aIx_k (by omega) (by decide), hc5 _ hwl k hkl, pIx_s]
        exact ⟨_, ⟨by omega, (hkp4.I ⟨rfl, Or.inl rfl⟩).I ⟨rfl, Or.inr rfl⟩, by rw [uI_j (by decide)]; exact h39', by rw [uI_s]; exact ext _ hz⟩, rfl⟩
      · rw [h40', if_neg g1, aIx_k (by omega) (by decide), hc5 _ hwl k hkl, if_pos g2]
        exact ⟨_, ⟨by omega, hkp4.I ⟨rfl, Or.inl rfl⟩, h39', by rw [h40']; exact ext _ hz⟩, rfl⟩
      · rw [h40', if_neg g1, aIx_k (by omega) (by decide), hc5 _ hwl k hkl, if_neg g2]
        dsimp only
        rw [aIx_k (by omega) (by decide), hc5 _ hwl k hkl, pIx_s]
        exact ⟨_, ⟨by omega, (hkp4.I ⟨rfl, Or.inl rfl⟩).I ⟨rfl, Or.inr rfl⟩, by rw [uI_j (by decide)]; exact h39', by rw [uI_s]; exact ext _ hz⟩, rfl⟩
    · rw [if_neg e]
      refine ⟨σ4, ⟨by omega, hkp4, ?_, h40.congr (fun t => or_congr Iff.rfl ⟨?_, ?_⟩)⟩, rfl⟩
      · rw [h39, sums, hmf, if_neg e, Nat.add_zero]
      · rintro ⟨j, k2, q1, q2⟩
        exact ⟨j, k2, by omega, q2⟩
      · rintro ⟨j, k2, q1, q2, q3, q4, q5⟩
        by_cases e2 : k2 = k ∧ j = u
        · obtain ⟨rfl, rfl⟩ := e2
          exact absurd q4 e
        · exact ⟨j, k2, by omega, q2, q3, q4, q5⟩
  · rw [h39, smN_0 (n := w + 1) (f := mmF W d w k) (fun j hj => by unfold mmF; rw [if_neg (by omega)]), Nat.add_zero]
  · refine or_congr Iff.rfl ⟨?_, ?_⟩
    · rintro ⟨j, k2, q1, q2⟩
      exact ⟨j, k2, Or.inl q1, q2⟩
    · rintro ⟨j, k2, q1, q2, q3⟩
      exact ⟨j, k2, by omega, q2, q3⟩
