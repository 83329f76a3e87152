/-! SHIFT -/
theorem subI {z n : Nat} (hz : z < 2 ^ 31) (hn : n < 2 ^ 31) : (nI z - nI n).toInt = (z : Int) - n := by
  rw [Int32.toInt_sub, nI_toInt hz, nI_toInt hn]
  exact Int.bmod_eq_of_le (by omega) (by omega)
theorem sub_ltI {z n f : Nat} (hz : z < 2 ^ 31) (hn : n < 2 ^ 31) (hf : f < 2 ^ 31) : (nI z - nI n < nI f) ↔ z < f + n := by
  rw [Int32.lt_iff_toInt_lt, subI hz hn, nI_toInt hf]
  omega
theorem le_subI {z n f : Nat} (hz : z < 2 ^ 31) (hn : n < 2 ^ 31) (hf : f < 2 ^ 31) : (nI f ≤ nI z - nI n) ↔ f + n ≤ z := by
  rw [Int32.le_iff_toInt_le, subI hz hn, nI_toInt hf]
  omega
theorem C_hasP {σ : Sx} {k z f n : Nat} (h : siI σ (10 + k) 1 = nI z) (hz : z ≤ 60) (hf : f < 2 ^ 31) (hn : n < 2 ^ 31) : F_X6_hasPlaces k (nI f) (nI n) σ = some ((if f + n ≤ z then 1 else 0), σ) := by
  unfold F_X6_hasPlaces
  rw [if_neg (nI_pos hf), if_neg (nI_pos hn), h, ite_lt (by omega) hf]
  by_cases h1 : z < f
  · rw [if_pos h1, if_neg (by omega)]
  · rw [if_neg h1, ifI (sub_ltI (by omega) hf hn)]
    by_cases h2 : z < n + f
    · rw [if_pos h2, if_neg (by omega)]
    · rw [if_neg h2, if_pos (by omega)]
theorem C_hasPn {σ : Sx} {k : Nat} (a b : Int32) (h : a < 0 ∨ b < 0) : F_X6_hasPlaces k a b σ = some (0, σ) := by
  unfold F_X6_hasPlaces
  by_cases h1 : a < 0
  · rw [if_pos h1]
  · rw [if_neg h1, if_pos (h.resolve_left h1)]
theorem M_shift {N k l f g n : Nat} {σ : Sx} (hN : 62 < N) (hk : k < 6) (hl : l < 6) (hf : f + n ≤ 60) (hg : g + n ≤ 60) : ∃ σ2, (lpx1 (B_X10_shift_L113 N (nI k) (nI f) (nI n) (fun σ3 => lpx1 (B_X10_shift_L150 N (nI l) (nI g) (nI n)) N (0 : Int32) σ3)) N (0 : Int32) σ : Option (Int32 × Sx)) = some (nI n, σ2) ∧ Kp (fun i _ => i = 137 ∨ i = 138) σ σ2 ∧ (∀ i j, siI σ2 i j = siI σ i j) ∧ ∀ j, siL σ2 137 j = if 60 * l + g ≤ j ∧ j < 60 * l + g + n then siL σ 137 (60 * k + f + (j - (60 * l + g))) else siL σ 137 j := by
  refine lp1U (Q := fun o => ∃ σ2, o = some (nI n, σ2) ∧ Kp (fun i _ => i = 137 ∨ i = 138) σ σ2 ∧ (∀ i j, siI σ2 i j = siI σ i j) ∧ ∀ j, siL σ2 137 j = if 60 * l + g ≤ j ∧ j < 60 * l + g + n then siL σ 137 (60 * k + f + (j - (60 * l + g))) else siL σ 137 j) n (fun m σx => Kp (fun i _ => i = 138) σ σx ∧ (∀ i j, siI σx i j = siI σ i j) ∧ ∀ j, j < m → siL σx 138 j = siL σ 137 (60 * k + f + j)) ?_ (i := 0) (Nat.zero_le _) (by omega) ⟨Kp.rf, fun _ _ => rfl, fun j q => absurd q (Nat.not_lt_zero _)⟩
  rintro r m σx hm ⟨hkx, hI, hj⟩
  unfold B_X10_shift_L113
  rw [ite_le (by omega) (by omega)]
  by_cases hlt : n ≤ m
  · left
    rw [if_pos hlt]
    dsimp only
    refine lp1U (Q := fun o => ∃ σ2, o = some (nI n, σ2) ∧ Kp (fun i _ => i = 137 ∨ i = 138) σ σ2 ∧ (∀ i j, siI σ2 i j = siI σ i j) ∧ ∀ j, siL σ2 137 j = if 60 * l + g ≤ j ∧ j < 60 * l + g + n then siL σ 137 (60 * k + f + (j - (60 * l + g))) else siL σ 137 j) n (fun m σy => Kp (fun i _ => i = 137) σx σy ∧ (∀ i j, siI σy i j = siI σx i j) ∧ ∀ j, siL σy 137 j = if 60 * l + g ≤ j ∧ j < 60 * l + g + m then siL σ 137 (60 * k + f + (j - (60 * l + g))) else siL σ 137 j) ?_ (i := 0) (Nat.zero_le _) (by omega) ⟨Kp.rf, fun _ _ => rfl, fun j => by rw [if_neg (by omega), (hkx 137 j (by omega)).2]⟩
    rintro r2 m2 σy hm2 ⟨hky, hI2, hj2⟩
    unfold B_X10_shift_L150
    rw [ite_le (by omega) (by omega)]
    by_cases hlt2 : n ≤ m2
    · left
      rw [if_pos hlt2]
      have : m2 = n := by omega
      subst this
      exact ⟨σy, rfl, (hkx.le (fun i j q => Or.inr q)).tr (hky.le (fun i j q => Or.inl q)), fun i j => (hI2 i j).trans (hI i j), hj2⟩
    · right
      rw [if_neg hlt2, aLx_k (by omega) (by decide), (hky 138 m2 (by omega)).2, hj m2 (by omega), mul60L, nI_add, nI_add, sLx_k (by omega) (by decide), nI_add1]
      refine ⟨by omega, _, ⟨hky.L rfl, fun i j => hI2 i j, fun j => ?_⟩, rfl⟩
      by_cases e : j = 60 * l + g + m2
      · rw [e, uL_s, if_pos (by omega), Nat.add_sub_cancel_left]
      · rw [uL_j e, hj2]
        by_cases e2 : 60 * l + g ≤ j ∧ j < 60 * l + g + m2
        · rw [if_pos e2, if_pos (by omega)]
        · rw [if_neg e2, if_neg (by omega)]
  · right
    rw [if_neg hlt, mul60L, nI_add, nI_add, aLx_k (by omega) (by decide), (hkx 137 _ (by omega)).2, sLx_k (by omega) (by decide), nI_add1]
    refine ⟨by omega, _, ⟨hkx.L rfl, fun i j => hI i j, fun j q => ?_⟩, rfl⟩
    by_cases e : j = m
    · rw [e, uL_s]
    · rw [uL_j e]
      exact hj j (by omega)
theorem C_copyL {k l f g n : Nat} {σ : Sx} (hf : f + n ≤ 60) (hg : g + n ≤ 60) {α : Type} (K : Sx → Option α) : ∃ σ2, cLx (16 + k) 60 (nI f) (16 + l) 60 (nI g) (nI n) σ K = K σ2 ∧ Kp (fun i _ => i = 16 + l) σ σ2 ∧ (∀ i j, siI σ2 i j = siI σ i j) ∧ ∀ j, siL σ2 (16 + l) j = if g ≤ j ∧ j < g + n then siL σ (16 + k) (f + (j - g)) else siL σ (16 + l) j := by
  unfold cLx
  rw [nI_clamp (show f < 2 ^ 31 by omega), nI_clamp (show g < 2 ^ 31 by omega), nI_clamp (show n < 2 ^ 31 by omega), if_pos ⟨nI_pos (by omega), nI_pos (by omega), nI_pos (by omega), hf, hg⟩]
  refine ⟨_, rfl, fun i j q => ⟨rfl, ?_⟩, fun _ _ => rfl, fun j => ?_⟩
  · show (if i = 16 + l then _ else σ.2 i) j = siL σ i j
    rw [if_neg q]
    rfl
  · show (if 16 + l = 16 + l then va_cpy (siL σ (16 + k)) (siL σ (16 + l)) f g n else σ.2 (16 + l)) j = _
    rw [if_pos rfl]
    rfl
theorem s_shift {N : Nat} (hN : 62 < N) (a0 a1 a2 a3 a4 : Int32) {σ : Sx} (h : RelS σ) : StI RelS regS σ (F_X9_shift a0 a1 a2 a3 a4 σ) (F_X10_shift N a0 a1 a2 a3 a4) := by
  obtain ⟨nb, hnb, h1, h2, h3, h4⟩ := id h
  have same : ∀ r, F_X9_shift a0 a1 a2 a3 a4 σ = some (r, σ) → F_X10_shift N a0 a1 a2 a3 a4 σ = some (r, σ) → StI RelS regS σ (F_X9_shift a0 a1 a2 a3 a4 σ) (F_X10_shift N a0 a1 a2 a3 a4) := fun r q1 q2 => ⟨r, σ, σ, q1, q2, h, Kp.rf⟩
  have sh : ∀ a : Int32, (F_X9_isShelf a σ = some (0, σ) ∧ F_X10_isShelf a σ = some (0, σ)) ∨ ∃ k, k < 6 ∧ a = nI k ∧ F_X9_isShelf a σ = some (1, σ) ∧ F_X10_isShelf a σ = some (1, σ) := fun a => by
    rw [C_isShelf, M_isShelf]
    rcases arg_n a (n := 6) (by decide) with ha | ⟨ha, ha2⟩ | ⟨k, hk, rfl⟩
    · left
      rw [if_pos ha]
      exact ⟨rfl, rfl⟩
    · left
      rw [if_neg ha, if_pos (show (6 : Int32) ≤ a from ha2)]
      exact ⟨rfl, rfl⟩
    · right
      refine ⟨k, hk, rfl, ?_⟩
      rw [if_neg (nI_pos (by omega)), if_neg (show ¬ (6 : Int32) ≤ nI k from nI_ge hk (by decide))]
      exact ⟨rfl, rfl⟩
  rcases sh a0 with ⟨e1, e2⟩ | ⟨k, hk, rfl, e1, e2⟩
  · refine same (-1) ?_ ?_
    · rw [F_X9_shift, e1]
      rfl
    · rw [F_X10_shift, e2]
      rfl
  rcases sh a2 with ⟨e3, e4⟩ | ⟨l, hl, rfl, e3, e4⟩
  · refine same (-1) ?_ ?_
    · rw [F_X9_shift, e1, clx_s, if10, e3]
      rfl
    · rw [F_X10_shift, e2, clx_s, if10, e4]
      rfl
  have eC : F_X9_shift (nI k) a1 (nI l) a3 a4 σ = (if (siI σ (10 + k) 0) = (-1 : Int32) then some ((-11 : Int32), σ) else (if (siI σ (10 + l) 0) = (-1 : Int32) then some ((-11 : Int32), σ) else (if (siI σ (10 + k) 0) = (5 : Int32) then some ((-12 : Int32), σ) else (if (siI σ (10 + k) 0) = (siI σ (10 + l) 0) then clx (F_X6_hasPlaces k a1 a4 σ) (fun v3 σ3 => (if v3 = 0 then some ((-13 : Int32), σ3) else clx (F_X6_hasPlaces l a3 a4 σ3) (fun v4 σ4 => (if v4 = 0 then some ((-13 : Int32), σ4) else cLx (16 + k) 60 a1 (16 + l) 60 a3 a4 σ4 (fun σ5 => some (a4, σ5)))))) else some ((-12 : Int32), σ))))) := by
    rw [F_X9_shift, e1, clx_s, if10, e3, clx_s, if10, aRx_k hk (by decide), aRx_k hl (by decide)]
  have eM : ∀ σ2 : Sx, (∀ i j, siI σ2 i j = siI σ i j) → F_X10_shift N (nI k) a1 (nI l) a3 a4 σ2 = (if siI σ 135 k = (-1 : Int32) then some ((-11 : Int32), σ2) else (if siI σ 135 l = (-1 : Int32) then some ((-11 : Int32), σ2) else (if 0 ≤ siI σ 135 k then some ((-12 : Int32), σ2) else (if siI σ 135 k = siI σ 135 l then (if a4 < 0 then some ((-13 : Int32), σ2) else (if a1 < 0 then some ((-13 : Int32), σ2) else (if a3 < 0 then some ((-13 : Int32), σ2) else (if (siI σ 136 k - a4) < a1 then some ((-13 : Int32), σ2) else (if a3 ≤ (siI σ 136 l - a4) then lpx1 (B_X10_shift_L113 N (nI k) a1 a4 (fun σ3 => lpx1 (B_X10_shift_L150 N (nI l) a3 a4) N (0 : Int32) σ3)) N (0 : Int32) σ2 else some ((-13 : Int32), σ2)))))) else some ((-12 : Int32), σ2))))) := fun σ2 q => by
    have i1 : ∀ m, m < 6 → F_X10_isShelf (nI m) σ2 = some (1, σ2) := fun m hm => by rw [M_isShelf, if_neg (nI_pos (by omega)), if_neg (show ¬ (6 : Int32) ≤ nI m from nI_ge hm (by decide))]
    rw [F_X10_shift, i1 k hk, clx_s, if10, i1 l hl, clx_s, if10]
    simp only [aIx_k hk (show 6 < 2 ^ 31 by decide), aIx_k hl (show 6 < 2 ^ 31 by decide), q, nmx_s]
  have eMs := eM σ (fun _ _ => rfl)
  have ht5 : ∀ t, t < 5 → ¬ ((-2 : Int32) - nI t = -1) ∧ ¬ (nI t = (-1 : Int32)) ∧ ¬ (nI t = (5 : Int32)) ∧ ¬ ((0 : Int32) ≤ (-2 : Int32) - nI t) := by decide
  have hb5 : ∀ b : Nat, b < nb → ¬ (nI b = (-1 : Int32)) ∧ (0 : Int32) ≤ nI b := fun b hb => ⟨ne_m1 (by omega), nI_pos' (by omega)⟩
  rcases h4 k hk with ⟨g1, g2⟩ | ⟨b, g0, g1, g2, g3⟩ | ⟨t, z, g1, g2, g3, g4, g5, g6, g7⟩
  · refine same (-11) ?_ ?_
    · rw [eC, g2, if_pos rfl]
    · rw [eMs, g1, if_pos rfl]
  · rcases h4 l hl with ⟨f1, f2⟩ | ⟨b2, f0, f1, f2, f3⟩ | ⟨t2, z2, f1, f2, f3, f4, f5, f6, f7⟩
    · refine same (-11) ?_ ?_
      · rw [eC, g2, f2, if_neg (by decide), if_pos rfl]
      · rw [eMs, g1, f1, if_neg (hb5 b g0).1, if_pos rfl]
    · refine same (-12) ?_ ?_
      · rw [eC, g2, f2, if_neg (by decide), if_neg (by decide), if_pos rfl]
      · rw [eMs, g1, f1, if_neg (hb5 b g0).1, if_neg (hb5 b2 f0).1, if_pos (hb5 b g0).2]
    · refine same (-12) ?_ ?_
      · rw [eC, g2, f4, if_neg (by decide), if_neg (ht5 t2 f1).2.1, if_pos rfl]
      · rw [eMs, g1, f3, if_neg (hb5 b g0).1, if_neg (ht5 t2 f1).1, if_pos (hb5 b g0).2]
  obtain ⟨r1, r2, r3, r4⟩ := ht5 t g1
  rcases h4 l hl with ⟨f1, f2⟩ | ⟨b2, f0, f1, f2, f3⟩ | ⟨t2, z2, f1, f2, f3, f4, f5, f6, f7⟩
  · refine same (-11) ?_ ?_
    · rw [eC, g4, f2, if_neg r2, if_pos rfl]
    · rw [eMs, g3, f1, if_neg r1, if_pos rfl]
  · refine same (-12) ?_ ?_
    · rw [eC, g4, f2, if_neg r2, if_neg (by decide), if_neg r3, if_neg r3]
    · rw [eMs, g3, f1, if_neg r1, if_neg (hb5 b2 f0).1, if_neg r4, if_neg (fun q => r4 (by rw [q]; exact (hb5 b2 f0).2))]
  obtain ⟨s1, s2, s3, s4⟩ := ht5 t2 f1
  have hcs : ∀ t, t < 5 → ∀ t2, t2 < 5 → ((-2 : Int32) - nI t = (-2 : Int32) - nI t2 ↔ t = t2) ∧ (nI t = nI t2 ↔ t = t2) := by decide
  obtain ⟨y1, y2⟩ := hcs t g1 t2 f1
  rw [g4, f4, if_neg r2, if_neg s2, if_neg r3] at eC
  rw [g3, f3, if_neg r1, if_neg s1, if_neg r4] at eMs
  by_cases et : t = t2
  · rw [if_pos (y2.mpr et)] at eC
    rw [if_pos (y1.mpr et), g6, f6] at eMs
    have neg : ∀ a b : Int32, a < 0 ∨ b < 0 → ∀ q, F_X6_hasPlaces q a b σ = some (0, σ) := fun a b hab q => C_hasPn a b hab
    have out : ∀ q : Int32, (a4 < 0 ∨ a1 < 0 ∨ a3 < 0) → F_X9_shift (nI k) a1 (nI l) a3 a4 σ = some (-13, σ) := fun q hq => by
      rw [eC]
      by_cases n1 : a1 < 0 ∨ a4 < 0
      · rw [C_hasPn a1 a4 n1]
        rfl
      · have n3 : a3 < 0 := by
          rcases hq with z | z | z
          · exact absurd (Or.inr z) n1
          · exact absurd (Or.inl z) n1
          · exact z
        obtain ⟨f, hf, rfl⟩ := nI_of (fun z => n1 (Or.inl z))
        obtain ⟨n, hn, rfl⟩ := nI_of (fun z => n1 (Or.inr z))
        rw [C_hasP g5 g2 hf hn, clx_s]
        by_cases q : f + n ≤ z
        · rw [if_pos q, if10, C_hasPn a3 _ (Or.inl n3)]
          rfl
        · rw [if_neg q]
          rfl
    by_cases p4 : a4 < 0
    · exact same (-13) (out 0 (Or.inl p4)) (by rw [eMs, if_pos p4])
    by_cases p1 : a1 < 0
    · exact same (-13) (out 0 (Or.inr (Or.inl p1))) (by rw [eMs, if_neg p4, if_pos p1])
    by_cases p3 : a3 < 0
    · exact same (-13) (out 0 (Or.inr (Or.inr p3))) (by rw [eMs, if_neg p4, if_neg p1, if_pos p3])
    obtain ⟨n, hn, rfl⟩ := nI_of p4
    obtain ⟨f, hf, rfl⟩ := nI_of p1
    obtain ⟨g, hg, rfl⟩ := nI_of p3
    rw [C_hasP g5 g2 hf hn, clx_s] at eC
    rw [if_neg p4, if_neg p1, if_neg p3, ifI (sub_ltI (by omega) hn hf), ifI (le_subI (by omega) hn hg)] at eMs
    by_cases q1 : f + n ≤ z
    · rw [if_pos q1, if10, C_hasP f5 f2 hg hn, clx_s] at eC
      rw [if_neg (by omega)] at eMs
      by_cases q2 : g + n ≤ z2
      · rw [if_pos q2, if10] at eC
        obtain ⟨σ1, c1, c2, c3, c4⟩ := C_copyL (k := k) (l := l) (σ := σ) (show f + n ≤ 60 by omega) (show g + n ≤ 60 by omega) (fun σ5 => some (nI n, σ5))
        rw [c1] at eC
        obtain ⟨σ2, d1, d2, d3, d4⟩ := M_shift (N := N) (σ := σ1) hN hk hl (show f + n ≤ 60 by omega) (show g + n ≤ 60 by omega)
        have eM1 := eM σ1 c3
        rw [g3, f3, if_neg r1, if_neg s1, if_neg r4, if_pos (y1.mpr et), g6, f6, if_neg p4, if_neg p1, if_neg p3, ifI (sub_ltI (by omega) hn hf), ifI (le_subI (by omega) hn hg), if_neg (by omega), if_pos q2, d1] at eM1
        have eI : ∀ i j, siI σ2 i j = siI σ i j := fun i j => (d3 i j).trans (c3 i j)
        have v16 : ∀ q j, siL σ2 (16 + q) j = siL σ1 (16 + q) j ∨ q = 121 ∨ q = 122 := fun q j => by
          by_cases e : q = 121 ∨ q = 122
          · exact Or.inr e
          · exact Or.inl (d2 (16 + q) j (by omega)).2
        refine ⟨nI n, σ1, σ2, eC, eM1, RelS_shelf nb hl h h1 (by omega) (fun i j _ => eI i j) (fun q hq hql => ⟨eI _ _, eI _ _, fun j => eI _ _, fun j => ?_, fun j hj => ?_⟩) (Or.inr (Or.inr ⟨t2, z2, f1, f2, by rw [eI]; exact f3, by rw [eI]; exact f4, by rw [eI]; exact f5, by rw [eI]; exact f6, fun j hj => ?_⟩)), (c2.le (fun i j q => by unfold regS; omega)).tr (d2.le (fun i j q => by unfold regS; omega))⟩
        · rw [(d2 (16 + q) j (by omega)).2, (c2 (16 + q) j (by omega)).2]
        · rw [d4, if_neg (by omega), (c2 137 _ (by omega)).2]
        · rw [(d2 (16 + l) j (by omega)).2, c4, d4]
          by_cases e : g ≤ j ∧ j < g + n
          · rw [if_pos e, if_pos (by omega), (c2 137 _ (by omega)).2, show 60 * k + f + (60 * l + j - (60 * l + g)) = 60 * k + (f + (j - g)) by omega]
            have := g7 (f + (j - g)) (by omega)
            rw [et] at this
            exact this
          · rw [if_neg e, if_neg (by omega), (c2 137 _ (by omega)).2]
            exact f7 j hj
      · rw [if_neg q2, if_pos rfl] at eC
        rw [if_neg q2] at eMs
        exact same (-13) eC eMs
    · rw [if_neg q1, if_pos rfl] at eC
      rw [if_pos (by omega)] at eMs
      exact same (-13) eC eMs
  · rw [if_neg (fun q => et (y2.mp q))] at eC
    rw [if_neg (fun q => et (y1.mp q))] at eMs
    exact same (-12) eC eMs
