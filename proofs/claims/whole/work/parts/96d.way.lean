/-! WAYS TOLD -/
def wyP (σ : Sx) (k f ln : Nat) (P : Nat → Nat) : Prop := k < 6 ∧ 1 ≤ ln ∧ ln ≤ 8 ∧ f + ln ≤ 60 ∧ (∃ z, f + ln ≤ z ∧ z ≤ 60 ∧ siI σ 135 k = -2 ∧ siI σ (10 + k) 0 = 0 ∧ siI σ (10 + k) 1 = nI z ∧ siI σ 136 k = nI z) ∧ ∀ j, j < ln → P j < 8 ∧ siL σ (16 + k) (f + j) = (nI (P j)).toInt64 ∧ siL σ 137 (60 * k + (f + j)) = (nI (P j)).toInt64
theorem wyP.kp {σ σ2 : Sx} {k f ln : Nat} {P : Nat → Nat} (h : wyP σ k f ln P) (kp : Kp rgA σ σ2) : wyP σ2 k f ln P := by
  obtain ⟨hk, h1, h2, h3, ⟨z, z1, z2, z3, z4, z5, z6⟩, h4⟩ := h
  have eI : ∀ i j, otR i j → siI σ2 i j = siI σ i j := fun i j q => (kp i j (fun z => z q)).1
  have eL : ∀ i j, otR i j → siL σ2 i j = siL σ i j := fun i j q => (kp i j (fun z => z q)).2
  refine ⟨hk, h1, h2, h3, ⟨z, z1, z2, ?_, ?_, ?_, ?_⟩, fun j hj => ?_⟩
  · rw [eI _ _ (by unfold otR; omega)]
    exact z3
  · rw [eI _ _ (by unfold otR; omega)]
    exact z4
  · rw [eI _ _ (by unfold otR; omega)]
    exact z5
  · rw [eI _ _ (by unfold otR; omega)]
    exact z6
  · rw [eL 137 _ (by unfold otR; omega), eL (16 + k) _ (by unfold otR; omega)]
    exact h4 j hj
def preW (N : Nat) (a0 a1 : Int32) (K : Sx → Option (Int32 × Sx)) (σ0 : Sx) : Option (Int32 × Sx) := clx (F_X10_isShelf a0 σ0) (fun v1 σ1 => (if v1 = 0 then some ((-1 : Int32), σ1) else clx (F_X10_isIn a1 σ1) (fun v2 σ2 => (if v2 = 0 then some ((-1 : Int32), σ2) else clx (F_X10_rowFault a0 σ2) (fun v3 σ3 => (if 0 ≤ v3 then clx (F_X10_hasWay N a0 a1 σ3) (fun v4 σ4 => (if v4 = 0 then some ((-1 : Int32), σ4) else K σ4)) else clx (F_X10_rowFault a0 σ3) (fun v6 σ11 => some (v6, σ11))))))))
theorem M_isIn {x : Nat} (hx : x < 2 ^ 31) (σ : Sx) : F_X10_isIn (nI x) σ = some ((if x % 10 < 1 then 0 else if 8 < x % 10 then 0 else 1), σ) := by
  unfold F_X10_isIn
  rw [if_neg (nI_pos hx), rem10 hx, M_in, clx_s, show (1 : Int32) = nI 1 from rfl, show (8 : Int32) = nI 8 from rfl]
  rw [ite_lt (by omega) (by decide), ite_lt (by decide) (by omega)]
  by_cases h1 : x % 10 < 1
  · rw [if_pos h1, if_pos rfl]
  · rw [if_neg h1]
    by_cases h2 : 8 < x % 10
    · rw [if_pos h2, if_pos rfl]
    · rw [if_neg h2, if_neg (by decide)]
abbrev okP (y : Int32) : Prop := ¬ y < 0 ∧ ¬ nI 7 < y
theorem M_isPlace_ok (y : Int32) (σ : Sx) : F_X10_isPlace y σ = some ((if okP y then 1 else 0), σ) := by
  rw [M_isPlace_in, M_in]
  unfold okP
  by_cases h1 : y < 0
  · rw [if_pos h1, if_neg (fun q => q.1 h1)]
  · by_cases h2 : (7 : Int32) < y
    · rw [if_neg h1, if_pos h2, if_neg (fun q => q.2 h2)]
    · rw [if_neg h1, if_neg h2, if_pos ⟨h1, h2⟩]
theorem lg_ok (y : Int32) : (lg_cmp y.toInt64 0 < 0 ↔ y < 0) ∧ (lg_cmp y.toInt64 8 < 0 ↔ ¬ nI 7 < y) := by
  have e0 : (0 : Int64).toInt = 0 := rfl
  have e8 : (8 : Int64).toInt = 8 := rfl
  have z0 : (0 : Int32).toInt = 0 := rfl
  refine ⟨?_, ?_⟩
  · rw [(lgc _ _).1, Int64.lt_iff_toInt_lt, Int32.lt_iff_toInt_lt, Int32.toInt_toInt64, e0, z0]
  · rw [(lgc _ _).1, Int64.lt_iff_toInt_lt, Int32.lt_iff_toInt_lt, Int32.toInt_toInt64, e8, nI_toInt (by decide)]
    omega
theorem dN {p : Prop} [Decidable p] : (decide (¬ p) = true) ↔ ¬ p := decide_eq_true_iff
theorem M_hasWay {σ : Sx} {N k f ln z : Nat} (hN : 70 < N) (hk : k < 6) (hl : ln ≤ 9) (h10 : ln < 10) (hf : 10 * f + ln < 2 ^ 31) (hz : z ≤ 60) (h : siI σ 136 k = nI z) (x : Nat → Int32) (hx : ∀ j, j < 60 → siL σ 137 (60 * k + j) = (x j).toInt64) : F_X10_hasWay N (nI k) (nI (10 * f + ln)) σ = some ((if f + ln ≤ z then (if fsN ln (fun j => decide (¬ okP (x (f + j)))) < ln then 0 else 1) else 0), σ) := by
  have ed : (10 * f + ln) / 10 = f := by omega
  have em : (10 * f + ln) % 10 = ln := by omega
  unfold F_X10_hasWay
  rw [aIx_k hk (by decide), h, div10 hf, rem10 hf, ed, em, nI_add, ite_le (by omega) (by omega)]
  by_cases hfz : f + ln ≤ z
  · rw [if_pos hfz, if_pos hfz]
    have := lp1K (B := B_X10_hasWay_L22 N (nI k) (nI (10 * f + ln))) (σ := σ) ln 0 (fun j => decide (¬ okP (x (f + j)))) (some ((0 : Int32), σ)) (some ((1 : Int32), σ)) (fun r j _ hj => by
      unfold B_X10_hasWay_L22
      rw [div10 hf, rem10 hf, ed, em, ite_le (by omega) (by omega), if_neg (by omega), mul60L, nI_add, nI_add, aLx_k (by omega) (by decide), Nat.add_assoc, hx _ (by omega), Int32.toInt32_toInt64, M_isPlace_ok, clx_s, nI_add1]
      by_cases q : okP (x (f + j))
      · rw [if_pos q, if10, if_neg (fun z => (dN (p := okP (x (f + j)))).mp z q)]
      · rw [if_neg q, if_pos rfl, if_pos ((dN (p := okP (x (f + j)))).mpr q)]) (fun r j h1 h2 => by
      unfold B_X10_hasWay_L22
      rw [rem10 hf, em, ite_le (by omega) (by omega), if_pos h1]) (N := N) (by omega)
    refine Eq.trans this ?_
    rw [Nat.sub_zero]
    simp only [Nat.zero_add]
    split <;> rfl
  · rw [if_neg hfz, if_neg hfz]
theorem C_tells {σ : Sx} {N k f ln z : Nat} (hN : 70 < N) (hk : k < 6) (hl : ln ≤ 9) (hf : 10 * f + ln < 2 ^ 31) (hz : z ≤ 60) (h : siI σ (10 + k) 1 = nI z) (x : Nat → Int32) (hx : ∀ j, j < 60 → siL σ (16 + k) j = (x j).toInt64) : F_X6_tellsPlaces N k (nI f) (nI ln) σ = some ((if f + ln ≤ z then (if fsN ln (fun j => decide (¬ okP (x (f + j)))) < ln then 0 else 1) else 0), σ) := by
  unfold F_X6_tellsPlaces F_X6_hasPlaces
  rw [if_neg (nI_pos (by omega)), if_neg (nI_pos (by omega)), h, ite_lt (by omega) (by omega)]
  by_cases h1 : z < f
  · rw [if_pos h1, clx_s, if_pos rfl, if_neg (by omega)]
  rw [if_neg h1, pk_sub (by omega), ite_lt (by omega) (by omega)]
  by_cases h2 : z - f < ln
  · rw [if_pos h2, clx_s, if_pos rfl, if_neg (by omega)]
  rw [if_neg h2, clx_s, if10, if_pos (show f + ln ≤ z by omega)]
  have := lp1K (B := B_X6_tellsPlaces_L13 N k (nI f) (nI ln)) (σ := σ) (f + ln) f (fun j => decide (¬ okP (x j))) (some ((0 : Int32), σ)) (some ((1 : Int32), σ)) (fun r j _ hj => by
    unfold B_X6_tellsPlaces_L13
    rw [nI_add, ite_le (by omega) (by omega), if_neg (by omega), aLx_k (by omega) (by decide), hx _ (by omega), nI_add1]
    by_cases q1 : x j < 0
    · rw [if_pos ((lg_ok _).1.mpr q1), if_pos ((dN (p := okP (x j))).mpr (fun q => q.1 q1))]
    · rw [if_neg (fun q => q1 ((lg_ok _).1.mp q)), aLx_k (by omega) (by decide), hx _ (by omega)]
      by_cases q2 : nI 7 < x j
      · rw [if_neg (fun q => (lg_ok _).2.mp q q2), if_pos ((dN (p := okP (x j))).mpr (fun q => q.2 q2))]
      · rw [if_pos ((lg_ok _).2.mpr q2), if_neg (fun z => (dN (p := okP (x j))).mp z ⟨q1, q2⟩)]) (fun r j h1 h2 => by
    unfold B_X6_tellsPlaces_L13
    rw [nI_add, ite_le (by omega) (by omega), if_pos h1]) (N := N) (by omega)
  refine Eq.trans this ?_
  rw [Nat.add_sub_cancel_left]
  split <;> rfl
theorem M_pre {σ : Sx} {N k f ln : Nat} {P : Nat → Nat} (hN : 70 < N) (h : wyP σ k f ln P) (hx : ∃ x : Nat → Int32, (∀ j, j < 60 → siL σ 137 (60 * k + j) = (x j).toInt64)) (K : Sx → Option (Int32 × Sx)) : preW N (nI k) (nI (10 * f + ln)) K σ = K σ := by
  obtain ⟨hk, h1, h2, h3, ⟨z, z1, z2, z3, z4, z5, z6⟩, h4⟩ := h
  obtain ⟨x, hx⟩ := hx
  unfold preW
  rw [M_isShelf, if_neg (nI_pos (by omega)), if_neg (show ¬ (6 : Int32) ≤ nI k from nI_ge hk (by decide)), clx_s, if10, M_isIn (by omega), if_neg (by omega), if_neg (by omega), clx_s, if10, F_X10_rowFault, aIx_k hk (by decide), z3, if_neg (by decide), aIx_k hk (by decide), z3, if_pos rfl, clx_s, if_pos (by decide), M_hasWay hN hk (by omega) (by omega) (by omega) z2 z6 x hx, if_pos z1, if_neg, clx_s, if10]
  rw [fsN_iff]
  rintro ⟨j, hj, q⟩
  have q1 : ¬ okP (x (f + j)) := of_decide_eq_true q
  obtain ⟨p1, -, p2⟩ := h4 j hj
  have e : x (f + j) = nI (P j) := by
    rw [hx (f + j) (by omega)] at p2
    have := congrArg Int64.toInt32 p2
    rwa [Int32.toInt32_toInt64, Int32.toInt32_toInt64] at this
  apply q1
  rw [e]
  exact ⟨nI_pos (by omega), nI_nlt (a := 7) (by omega) (by decide)⟩
theorem two_wayT {σ : Sx} {N : Nat} (hN : 70 < N) (h : RelS σ) (a0 a1 : Int32) : (∃ r : Int32, r ≠ 0 ∧ F_X9_wayRefusal N a0 a1 σ = some (r, σ) ∧ ∀ K, preW N a0 a1 K σ = some (r, σ)) ∨ ∃ k f ln P, wyP σ k f ln P ∧ (∃ x : Nat → Int32, (∀ j, j < 60 → siL σ 137 (60 * k + j) = (x j).toInt64)) ∧ a0 = nI k ∧ a1 = nI (10 * f + ln) ∧ F_X9_wayRefusal N a0 a1 σ = some (0, σ) := by
  obtain ⟨nb, b0, b1, b2, b3, b4⟩ := h
  unfold F_X9_wayRefusal
  rcases arg_n a0 (n := 6) (by decide) with ha | ⟨ha, ha2⟩ | ⟨k, hk, rfl⟩
  · refine Or.inl ⟨-1, by decide, ?_, fun K => ?_⟩
    · rw [C_isShelf, if_pos ha]
      rfl
    · rw [preW, M_isShelf, if_pos ha]
      rfl
  · refine Or.inl ⟨-1, by decide, ?_, fun K => ?_⟩
    · rw [C_isShelf, if_neg ha, if_pos (show (6 : Int32) ≤ a0 from ha2)]
      rfl
    · rw [preW, M_isShelf, if_neg ha, if_pos (show (6 : Int32) ≤ a0 from ha2)]
      rfl
  have eC : F_X9_isShelf (nI k) σ = some (1, σ) := by rw [C_isShelf, if_neg (nI_pos (by omega)), if_neg (show ¬ (6 : Int32) ≤ nI k from nI_ge hk (by decide))]
  have eM : F_X10_isShelf (nI k) σ = some (1, σ) := by rw [M_isShelf, if_neg (nI_pos (by omega)), if_neg (show ¬ (6 : Int32) ≤ nI k from nI_ge hk (by decide))]
  rw [eC, clx_s, if10]
  by_cases h0 : a1 < 0
  · refine Or.inl ⟨-1, by decide, by rw [if_pos h0], fun K => ?_⟩
    rw [preW, eM, clx_s, if10, F_X10_isIn, if_pos h0]
    rfl
  obtain ⟨x, hx, rfl⟩ := nI_of h0
  obtain ⟨f, ln, rfl, hln⟩ : ∃ f ln, x = 10 * f + ln ∧ ln < 10 := ⟨x / 10, x % 10, by omega, by omega⟩
  have ed : (10 * f + ln) / 10 = f := by omega
  have em : (10 * f + ln) % 10 = ln := by omega
  have eI := M_isIn hx σ
  rw [em] at eI
  rw [if_neg h0, rem10 hx, em, show (1 : Int32) = nI 1 from rfl, show (8 : Int32) = nI 8 from rfl, ite_lt (by omega) (by decide), ite_le (by omega) (by decide), div10 hx, ed]
  by_cases hl1 : ln < 1
  · refine Or.inl ⟨-1, by decide, by rw [if_pos hl1]; rfl, fun K => ?_⟩
    rw [preW, eM, clx_s, if10, eI, if_pos hl1]
    rfl
  rw [if_neg hl1] at eI
  rw [if_neg hl1]
  by_cases hl8 : 8 < ln
  · refine Or.inl ⟨-1, by decide, by rw [if_neg (by omega)]; rfl, fun K => ?_⟩
    rw [preW, eM, clx_s, if10, eI, if_pos hl8]
    rfl
  rw [if_neg hl8] at eI
  rw [if_pos (show ln ≤ 8 by omega), aRx_k hk (by decide)]
  rcases b4 k hk with ⟨g1, g2⟩ | ⟨b, g0, g1, g2, g3⟩ | ⟨t, z, g1, g2, g3, g4, g5, g6, g7⟩
  · refine Or.inl ⟨-11, by decide, ?_, fun K => ?_⟩
    · rw [F_X6_refusalOfSort, g2, if_pos rfl]
      rfl
    · rw [preW, eM, clx_s, if10, eI, clx_s, if10, show F_X10_rowFault (nI k) σ = some (-11, σ) by rw [F_X10_rowFault, aIx_k hk (by decide), g1, if_pos rfl], clx_s, if_neg (by decide), show F_X10_rowFault (nI k) σ = some (-11, σ) by rw [F_X10_rowFault, aIx_k hk (by decide), g1, if_pos rfl]]
      rfl
  · refine Or.inl ⟨-12, by decide, ?_, fun K => ?_⟩
    · rw [F_X6_refusalOfSort, g2, if_neg (by decide), if_neg (by decide)]
      rfl
    · rw [preW, eM, clx_s, if10, eI, clx_s, if10, show F_X10_rowFault (nI k) σ = some (-12, σ) by rw [F_X10_rowFault, aIx_k hk (by decide), g1, if_neg (ne_m1 (by omega)), aIx_k hk (by decide), g1, if_neg (fun q => nI_pos (n := b) (by omega) (by rw [q]; decide))], clx_s, if_neg (by decide), show F_X10_rowFault (nI k) σ = some (-12, σ) by rw [F_X10_rowFault, aIx_k hk (by decide), g1, if_neg (ne_m1 (by omega)), aIx_k hk (by decide), g1, if_neg (fun q => nI_pos (n := b) (by omega) (by rw [q]; decide))]]
      rfl
  have ht5 : ∀ t, t < 5 → ¬ ((-2 : Int32) - nI t = -1) ∧ ¬ (nI t = (-1 : Int32)) ∧ ((-2 : Int32) - nI t = -2 ↔ t = 0) ∧ (nI t = (0 : Int32) ↔ t = 0) := by decide
  obtain ⟨r1, r2, r3, r4⟩ := ht5 t g1
  by_cases e1 : t = 0
  · have hv : ∃ x : Nat → Int32, ∀ j, j < 60 → siL σ 137 (60 * k + j) = (x j).toInt64 ∧ siL σ (16 + k) j = (x j).toInt64 := by
      refine ⟨fun j => (siL σ 137 (60 * k + j)).toInt32, fun j hj => ?_⟩
      obtain ⟨q1, q2⟩ := g7 j hj
      have q3 := q2.1 e1
      have : (siL σ 137 (60 * k + j)).toInt32.toInt64 = siL σ 137 (60 * k + j) := by
        conv => lhs; rw [← q3]
        rw [Int32.toInt32_toInt64]
        exact q3
      exact ⟨this.symm, q1.trans this.symm⟩
    obtain ⟨x, hxv⟩ := hv
    have eR : F_X6_refusalOfSort k (0 : Int32) σ = some (0, σ) := by rw [F_X6_refusalOfSort, g4, if_neg r2, if_pos (r4.mpr e1)]
    have eF : F_X10_rowFault (nI k) σ = some (0, σ) := by rw [F_X10_rowFault, aIx_k hk (by decide), g3, if_neg r1, aIx_k hk (by decide), g3, if_pos (r3.mpr e1)]
    have eT := C_tells (N := N) hN hk (by omega) hx g2 g5 x (fun j hj => (hxv j hj).2)
    have eW := M_hasWay (N := N) hN hk (by omega) hln hx g2 g6 x (fun j hj => (hxv j hj).1)
    rw [eR, clx_s, if_pos rfl, aRx_k hk (by decide), eT]
    by_cases hgood : f + ln ≤ z ∧ ¬ fsN ln (fun j => decide (¬ okP (x (f + j)))) < ln
    · right
      have hall : ∀ j, j < ln → okP (x (f + j)) := fun j hj => by
        rcases Decidable.em (okP (x (f + j))) with q | q
        · exact q
        · exact absurd (fsN_iff.mpr ⟨j, hj, decide_eq_true q⟩) hgood.2
      refine ⟨k, f, ln, fun j => (x (f + j)).toNatClampNeg, ⟨hk, by omega, by omega, by omega, ⟨z, hgood.1, g2, by rw [g3]; exact r3.mpr e1, by rw [g4]; exact r4.mpr e1, g5, g6⟩, fun j hj => ?_⟩, ⟨x, fun j hj => (hxv j hj).1⟩, rfl, rfl, ?_⟩
      · obtain ⟨p, hp, ep⟩ := nI_of2 (M := nI 7) (n := 7) rfl (hall j hj).1 (Int32.not_lt.mp (hall j hj).2)
        dsimp only
        rw [(hxv _ (show f + j < 60 by omega)).1, (hxv _ (show f + j < 60 by omega)).2, ep, nI_clamp (by omega)]
        exact ⟨by omega, rfl, rfl⟩
      · rw [if_pos hgood.1, if_neg hgood.2, clx_s, if10]
    · have hz : (if f + ln ≤ z then (if fsN ln (fun j => decide (¬ okP (x (f + j)))) < ln then (0 : Int32) else 1) else 0) = 0 := by
        by_cases q1 : f + ln ≤ z
        · by_cases q2 : fsN ln (fun j => decide (¬ okP (x (f + j)))) < ln
          · rw [if_pos q1, if_pos q2]
          · exact absurd ⟨q1, q2⟩ hgood
        · rw [if_neg q1]
      rw [hz] at eW ⊢
      refine Or.inl ⟨-1, by decide, rfl, fun K => ?_⟩
      rw [preW, eM, clx_s, if10, eI, clx_s, if10, eF, clx_s, if_pos (by decide), eW]
      rfl
  · refine Or.inl ⟨-12, by decide, ?_, fun K => ?_⟩
    · rw [F_X6_refusalOfSort, g4, if_neg r2, if_neg (fun q => e1 (r4.mp q))]
      rfl
    · rw [preW, eM, clx_s, if10, eI, clx_s, if10, show F_X10_rowFault (nI k) σ = some (-12, σ) by rw [F_X10_rowFault, aIx_k hk (by decide), g3, if_neg r1, aIx_k hk (by decide), g3, if_neg (fun q => e1 (r3.mp q))], clx_s, if_neg (by decide), show F_X10_rowFault (nI k) σ = some (-12, σ) by rw [F_X10_rowFault, aIx_k hk (by decide), g3, if_neg r1, aIx_k hk (by decide), g3, if_neg (fun q => e1 (r3.mp q))]]
      rfl
