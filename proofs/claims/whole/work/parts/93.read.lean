/-! rows of shorts read -/
theorem lgc (x y : Int64) : (lg_cmp x y < 0 ↔ x < y) ∧ (0 < lg_cmp x y ↔ y < x) ∧ (lg_cmp x y = 0 ↔ x = y) := by
  unfold lg_cmp
  rcases Int.lt_trichotomy x.toInt y.toInt with h | h | h
  · have h1 : x < y := Int64.lt_iff_toInt_lt.mpr h
    have h2 : ¬ y < x := fun q => by
      have := Int64.lt_iff_toInt_lt.mp q
      omega
    have h3 : ¬ x = y := fun q => by
      rw [q] at h
      omega
    rw [if_neg h2, if_neg h3]
    exact ⟨⟨fun _ => h1, fun _ => by decide⟩, ⟨fun q => absurd q (by decide), fun q => absurd q h2⟩, ⟨fun q => absurd q (by decide), fun q => absurd q h3⟩⟩
  · have h3 : x = y := Int64.toInt_inj.mp h
    have h1 : ¬ x < y := fun q => by
      have := Int64.lt_iff_toInt_lt.mp q
      omega
    have h2 : ¬ y < x := fun q => by
      have := Int64.lt_iff_toInt_lt.mp q
      omega
    rw [if_neg h2, if_pos h3]
    exact ⟨⟨fun q => absurd q (by decide), fun q => absurd q h1⟩, ⟨fun q => absurd q (by decide), fun q => absurd q h2⟩, ⟨fun _ => h3, fun _ => rfl⟩⟩
  · have h1 : y < x := Int64.lt_iff_toInt_lt.mpr h
    have h2 : ¬ x < y := fun q => by
      have := Int64.lt_iff_toInt_lt.mp q
      omega
    have h3 : ¬ x = y := fun q => by
      rw [q] at h
      omega
    rw [if_pos h1]
    exact ⟨⟨fun q => absurd q (by decide), fun q => absurd q h2⟩, ⟨fun _ => h1, fun _ => by decide⟩, ⟨fun q => absurd q (by decide), fun q => absurd q h3⟩⟩
theorem ltL (x y : Int32) : x.toInt64 < y.toInt64 ↔ x < y := by
  rw [Int64.lt_iff_toInt_lt, Int32.lt_iff_toInt_lt, Int32.toInt_toInt64, Int32.toInt_toInt64]
theorem eqL (x y : Int32) : x.toInt64 = y.toInt64 ↔ x = y := ⟨fun h => by
  have := congrArg Int64.toInt32 h
  rw [Int32.toInt32_toInt64, Int32.toInt32_toInt64] at this
  exact this, fun h => by rw [h]⟩
theorem C_isWithin (x M : Int32) (σ : Sx) : F_X6_isWithin x.toInt64 M σ = F_X10_in x (0 : Int32) M σ := by
  unfold F_X6_isWithin
  rw [M_in]
  have h1 := (lgc x.toInt64 (0 : Int64)).1.trans (show x.toInt64 < (0 : Int64) ↔ x < 0 from ltL x 0)
  have h2 := (lgc x.toInt64 M.toInt64).2.1.trans (ltL M x)
  by_cases q1 : x < 0
  · rw [if_pos (h1.mpr q1), if_pos q1]
  · rw [if_neg (fun z => q1 (h1.mp z)), if_neg q1]
    by_cases q2 : M < x
    · rw [if_pos (h2.mpr q2), if_pos q2]
    · rw [if_neg (fun z => q2 (h2.mp z)), if_neg q2]
theorem M_isPlace_in (x : Int32) (σ : Sx) : F_X10_isPlace x σ = F_X10_in x (0 : Int32) (7 : Int32) σ := by
  unfold F_X10_isPlace
  rw [M_in, clx_s]
  by_cases q1 : x < 0
  · rw [if_pos q1]
    rfl
  · rw [if_neg q1]
    by_cases q2 : (7 : Int32) < x
    · rw [if_pos q2]
      rfl
    · rw [if_neg q2]
      rfl
/-- a loop by leaps -/
theorem lp1J {α : Type} {B : (Int32 → Sx → Option α) → Int32 → Sx → Option α} {σ : Sx} (n : Nat) (g : Nat → Int32) (f : Nat → Bool) (H E : Option α)
    (hB : ∀ (r : Int32 → Sx → Option α) (q : Nat), q < n → B r (g q) σ = if f q = true then H else r (g (q + 1)) σ) (hE : ∀ r : Int32 → Sx → Option α, B r (g n) σ = E)
    {N : Nat} (hN : n < N) : lpx1 B N (g 0) σ = if fsN n f < n then H else E := by
  refine lp1G (Q := fun o => o = if fsN n f < n then H else E) n (fun q x σ' => σ' = σ ∧ x = g q ∧ ∀ j, j < q → f j = false) ?_ hN ⟨rfl, rfl, fun j h => absurd h (Nat.not_lt_zero _)⟩
  rintro r q x σ' hq ⟨rfl, rfl, hl⟩
  rcases Nat.lt_or_ge q n with h | h
  · rw [hB r q h]
    by_cases hf : f q = true
    · left
      rw [if_pos hf, fsN_eq h hf hl, if_pos h]
    · right
      refine ⟨h, _, σ', ⟨rfl, rfl, fun j hj => ?_⟩, by rw [if_neg hf]⟩
      by_cases e : j = q
      · rw [e]
        simpa using hf
      · exact hl j (by omega)
  · left
    have : q = n := by omega
    subst this
    rw [hE, fsN_no hl, if_neg (Nat.lt_irrefl _)]
theorem lp2G {α : Type} {B : (Int32 → Int32 → Sx → Option α) → Int32 → Int32 → Sx → Option α} {Q : Option α → Prop} (n : Nat) (I : Nat → Int32 → Int32 → Sx → Prop)
    (hB : ∀ (r : Int32 → Int32 → Sx → Option α) (k : Nat) (x y : Int32) (σ : Sx), k ≤ n → I k x y σ → Q (B r x y σ) ∨ (k < n ∧ ∃ x' y' σ', I (k + 1) x' y' σ' ∧ B r x y σ = r x' y' σ'))
    {N : Nat} {x y : Int32} {σ : Sx} (hN : n < N) (h : I 0 x y σ) : Q (lpx2 B N x y σ) := by
  have key : ∀ (d N i : Nat) (x y : Int32) (σ : Sx), i + d = n → d < N → I i x y σ → Q (lpx2 B N x y σ) := by
    intro d
    induction d with
    | zero =>
      intro N i x y σ h1 h2 h3
      obtain ⟨N, rfl⟩ : ∃ k, N = k + 1 := ⟨N - 1, by omega⟩
      rw [lpx2_s]
      rcases hB (lpx2 B N) i x y σ (by omega) h3 with h | ⟨h, -⟩
      · exact h
      · omega
    | succ d ih =>
      intro N i x y σ h1 h2 h3
      obtain ⟨N, rfl⟩ : ∃ k, N = k + 1 := ⟨N - 1, by omega⟩
      rw [lpx2_s]
      rcases hB (lpx2 B N) i x y σ (by omega) h3 with h | ⟨h, x', y', σ', h4, h5⟩
      · exact h
      · rw [h5]
        exact ih N (i + 1) x' y' σ' (by omega) (by omega) h4
  exact key n N 0 x y σ (by omega) hN h
theorem RelS.kp {σ σ2 : Sx} (h : RelS σ) (k : Kp rgA σ σ2) : RelS σ2 := by
  obtain ⟨nb, h0, h1, h2, h3, h4⟩ := h
  have eI : ∀ i j, otR i j → siI σ2 i j = siI σ i j := fun i j q => (k i j (fun z => z q)).1
  have eL : ∀ i j, otR i j → siL σ2 i j = siL σ i j := fun i j q => (k i j (fun z => z q)).2
  refine ⟨nb, h0, by rw [eI _ _ (by unfold otR; omega)]; exact h1, by rw [eI _ _ (by unfold otR; omega)]; exact h2, fun j hj => ?_, fun q hq => ?_⟩
  · obtain ⟨a, g1, g2, g3⟩ := h3 j hj
    exact ⟨a, g1, by rw [eI _ _ (by unfold otR; omega)]; exact g2, by rw [eI _ _ (by unfold otR; omega)]; exact g3⟩
  · rcases h4 q hq with ⟨g1, g2⟩ | ⟨b, g0, g1, g2, g3⟩ | ⟨t, z, g1, g2, g3, g4, g5, g6, g7⟩
    · exact Or.inl ⟨by rw [eI _ _ (by unfold otR; omega)]; exact g1, by rw [eI _ _ (by unfold otR; omega)]; exact g2⟩
    · exact Or.inr (Or.inl ⟨b, g0, by rw [eI _ _ (by unfold otR; omega)]; exact g1, by rw [eI _ _ (by unfold otR; omega)]; exact g2, by rw [eI _ _ (by unfold otR; omega), eI _ _ (by unfold otR; omega)]; exact g3⟩)
    · refine Or.inr (Or.inr ⟨t, z, g1, g2, by rw [eI _ _ (by unfold otR; omega)]; exact g3, by rw [eI _ _ (by unfold otR; omega)]; exact g4, by rw [eI _ _ (by unfold otR; omega)]; exact g5, by rw [eI _ _ (by unfold otR; omega)]; exact g6, fun j hj => ?_⟩)
      rw [eL _ _ (by unfold otR; omega), eL _ _ (by unfold otR; omega)]
      exact g7 j hj
/-- n threes told on a shelf -/
def thr (σ : Sx) (k n : Nat) (P M S : Nat → Nat) : Prop := n ≤ 20 ∧ siI σ (10 + k) 1 = nI (3 * n) ∧ siI σ 136 k = nI (3 * n) ∧ ∀ q, q < n → P q < 8 ∧ M q ≤ 999 ∧ S q ≤ 31 ∧ siL σ 137 (60 * k + 3 * q) = (nI (P q)).toInt64 ∧ siL σ 137 (60 * k + (3 * q + 1)) = (nI (M q)).toInt64 ∧ siL σ 137 (60 * k + (3 * q + 2)) = (nI (S q)).toInt64 ∧ siL σ (16 + k) (3 * q) = (nI (P q)).toInt64 ∧ siL σ (16 + k) (3 * q + 1) = (nI (M q)).toInt64 ∧ siL σ (16 + k) (3 * q + 2) = (nI (S q)).toInt64
theorem thr.kp {σ σ2 : Sx} {k n : Nat} {P M S : Nat → Nat} (hk : k < 6) (h : thr σ k n P M S) (kp : Kp rgA σ σ2) : thr σ2 k n P M S := by
  have eI : ∀ i j, otR i j → siI σ2 i j = siI σ i j := fun i j q => (kp i j (fun z => z q)).1
  have eL : ∀ i j, otR i j → siL σ2 i j = siL σ i j := fun i j q => (kp i j (fun z => z q)).2
  refine ⟨h.1, by rw [eI _ _ (by unfold otR; omega)]; exact h.2.1, by rw [eI _ _ (by unfold otR; omega)]; exact h.2.2.1, fun q hq => ?_⟩
  have u1 := eL 137
  have u2 := eL (16 + k)
  rw [u1 _ (by unfold otR; omega), u1 _ (by unfold otR; omega), u1 _ (by unfold otR; omega), u2 _ (by unfold otR; omega), u2 _ (by unfold otR; omega), u2 _ (by unfold otR; omega)]
  exact h.2.2.2 q hq
theorem i32L_1 (a : Nat) : nI a + (2 : Int32) = nI (a + 2) := nI_add a 2
theorem i32L_2 (a : Nat) : nI a + (3 : Int32) = nI (a + 3) := nI_add a 3
theorem two_row {σ : Sx} {N : Nat} (hN : 30 < N) (h : RelS σ) {k : Nat} (hk : k < 6) : (∃ r : Int32, r < 0 ∧ F_X5_narrowBy N k σ = some (r, σ) ∧ F_X10_readFault N (nI k) σ = some (r, σ)) ∨ ∃ n P M S, thr σ k n P M S ∧ F_X6_refusalOfSort k (1 : Int32) σ = some (0, σ) ∧ F_X6_tellsTracks N k σ = some (1, σ) ∧ F_X10_readFault N (nI k) σ = some (0, σ) ∧ siI σ 135 k = -3 := by
  obtain ⟨nb, h0, h1, h2, h3, h4⟩ := h
  rcases h4 k hk with ⟨g1, g2⟩ | ⟨b, g0, g1, g2, g3⟩ | ⟨t, z, g1, g2, g3, g4, g5, g6, g7⟩
  · left
    refine ⟨-11, by decide, ?_, ?_⟩
    · unfold F_X5_narrowBy F_X6_refusalOfSort
      rw [g2, if_pos rfl]
      rfl
    · unfold F_X10_readFault
      rw [aIx_k hk (by decide), g1, if_pos rfl]
  · left
    refine ⟨-12, by decide, ?_, ?_⟩
    · unfold F_X5_narrowBy F_X6_refusalOfSort
      rw [g2, if_neg (by decide), if_neg (by decide)]
      rfl
    · unfold F_X10_readFault
      rw [aIx_k hk (by decide), g1, if_neg (ne_m1 (by omega)), aIx_k hk (by decide), g1, if_neg (fun q => nI_pos (n := b) (by omega) (by rw [q]; decide))]
  · have ht5 : ∀ t, t < 5 → ¬ ((-2 : Int32) - nI t = -1) ∧ ¬ (nI t = (-1 : Int32)) ∧ ((-2 : Int32) - nI t = -3 ↔ t = 1) ∧ (nI t = (1 : Int32) ↔ t = 1) := by decide
    obtain ⟨r1, r2, r3, r4⟩ := ht5 t g1
    by_cases e1 : t = 1
    · have hS : F_X6_refusalOfSort k (1 : Int32) σ = some (0, σ) := by
        unfold F_X6_refusalOfSort
        rw [g4, if_neg r2, if_pos (r4.mpr e1)]
      have hF : F_X10_readFault N (nI k) σ = if jrem (nI z) (3 : Int32) = 0 then lpx1 (B_X10_readFault_L43 N (nI k)) N (0 : Int32) σ else some (-5, σ) := by
        unfold F_X10_readFault
        rw [aIx_k hk (by decide), g3, if_neg r1, aIx_k hk (by decide), g3, if_pos (r3.mpr e1), aIx_k hk (by decide), g6]
      have hT : F_X6_tellsTracks N k σ = if jrem (nI z) (3 : Int32) = 0 then lpx1 (B_X6_tellsTracks_L13 N k) N (0 : Int32) σ else some (0, σ) := by
        unfold F_X6_tellsTracks
        rw [g5]
      rw [rem3 (by omega), ite_eq0 (by omega)] at hF hT
      by_cases e3 : z % 3 = 0
      · rw [if_pos e3] at hF hT
        obtain ⟨n, rfl⟩ : ∃ n, z = 3 * n := ⟨z / 3, by omega⟩
        generalize hx : (fun j => (siL σ 137 (60 * k + j)).toInt32) = x
        have hxv : ∀ j, j < 60 → siL σ 137 (60 * k + j) = (x j).toInt64 ∧ siL σ (16 + k) j = (x j).toInt64 := fun j hj => by
          obtain ⟨q1, q2⟩ := g7 j hj
          have q3 := q2.2.1 e1
          have : (x j).toInt64 = siL σ 137 (60 * k + j) := by
            rw [← hx]
            show (siL σ 137 (60 * k + j)).toInt32.toInt64 = _
            conv => lhs; rw [← q3]
            rw [Int32.toInt32_toInt64]
            exact q3
          exact ⟨this.symm, q1.trans this.symm⟩
        have u2 : ∀ (a : Int32) (m : Nat), (F_X10_in a (0 : Int32) (nI m) σ = some (0, σ) ∧ ¬ (¬ a < 0 ∧ ¬ nI m < a)) ∨ (F_X10_in a (0 : Int32) (nI m) σ = some (1, σ) ∧ (¬ a < 0 ∧ ¬ nI m < a)) := fun a m => by
          rw [M_in]
          by_cases q1 : a < 0
          · exact Or.inl ⟨by rw [if_pos q1], fun z => z.1 q1⟩
          · by_cases q2 : nI m < a
            · exact Or.inl ⟨by rw [if_neg q1, if_pos q2], fun z => z.2 q2⟩
            · exact Or.inr ⟨by rw [if_neg q1, if_neg q2], q1, q2⟩
        generalize hf : (fun q => decide (¬ ((¬ x (3 * q) < 0 ∧ ¬ nI 7 < x (3 * q)) ∧ (¬ x (3 * q + 1) < 0 ∧ ¬ nI 999 < x (3 * q + 1)) ∧ (¬ x (3 * q + 2) < 0 ∧ ¬ nI 31 < x (3 * q + 2))))) = f
        have hfv : ∀ q, f q = false ↔ ((¬ x (3 * q) < 0 ∧ ¬ nI 7 < x (3 * q)) ∧ (¬ x (3 * q + 1) < 0 ∧ ¬ nI 999 < x (3 * q + 1)) ∧ (¬ x (3 * q + 2) < 0 ∧ ¬ nI 31 < x (3 * q + 2))) := fun q => by
          rw [← hf, decide_eq_false_iff_not, Decidable.not_not]
        have hft : ∀ q, ¬ ((¬ x (3 * q) < 0 ∧ ¬ nI 7 < x (3 * q)) ∧ (¬ x (3 * q + 1) < 0 ∧ ¬ nI 999 < x (3 * q + 1)) ∧ (¬ x (3 * q + 2) < 0 ∧ ¬ nI 31 < x (3 * q + 2))) → f q = true := fun q z => by
          cases y : f q
          · exact absurd ((hfv q).mp y) z
          · rfl
        have hM : lpx1 (B_X10_readFault_L43 N (nI k)) N (0 : Int32) σ = if fsN n f < n then some (-5, σ) else some (0, σ) := by
          refine lp1J (σ := σ) n (fun q => nI (3 * q)) f (some (-5, σ)) (some (0, σ)) ?_ ?_ (by omega)
          · intro r q hq
            unfold B_X10_readFault_L43
            rw [aIx_k hk (by decide), g6, if_neg (nI_ge (show 3 * q < 3 * n by omega) (by omega)), mul60L, nI_add, nmx_s, aLx_k (show 60 * k + 3 * q < 360 by omega) (by decide), (hxv _ (show 3 * q < 60 by omega)).1, Int32.toInt32_toInt64, M_isPlace_in, nI_add1, i32L_1, show 60 * k + 3 * q + 1 = 60 * k + (3 * q + 1) by omega, show 60 * k + 3 * q + 2 = 60 * k + (3 * q + 2) by omega, i32L_2]
            rcases u2 (x (3 * q)) 7 with ⟨c1, c2⟩ | ⟨c1, c2⟩
            · rw [show F_X10_in (x (3 * q)) (0 : Int32) (7 : Int32) σ = _ from c1, clx_s, if_pos rfl, if_pos (hft q (fun z => c2 z.1))]
            · rw [show F_X10_in (x (3 * q)) (0 : Int32) (7 : Int32) σ = _ from c1, clx_s, if10, aLx_k (show 60 * k + (3 * q + 1) < 360 by omega) (by decide), (hxv _ (show 3 * q + 1 < 60 by omega)).1, Int32.toInt32_toInt64]
              rcases u2 (x (3 * q + 1)) 999 with ⟨d1, d2⟩ | ⟨d1, d2⟩
              · rw [show F_X10_in (x (3 * q + 1)) (0 : Int32) (999 : Int32) σ = _ from d1, clx_s, if_pos rfl, if_pos (hft q (fun z => d2 z.2.1))]
              · rw [show F_X10_in (x (3 * q + 1)) (0 : Int32) (999 : Int32) σ = _ from d1, clx_s, if10, aLx_k (show 60 * k + (3 * q + 2) < 360 by omega) (by decide), (hxv _ (show 3 * q + 2 < 60 by omega)).1, Int32.toInt32_toInt64]
                rcases u2 (x (3 * q + 2)) 31 with ⟨b1, b2⟩ | ⟨b1, b2⟩
                · rw [show F_X10_in (x (3 * q + 2)) (0 : Int32) (31 : Int32) σ = _ from b1, clx_s, if_pos rfl, if_pos (hft q (fun z => b2 z.2.2))]
                · rw [show F_X10_in (x (3 * q + 2)) (0 : Int32) (31 : Int32) σ = _ from b1, clx_s, if10, if_neg (by rw [(hfv q).mpr ⟨c2, d2, b2⟩]; decide)]
                  rfl
          · intro r
            unfold B_X10_readFault_L43
            rw [aIx_k hk (by decide), g6, if_pos (nI_le (Nat.le_refl _) (by omega))]
        have hC : lpx1 (B_X6_tellsTracks_L13 N k) N (0 : Int32) σ = if fsN n f < n then some (0, σ) else some (1, σ) := by
          refine lp1J (σ := σ) n (fun q => nI (3 * q)) f (some (0, σ)) (some (1, σ)) ?_ ?_ (by omega)
          · intro r q hq
            unfold B_X6_tellsTracks_L13
            rw [i32L_1, g5, if_neg (nI_ge (show 3 * q + 2 < 3 * n by omega) (by omega)), aLx_k (show 3 * q < 60 by omega) (by decide), (hxv _ (show 3 * q < 60 by omega)).2, C_isWithin, nI_add1, i32L_2]
            rcases u2 (x (3 * q)) 7 with ⟨c1, c2⟩ | ⟨c1, c2⟩
            · have c1' : F_X10_in (x (3 * q)) (0 : Int32) (7 : Int32) σ = some (0, σ) := c1
              simp only [c1', clx_s, nmx_s, if_true]
              rw [if_pos (hft q (fun z => c2 z.1))]
            · have c1' : F_X10_in (x (3 * q)) (0 : Int32) (7 : Int32) σ = some (1, σ) := c1
              simp only [c1', clx_s, nmx_s, if10]
              rw [aLx_k (show 3 * q + 1 < 60 by omega) (by decide), (hxv _ (show 3 * q + 1 < 60 by omega)).2, C_isWithin]
              rcases u2 (x (3 * q + 1)) 999 with ⟨d1, d2⟩ | ⟨d1, d2⟩
              · have d1' : F_X10_in (x (3 * q + 1)) (0 : Int32) (999 : Int32) σ = some (0, σ) := d1
                simp only [d1', clx_s, if_true]
                rw [if_pos (hft q (fun z => d2 z.2.1))]
              · have d1' : F_X10_in (x (3 * q + 1)) (0 : Int32) (999 : Int32) σ = some (1, σ) := d1
                simp only [d1', clx_s, if10]
                rw [aLx_k (show 3 * q + 2 < 60 by omega) (by decide), (hxv _ (show 3 * q + 2 < 60 by omega)).2, C_isWithin]
                rcases u2 (x (3 * q + 2)) 31 with ⟨b1, b2⟩ | ⟨b1, b2⟩
                · have b1' : F_X10_in (x (3 * q + 2)) (0 : Int32) (31 : Int32) σ = some (0, σ) := b1
                  simp only [b1', clx_s, if_true]
                  rw [if_pos (hft q (fun z => b2 z.2.2))]
                · have b1' : F_X10_in (x (3 * q + 2)) (0 : Int32) (31 : Int32) σ = some (1, σ) := b1
                  simp only [b1', clx_s, if10]
                  rw [if_neg (by rw [(hfv q).mpr ⟨c2, d2, b2⟩]; decide)]
                  rfl
          · intro r
            unfold B_X6_tellsTracks_L13
            rw [i32L_1, g5, if_pos (nI_le (by omega) (by omega))]
        rw [hM] at hF
        rw [hC] at hT
        by_cases hb : fsN n f < n
        · rw [if_pos hb] at hF hT
          refine Or.inl ⟨-5, by decide, ?_, hF⟩
          unfold F_X5_narrowBy
          rw [hS, clx_s, if_pos rfl, hT, clx_s, if_pos rfl]
        · rw [if_neg hb] at hF hT
          have hall : ∀ q, q < n → ((¬ x (3 * q) < 0 ∧ ¬ nI 7 < x (3 * q)) ∧ (¬ x (3 * q + 1) < 0 ∧ ¬ nI 999 < x (3 * q + 1)) ∧ (¬ x (3 * q + 2) < 0 ∧ ¬ nI 31 < x (3 * q + 2))) := fun q hq => (hfv q).mp (by
            cases z : f q
            · rfl
            · exact absurd (fsN_iff.mpr ⟨q, hq, z⟩) hb)
          refine Or.inr ⟨n, fun q => (x (3 * q)).toNatClampNeg, fun q => (x (3 * q + 1)).toNatClampNeg, fun q => (x (3 * q + 2)).toNatClampNeg, ⟨by omega, g5, g6, fun q hq => ?_⟩, hS, hT, hF, by rw [g3]; exact r3.mpr e1⟩
          obtain ⟨⟨p1, p2⟩, ⟨m1, m2⟩, s1, s2⟩ := hall q hq
          obtain ⟨p, hp, ep⟩ := nI_of2 (M := nI 7) (n := 7) rfl p1 (Int32.not_lt.mp p2)
          obtain ⟨m, hm, em⟩ := nI_of2 (M := nI 999) (n := 999) rfl m1 (Int32.not_lt.mp m2)
          obtain ⟨s, hs, es⟩ := nI_of2 (M := nI 31) (n := 31) rfl s1 (Int32.not_lt.mp s2)
          dsimp only
          rw [(hxv _ (show 3 * q < 60 by omega)).1, (hxv _ (show 3 * q + 1 < 60 by omega)).1, (hxv _ (show 3 * q + 2 < 60 by omega)).1, (hxv _ (show 3 * q < 60 by omega)).2, (hxv _ (show 3 * q + 1 < 60 by omega)).2, (hxv _ (show 3 * q + 2 < 60 by omega)).2, ep, em, es, nI_clamp (show p < 2 ^ 31 by omega), nI_clamp (show m < 2 ^ 31 by omega), nI_clamp (show s < 2 ^ 31 by omega)]
          exact ⟨by omega, hm, hs, rfl, rfl, rfl, rfl, rfl, rfl⟩
      · rw [if_neg e3] at hF hT
        refine Or.inl ⟨-5, by decide, ?_, hF⟩
        unfold F_X5_narrowBy
        rw [hS, clx_s, if_pos rfl, hT, clx_s, if_pos rfl]
    · left
      refine ⟨-12, by decide, ?_, ?_⟩
      · unfold F_X5_narrowBy F_X6_refusalOfSort
        rw [g4, if_neg r2, if_neg (fun q => e1 (r4.mp q))]
        rfl
      · unfold F_X10_readFault
        rw [aIx_k hk (by decide), g3, if_neg r1, aIx_k hk (by decide), g3, if_neg (fun q => e1 (r3.mp q))]
theorem M_rf {σ : Sx} {N k n : Nat} {P M S : Nat → Nat} (hN : 30 < N) (hk : k < 6) (h : thr σ k n P M S) (h3 : siI σ 135 k = -3) : F_X10_readFault N (nI k) σ = some (0, σ) := by
  have hn20 := h.1
  unfold F_X10_readFault
  rw [aIx_k hk (by decide), h3, if_neg (by decide), aIx_k hk (by decide), h3, if_pos rfl, aIx_k hk (by decide), h.2.2.1, rem3 (by omega), show 3 * n % 3 = 0 by omega, if_pos (show nI 0 = (0 : Int32) from rfl)]
  have := lp1J (B := B_X10_readFault_L43 N (nI k)) (σ := σ) n (fun q => nI (3 * q)) (fun _ => false) (some ((0 : Int32), σ)) (some ((0 : Int32), σ)) (fun r q hq => by
    obtain ⟨b1, b2, b3, c1, c2, c3, -⟩ := h.2.2.2 q hq
    have e1 : F_X10_in (nI (P q)) (0 : Int32) (7 : Int32) σ = some (1, σ) := by rw [M_in, if_neg (nI_pos (by omega)), if_neg (show ¬ (7 : Int32) < nI (P q) from nI_nlt (a := 7) (by omega) (by decide))]
    have e2 : F_X10_in (nI (M q)) (0 : Int32) (999 : Int32) σ = some (1, σ) := by rw [M_in, if_neg (nI_pos (by omega)), if_neg (show ¬ (999 : Int32) < nI (M q) from nI_nlt (a := 999) (by omega) (by decide))]
    have e3 : F_X10_in (nI (S q)) (0 : Int32) (31 : Int32) σ = some (1, σ) := by rw [M_in, if_neg (nI_pos (by omega)), if_neg (show ¬ (31 : Int32) < nI (S q) from nI_nlt (a := 31) (by omega) (by decide))]
    unfold B_X10_readFault_L43
    rw [aIx_k hk (by decide), h.2.2.1, if_neg (nI_ge (show 3 * q < 3 * n by omega) (by omega)), mul60L, nI_add, nmx_s, aLx_k (show 60 * k + 3 * q < 360 by omega) (by decide), c1, Int32.toInt32_toInt64, M_isPlace_in, e1, clx_s, if10, nI_add1, i32L_1, show 60 * k + 3 * q + 1 = 60 * k + (3 * q + 1) by omega, show 60 * k + 3 * q + 2 = 60 * k + (3 * q + 2) by omega, aLx_k (show 60 * k + (3 * q + 1) < 360 by omega) (by decide), c2, Int32.toInt32_toInt64, e2, clx_s, if10, aLx_k (show 60 * k + (3 * q + 2) < 360 by omega) (by decide), c3, Int32.toInt32_toInt64, e3, clx_s, if10, i32L_2, if_neg (by decide)]
    rfl) (fun r => by
    unfold B_X10_readFault_L43
    rw [aIx_k hk (by decide), h.2.2.1, if_pos (nI_le (Nat.le_refl _) (by omega))]) (N := N) (by omega)
  refine Eq.trans this ?_
  split <;> rfl
