/-! CHANGES noted -/
theorem aRx_0 {α : Type} {n : Nat} {K : Nat → Option α} (h : 0 < n) (hn : n < 2 ^ 31) : aRx n (0 : Int32) K = K 0 := aRx_k (k := 0) h hn
theorem aRx_1 {α : Type} {n : Nat} {K : Nat → Option α} (h : 1 < n) (hn : n < 2 ^ 31) : aRx n (1 : Int32) K = K 1 := aRx_k (k := 1) h hn
theorem aRx_2 {α : Type} {n : Nat} {K : Nat → Option α} (h : 2 < n) (hn : n < 2 ^ 31) : aRx n (2 : Int32) K = K 2 := aRx_k (k := 2) h hn
theorem aRx_3 {α : Type} {n : Nat} {K : Nat → Option α} (h : 3 < n) (hn : n < 2 ^ 31) : aRx n (3 : Int32) K = K 3 := aRx_k (k := 3) h hn
theorem rng_of {l u : Nat} (hu : u < 2 ^ 30) (hl : l ≤ u) (a : Int32) (σ : Sx) : F_X10_in a (nI l) (nI u) σ = some (0, σ) ∧ (a < nI l ∨ nI u < a) ∨ ∃ v, l ≤ v ∧ v ≤ u ∧ a = nI v ∧ F_X10_in a (nI l) (nI u) σ = some (1, σ) ∧ ¬ a < nI l ∧ ¬ nI u < a := by
  rw [M_in]
  by_cases h1 : a < nI l
  · left
    rw [if_pos h1]
    exact ⟨rfl, Or.inl h1⟩
  by_cases h2 : nI u < a
  · left
    rw [if_neg h1, if_pos h2]
    exact ⟨rfl, Or.inr h2⟩
  right
  rw [if_neg h1, if_neg h2]
  have h0 : ¬ a < 0 := by
    intro q
    apply h1
    rw [Int32.lt_iff_toInt_lt] at q ⊢
    rw [nI_toInt (by omega)]
    have : (0 : Int32).toInt = 0 := rfl
    omega
  obtain ⟨v, hv, rfl⟩ := nI_of h0
  refine ⟨v, ?_, ?_, rfl, rfl, h1, h2⟩
  · rw [nI_ltI hv (by omega)] at h1
    omega
  · rw [nI_ltI (by omega) hv] at h2
    omega
theorem C_may {what : Nat} (hw : what ≤ 3) (a : Int32) (σ : Sx) : F_X8_mayBecome (nI what) a σ = F_X10_in a (nI (if what = 3 then 1 else 0)) (nI (if what = 0 then 60 else if what = 1 then 200 else if what = 2 then 99 else 30)) σ := by
  unfold F_X8_mayBecome
  rw [M_in, if_neg (nI_pos (by omega)), if_neg (show ¬ (3 : Int32) < nI what from fun q => absurd ((nI_ltI (by decide) (by omega)).mp (show nI 3 < nI what from q)) (by omega)), aSx_k (show what < 4 by omega) (by decide), aSx_k (show what < 4 by omega) (by decide)]
  have e1 : [(0 : Int32), 0, 0, 1].getD what 0 = nI (if what = 3 then 1 else 0) := by
    match what, hw with
    | 0, _ => rfl
    | 1, _ => rfl
    | 2, _ => rfl
    | 3, _ => rfl
  have e2 : [(60 : Int32), 200, 99, 30].getD what 0 = nI (if what = 0 then 60 else if what = 1 then 200 else if what = 2 then 99 else 30) := by
    match what, hw with
    | 0, _ => rfl
    | 1, _ => rfl
    | 2, _ => rfl
    | 3, _ => rfl
  rw [e1, e2]
  by_cases h1 : a < nI (if what = 3 then 1 else 0)
  · rw [if_pos h1, if_pos h1]
  · rw [if_neg h1, if_neg h1]
    by_cases h2 : nI (if what = 0 then 60 else if what = 1 then 200 else if what = 2 then 99 else 30) < a
    · rw [if_pos h2, if_pos h2]
    · rw [if_neg h2, if_neg h2]
theorem M_may {what : Nat} (hw : what ≤ 3) (a : Int32) (σ : Sx) : F_X10_mayBe (nI what) a σ = F_X10_in a (nI (if what = 3 then 1 else 0)) (nI (if what = 0 then 60 else if what = 1 then 200 else if what = 2 then 99 else 30)) σ := by
  have z : ∀ b c : Int32, clx (F_X10_in a b c σ) (fun v σ1 => rZx v σ1) = F_X10_in a b c σ := fun b c => by
    rw [M_in, clx_s]
    split
    · rfl
    · split <;> rfl
  unfold F_X10_mayBe
  match what, hw with
  | 0, _ => rw [if_pos (show nI 0 = (0 : Int32) from rfl), z]; rfl
  | 1, _ => rw [if_neg (show ¬ nI 1 = (0 : Int32) by decide), if_pos (show nI 1 = (1 : Int32) from rfl), z]; rfl
  | 2, _ => rw [if_neg (show ¬ nI 2 = (0 : Int32) by decide), if_neg (show ¬ nI 2 = (1 : Int32) by decide), if_pos (show nI 2 = (2 : Int32) from rfl), z]; rfl
  | 3, _ => rw [if_neg (show ¬ nI 3 = (0 : Int32) by decide), if_neg (show ¬ nI 3 = (1 : Int32) by decide), if_neg (show ¬ nI 3 = (2 : Int32) by decide), z]; rfl
/-- what may be told of it: both say so, wherever they look -/
theorem two_may {W : Wd} {what num : Nat} (h : okT2 W what num) (a : Int32) : (∀ σ, F_X8_mayBecome (nI what) a σ = some (0, σ) ∧ F_X10_mayBe (nI what) a σ = some (0, σ)) ∨ ∃ v, okE (W 0 0) what num v ∧ a = nI v ∧ ∀ σ, F_X8_mayBecome (nI what) a σ = some (1, σ) ∧ F_X10_mayBe (nI what) a σ = some (1, σ) := by
  have hw : what ≤ 3 := by unfold okT2 at h; omega
  have hb : (if what = 0 then 60 else if what = 1 then 200 else if what = 2 then 99 else 30) < 2 ^ 30 ∧ (if what = 3 then 1 else 0) ≤ (if what = 0 then 60 else if what = 1 then 200 else if what = 2 then 99 else 30) := by
    match what, hw with
    | 0, _ => decide
    | 1, _ => decide
    | 2, _ => decide
    | 3, _ => decide
  by_cases hq : a < nI (if what = 3 then 1 else 0) ∨ nI (if what = 0 then 60 else if what = 1 then 200 else if what = 2 then 99 else 30) < a
  · left
    intro σ
    rw [C_may hw, M_may hw]
    rcases rng_of hb.1 hb.2 a σ with ⟨e, -⟩ | ⟨v, h1, h2, h3, h4, h5, h6⟩
    · exact ⟨e, e⟩
    · rcases hq with q | q
      · exact absurd q h5
      · exact absurd q h6
  · right
    have key : ∀ σ, ∃ v, (if what = 3 then 1 else 0) ≤ v ∧ v ≤ (if what = 0 then 60 else if what = 1 then 200 else if what = 2 then 99 else 30) ∧ a = nI v ∧ F_X8_mayBecome (nI what) a σ = some (1, σ) ∧ F_X10_mayBe (nI what) a σ = some (1, σ) := fun σ => by
      rw [C_may hw, M_may hw]
      rcases rng_of hb.1 hb.2 a σ with ⟨e, q⟩ | ⟨v, h1, h2, h3, h4, h5, h6⟩
      · exact absurd q hq
      · exact ⟨v, h1, h2, h3, h4, h4⟩
    obtain ⟨v, h1, h2, h3, -, -⟩ := key (fun _ _ => 0, fun _ _ => 0)
    refine ⟨v, ?_, h3, fun σ => ?_⟩
    · unfold okT2 at h
      unfold okE
      split at h1 <;> split at h2 <;> (try split at h2) <;> (try split at h2) <;> omega
    · obtain ⟨v2, -, -, -, q1, q2⟩ := key σ
      exact ⟨q1, q2⟩
theorem okE_val {W : Wd} (ok : okW W) {what num : Nat} (h : okT2 W what num) : okE (W 0 0) what num (valT W what num) := by
  rcases h with ⟨h1, h2⟩ | ⟨rfl, h2, h3, h4, h5⟩
  · obtain ⟨b1, b2, b3, -⟩ := ok.2.1 num h2
    unfold okE valT
    match what, h1 with
    | 0, _ => rw [if_pos rfl]; omega
    | 1, _ => rw [if_neg (by decide), if_pos rfl]; omega
    | 2, _ => rw [if_neg (by decide), if_neg (by decide), if_pos rfl]; omega
  · obtain ⟨b1, b2⟩ := ok.2.2.2.2.2 _ _ h3 h4 h5
    unfold okE valT
    rw [if_neg (by decide), if_neg (by decide), if_neg (by decide)]
    omega
theorem M_isOne {W : Wd} {σ : Sx} (ok : okW W) (g : siI σ 103 1 = nI (W 0 0)) {what num : Nat} (h : okT2 W what num) : F_X10_isOne (nI num) (nI what) σ = some (1, σ) := by
  have hn := ok.nw
  unfold F_X10_isOne
  rcases h with ⟨h1, h2⟩ | ⟨rfl, h2, h3, h4, h5⟩
  · rw [M_in, clx_s, if_neg (nI_pos (by omega)), if_neg (show ¬ (2 : Int32) < nI what from fun q => absurd ((nI_ltI (by decide) (by omega)).mp (show nI 2 < nI what from q)) (by omega)), if10, M_isWalker ok _ g, if_neg (nI_pos (by omega)), ite_le (by omega) (by omega), if_neg (by omega)]
    rfl
  · have e : ∀ p, p < 8 → F_X10_isPlace (nI p) σ = some (1, σ) := fun p hp => by
      rcases two_place (nI p) σ with ⟨e1, e2⟩ | ⟨p2, hp2, ep, e1, e2⟩
      · rw [M_isPlace_in, M_in, if_neg (nI_pos (by omega)), if_neg (show ¬ (7 : Int32) < nI p from fun q => absurd ((nI_ltI (by decide) (by omega)).mp (show nI 7 < nI p from q)) (by omega))]
      · exact e2
    rw [M_in, clx_s, if_neg (show ¬ nI 3 < (0 : Int32) by decide), if_pos (show (2 : Int32) < nI 3 by decide), if_pos rfl, if_pos (show nI 3 = (3 : Int32) from rfl), if_neg (nI_pos (by omega)), div10 (by omega), rem10 (by omega), e _ h3, clx_s, if10, e _ h4, clx_s, if10, ite_eq (by omega) (by omega), if_neg h5]
def shf (a j : Nat) : Nat := if a = 40 then j + 1 else j
def bbf (a : Nat) : Nat := if a = 40 then 39 else a
theorem C_drop {N : Nat} {σ : Sx} (hN : 8 < N) : ∃ σ2, F_X1_dropOldest N σ = some ((), σ2) ∧ Kp (fun i j => (97 ≤ i ∧ i ≤ 100) ∨ (i = 7 ∧ j = 1)) σ σ2 ∧ (∀ c, c < 4 → ∀ j, j < 39 → siI σ2 (97 + c) j = siI σ (97 + c) (j + 1)) ∧ siI σ2 7 1 = nI 39 := by
  unfold F_X1_dropOldest
  rw [nmx_s]
  refine lp1U (Q := fun o => ∃ σ2, o = some ((), σ2) ∧ Kp (fun i j => (97 ≤ i ∧ i ≤ 100) ∨ (i = 7 ∧ j = 1)) σ σ2 ∧ (∀ c, c < 4 → ∀ j, j < 39 → siI σ2 (97 + c) j = siI σ (97 + c) (j + 1)) ∧ siI σ2 7 1 = nI 39) 4 (fun k σx => Kp (fun i _ => 97 ≤ i ∧ i < 97 + k) σ σx ∧ ∀ c, c < k → ∀ j, j < 39 → siI σx (97 + c) j = siI σ (97 + c) (j + 1)) ?_ (i := 0) (Nat.zero_le _) (by omega) ⟨Kp.rf, fun c q => absurd q (Nat.not_lt_zero _)⟩
  rintro r k σx hk ⟨hkx, hj⟩
  unfold B_X1_dropOldest_L2
  rw [show (3 : Int32) = nI 3 from rfl, ite_lt (by decide) (by omega)]
  by_cases hlt : 3 < k
  · left
    have : k = 4 := by omega
    subst this
    rw [if_pos hlt]
    dsimp only
    rw [pIx_s]
    exact ⟨_, rfl, (hkx.le (fun i j q => by omega)).I (by omega), fun c hc j hj2 => by rw [uI_i (by omega), hj c hc j hj2], uI_s⟩
  · right
    rw [if_neg hlt, aRx_k (by omega) (by decide), aRx_k (by omega) (by decide), nI_add1]
    unfold cIx
    rw [if_pos (by decide)]
    refine ⟨by omega, _, ⟨fun i j q => ?_, fun c hc j hj2 => ?_⟩, rfl⟩
    · have h := hkx i j (by omega)
      refine ⟨?_, h.2⟩
      show (if i = 97 + k then _ else σx.1 i) j = siI σ i j
      rw [if_neg (by omega)]
      exact h.1
    · show (if 97 + c = 97 + k then va_cpy (siI σx (97 + k)) (siI σx (97 + k)) 1 0 39 else σx.1 (97 + c)) j = _
      by_cases e : c = k
      · rw [if_pos (by omega), pk_cpy_in (Nat.zero_le _) (by omega), (hkx (97 + k) _ (by omega)).1, e, show 1 + (j - 0) = j + 1 by omega]
      · rw [if_neg (by omega)]
        exact hj c (by omega) j hj2
theorem C_note {N : Nat} {σ : Sx} (hN : 8 < N) {a : Nat} (ha : a ≤ 40) (h1 : siI σ 7 1 = nI a) (x0 x1 x2 x3 : Int32) : ∃ σ2, F_X1_note N x0 x1 x2 x3 σ = some ((), σ2) ∧ Kp (fun i j => (97 ≤ i ∧ i ≤ 100) ∨ (i = 7 ∧ (j = 1 ∨ j = 2))) σ σ2 ∧ (∀ c, c < 4 → ∀ j, j < bbf a → siI σ2 (97 + c) j = siI σ (97 + c) (shf a j)) ∧ siI σ2 97 (bbf a) = x0 ∧ siI σ2 98 (bbf a) = x1 ∧ siI σ2 99 (bbf a) = x2 ∧ siI σ2 100 (bbf a) = x3 ∧ siI σ2 7 1 = nI (bbf a + 1) ∧ siI σ2 7 2 = nI (bbf a + 1) := by
  unfold F_X1_note
  rw [nmx_s]
  have hb : bbf a < 40 := by
    unfold bbf
    split <;> omega
  have key : ∀ σ1, Kp (fun i j => (97 ≤ i ∧ i ≤ 100) ∨ (i = 7 ∧ (j = 1 ∨ j = 2))) σ σ1 → (∀ c, c < 4 → ∀ j, j < bbf a → siI σ1 (97 + c) j = siI σ (97 + c) (shf a j)) → siI σ1 7 1 = nI (bbf a) → ∃ σ2, (aRx 4 (0 : Int32) (fun k11 => sIx (97 + k11) 40 (siI σ1 7 1) x0 σ1 (fun σ2 => aRx 4 (1 : Int32) (fun k12 => sIx (97 + k12) 40 (siI σ2 7 1) x1 σ2 (fun σ3 => aRx 4 (2 : Int32) (fun k13 => sIx (97 + k13) 40 (siI σ3 7 1) x2 σ3 (fun σ4 => aRx 4 (3 : Int32) (fun k14 => sIx (97 + k14) 40 (siI σ4 7 1) x3 σ4 (fun σ5 => pIx 7 1 ((siI σ5 7 1) + (1 : Int32)) σ5 (fun σ6 => pIx 7 2 (siI σ6 7 1) σ6 (fun σ7 => some ((), σ7))))))))))) : Option (Unit × Sx)) = some ((), σ2) ∧ Kp (fun i j => (97 ≤ i ∧ i ≤ 100) ∨ (i = 7 ∧ (j = 1 ∨ j = 2))) σ σ2 ∧ (∀ c, c < 4 → ∀ j, j < bbf a → siI σ2 (97 + c) j = siI σ (97 + c) (shf a j)) ∧ siI σ2 97 (bbf a) = x0 ∧ siI σ2 98 (bbf a) = x1 ∧ siI σ2 99 (bbf a) = x2 ∧ siI σ2 100 (bbf a) = x3 ∧ siI σ2 7 1 = nI (bbf a + 1) ∧ siI σ2 7 2 = nI (bbf a + 1) := fun σ1 k hr h7 => by
    rw [aRx_0 (by decide) (by decide), h7, sIx_k hb (by decide), aRx_1 (by decide) (by decide), uI_i (a := 7) (by decide), h7, sIx_k hb (by decide), aRx_2 (by decide) (by decide), uI_i (a := 7) (by decide), uI_i (a := 7) (by decide), h7, sIx_k hb (by decide), aRx_3 (by decide) (by decide), uI_i (a := 7) (by decide), uI_i (a := 7) (by decide), uI_i (a := 7) (by decide), h7, sIx_k hb (by decide), uI_i (a := 7) (by decide), uI_i (a := 7) (by decide), uI_i (a := 7) (by decide), uI_i (a := 7) (by decide), h7, pIx_s, pIx_s, uI_s, nI_add1]
    refine ⟨_, rfl, (((((k.I (by omega)).I (by omega)).I (by omega)).I (by omega)).I (by omega)).I (by omega), fun c hc j hj => ?_, ?_, ?_, ?_, ?_, ?_, uI_s⟩
    · rw [uI_i (by omega), uI_i (by omega), uI_j (by omega), uI_j (by omega), uI_j (by omega), uI_j (by omega)]
      exact hr c hc j hj
    · rw [uI_i (by decide), uI_i (by decide), uI_i (by decide), uI_i (by decide), uI_i (by decide), uI_s]
    · rw [uI_i (by decide), uI_i (by decide), uI_i (by decide), uI_i (by decide), uI_s]
    · rw [uI_i (by decide), uI_i (by decide), uI_i (by decide), uI_s]
    · rw [uI_i (by decide), uI_i (by decide), uI_s]
    · rw [uI_j (by decide), uI_s]
  rw [h1, show (40 : Int32) = nI 40 from rfl, ite_lt (by omega) (by decide)]
  by_cases e : a < 40
  · rw [if_pos e]
    refine key σ Kp.rf (fun c hc j hj => ?_) ?_
    · unfold shf
      rw [if_neg (by omega)]
    · unfold bbf
      rw [if_neg (by omega)]
      exact h1
  · obtain ⟨σ1, d1, d2, d3, d4⟩ := C_drop (N := N) (σ := σ) hN
    have : a = 40 := by omega
    subst this
    rw [if_neg e, d1, clx_s]
    exact key σ1 (d2.le (fun i j q => by omega)) (fun c hc j hj => d3 c hc j hj) d4
