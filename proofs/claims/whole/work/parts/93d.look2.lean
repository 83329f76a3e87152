/-! look -/
theorem C_markTracks {W : Wd} {σ : Sx} {N : Nat} (hN : 100 < N) (ok : okW W) (h : cW W σ) {i : Nat} (hi : i < 20) {X : Nat → Nat} (hX : clI σ X) : ∃ σ2, F_X5_markTracks N (nI i) σ = some ((), σ2) ∧ Kp rgC σ σ2 ∧ clI σ2 (fun c => if (decide (c < 488) && trk W i (c % 8) (c / 8)) = true then X c ||| 2 ^ i else X c) := by
  have hl := ok.len hi
  unfold F_X5_markTracks
  rw [div4 (by omega), C_lead0 (by omega), clx_s]
  refine lp1U (Q := fun o => ∃ σ2, o = some ((), σ2) ∧ Kp rgC σ σ2 ∧ clI σ2 (fun c => if (decide (c < 488) && trk W i (c % 8) (c / 8)) = true then X c ||| 2 ^ i else X c)) (W 5 i) (fun k σ2 => Kp rgC σ σ2 ∧ mkH σ2 X i (fun c => c < 488 ∧ ∃ j, j < k ∧ trkF W i (c % 8) (c / 8) j = true)) ?_ (i := 0) (Nat.zero_le _) (by omega) ⟨Kp.rf, mkH.zero hX (fun c _ q => by obtain ⟨-, j, q, -⟩ := q; omega)⟩
  rintro r k σ2 hk ⟨hkp, hm⟩
  have hc2 : cW W σ2 := h.kp hkp (fun i j q => by unfold cwR at q; unfold rgC; omega)
  unfold B_X5_markTracks_L13
  rw [aIx_k hi (by decide), hc2.2.2.2.1 i hi, ite_le (by omega) (by omega)]
  by_cases hlt : W 5 i ≤ k
  · left
    rw [if_pos hlt]
    obtain ⟨H, h1, h2⟩ := hm
    refine ⟨σ2, rfl, hkp, fun c hc => ?_⟩
    rw [h1 c hc]
    have : H c = (decide (c < 488) && trk W i (c % 8) (c / 8)) := by
      apply Bool_ext
      rw [h2 c hc, Bool.and_eq_true, decide_eq_true_eq]
      unfold trk
      rw [decide_eq_true_eq, fsN_iff]
      exact ⟨fun ⟨q0, j, q1, q2⟩ => ⟨q0, j, by omega, q2⟩, fun ⟨q0, j, q1, q2⟩ => ⟨q0, j, by omega, q2⟩⟩
    dsimp only
    rw [this]
  right
  have hkl : k < W 5 i := by omega
  refine ⟨hkl, ?_⟩
  have hown := ok.own hi hkl
  have hcl := cam_le ok hi k hkl
  have hpl := ok.plc hi hkl
  have hld := (ok.2.1 _ hown.2).1
  rw [if_neg hlt, aRx_k hi (by decide), aIx_k (show k < 8 by omega) (by decide), (hc2.2.2.2.2.1 i hi k hkl).2, (h.2.1 _ hown.2).1, nI_add1]
  -- the place k's own marks
  have ext : ∀ c, c < 3208 → ((c < 488 ∧ ∃ j, j < k + 1 ∧ trkF W i (c % 8) (c / 8) j = true) ↔ ((c < 488 ∧ ∃ j, j < k ∧ trkF W i (c % 8) (c / 8) j = true) ∨ ∃ m, cam W i k - W 1 (i / 4) ≤ m ∧ m < cam W i k ∧ m ≤ 60 ∧ c = 8 * m + W 6 (8 * i + k))) := fun c hc => by
    constructor
    · rintro ⟨q0, j, q1, q2⟩
      by_cases e : j = k
      · subst e
        unfold trkF at q2
        simp only [decide_eq_true_eq] at q2
        exact Or.inr ⟨c / 8, by omega, by omega, by omega, by omega⟩
      · exact Or.inl ⟨q0, j, by omega, q2⟩
    · rintro (⟨q0, j, q1, q2⟩ | ⟨m, q1, q2, q3, rfl⟩)
      · exact ⟨q0, j, by omega, q2⟩
      · refine ⟨by omega, k, by omega, ?_⟩
        unfold trkF
        simp only [decide_eq_true_eq]
        rw [show (8 * m + W 6 (8 * i + k)) % 8 = W 6 (8 * i + k) by omega, show (8 * m + W 6 (8 * i + k)) / 8 = m by omega]
        exact ⟨rfl, q2, by omega⟩
  have hmax : ∀ σx, F_J9_max_7cf53 (nI (cam W i k) - nI (W 1 (i / 4))) (0 : Int32) σx = some (nI (cam W i k - W 1 (i / 4)), σx) := fun σx => by
    unfold F_J9_max_7cf53
    by_cases q : W 1 (i / 4) ≤ cam W i k
    · rw [pk_sub q, if_neg (nI_pos (by omega))]
    · rw [if_pos (pk_sneg (by omega) (by omega)), show cam W i k - W 1 (i / 4) = 0 by omega]
      rfl
  by_cases h0 : cam W i k = 0
  · rw [h0] at hmax ⊢
    have hmin : F_J9_min_7cf53 (nI 0 - (1 : Int32)) (60 : Int32) σ2 = some (-1, σ2) := rfl
    rw [hmin, clx_s, hmax, clx_s, nmx_s, Nat.zero_sub]
    obtain ⟨N, rfl⟩ : ∃ m, N = m + 1 := ⟨N - 1, by omega⟩
    rw [lpx1_s, B_X5_markTracks_L60, if_pos (by decide)]
    refine ⟨σ2, ⟨hkp, hm.congr (fun c hc => ?_)⟩, rfl⟩
    rw [ext c hc]
    constructor
    · exact Or.inl
    · rintro (q | ⟨m, -, q, -⟩)
      · exact q
      · omega
  · have hmin : F_J9_min_7cf53 (nI (cam W i k) - (1 : Int32)) (60 : Int32) σ2 = some (nI (min (cam W i k - 1) 60), σ2) := by
      unfold F_J9_min_7cf53
      rw [show nI (cam W i k) - (1 : Int32) = nI (cam W i k - 1) from pk_sub (b := 1) (by omega), show (60 : Int32) = nI 60 from rfl, ite_lt (by decide) (by omega)]
      by_cases q : 60 < cam W i k - 1
      · rw [if_pos q, show min (cam W i k - 1) 60 = 60 by omega]
      · rw [if_neg q, show min (cam W i k - 1) 60 = cam W i k - 1 by omega]
    rw [hmin, clx_s, hmax, clx_s, nmx_s]
    generalize hm1 : min (cam W i k - 1) 60 = m1
    generalize hm0 : cam W i k - W 1 (i / 4) = m0
    refine lp1U (Q := fun o => ∃ σ', (Kp rgC σ σ' ∧ mkH σ' X i (fun c => c < 488 ∧ ∃ j, j < k + 1 ∧ trkF W i (c % 8) (c / 8) j = true)) ∧ o = r (nI (k + 1)) σ') (max m0 (m1 + 1)) (fun m σ3 => m0 ≤ m ∧ Kp rgC σ σ3 ∧ mkH σ3 X i (fun c => (c < 488 ∧ ∃ j, j < k ∧ trkF W i (c % 8) (c / 8) j = true) ∨ ∃ z, m0 ≤ z ∧ z < m ∧ z ≤ m1 ∧ c = 8 * z + W 6 (8 * i + k))) ?_ (i := m0) (by omega) (by omega) ⟨Nat.le_refl _, hkp, hm.congr (fun c hc => ⟨Or.inl, fun q => q.elim id (fun ⟨z, q1, q2, _⟩ => by omega)⟩)⟩
    rintro r2 m σ3 hmm ⟨hm0m, hkp3, hm3⟩
    have hc3 : cW W σ3 := h.kp hkp3 (fun i j q => by unfold cwR at q; unfold rgC; omega)
    unfold B_X5_markTracks_L60
    rw [ite_lt (by omega) (by omega)]
    by_cases hlm : m1 < m
    · left
      rw [if_pos hlm]
      refine ⟨σ3, ⟨hkp3, hm3.congr (fun c hc => ?_)⟩, rfl⟩
      rw [ext c hc]
      refine or_congr Iff.rfl ⟨?_, ?_⟩
      · rintro ⟨z, q1, q2, q3, q4⟩
        exact ⟨z, by omega, by omega, by omega, q4⟩
      · rintro ⟨z, q1, q2, q3, q4⟩
        exact ⟨z, by omega, by omega, by omega, q4⟩
    right
    obtain ⟨v, e1, e2⟩ := hm3.step (c0 := m * 8 + W 6 (8 * i + k)) (by omega)
    refine ⟨by omega, ?_⟩
    rw [if_neg hlm, aRx_k hi (by decide), aIx_k (show k < 8 by omega) (by decide), (hc3.2.2.2.2.1 i hi k hkl).1, mul8R, nI_add, aIx_k (show m * 8 + W 6 (8 * i + k) < 3208 by omega) (by decide), e1, shl1 (by omega), orI, sIx_k (show m * 8 + W 6 (8 * i + k) < 3208 by omega) (by decide), nI_add1]
    refine ⟨_, ⟨by omega, hkp3.I rfl, e2.congr (fun c hc => ?_)⟩, rfl⟩
    constructor
    · rintro ((q | ⟨z, q1, q2, q3, q4⟩) | rfl)
      · exact Or.inl q
      · exact Or.inr ⟨z, q1, by omega, q3, q4⟩
      · exact Or.inr ⟨m, hm0m, by omega, by omega, by omega⟩
    · rintro (q | ⟨z, q1, q2, q3, q4⟩)
      · exact Or.inl (Or.inl q)
      · by_cases e : z = m
        · subst e
          right
          omega
        · exact Or.inl (Or.inr ⟨z, q1, by omega, q3, q4⟩)
def cnF (sg : Nat → Nat) (s f : Nat) : Nat := if sg f = s then 1 else 0
def cnN (sg : Nat → Nat) (k s : Nat) : Nat := smN k (cnF sg s)
def mxN (sg : Nat → Nat) : Nat → Nat
  | 0 => 0
  | k + 1 => max (mxN sg k) (cnN sg (k + 1) (sg k))
theorem cnN_le (sg : Nat → Nat) (k s : Nat) : cnN sg k s ≤ k := by
  have := smN_le (n := k) (b := 1) (f := cnF sg s) (fun j _ => by unfold cnF; split <;> omega)
  unfold cnN
  omega
theorem mxN_le (sg : Nat → Nat) : ∀ k, mxN sg k ≤ k := by
  intro k
  induction k with
  | zero => exact Nat.le_refl _
  | succ k ih =>
    have := cnN_le sg (k + 1) (sg k)
    unfold mxN
    omega
theorem mxN_const (sg : Nat → Nat) (F : Nat) (h : ∀ f, f < F → sg f = 0) : mxN sg F = F := by
  have hc : ∀ k, k ≤ F → cnN sg k 0 = k := by
    intro k
    induction k with
    | zero => intro _; rfl
    | succ k ih =>
      intro hk
      show smN k (cnF sg 0) + cnF sg 0 k = k + 1
      have := ih (by omega)
      unfold cnN at this
      unfold cnF
      unfold cnF at this
      rw [this, if_pos (h k (by omega))]
  cases F with
  | zero => rfl
  | succ F =>
    have h1 := mxN_le sg (F + 1)
    have h2 := hc (F + 1) (Nat.le_refl _)
    have h3 : mxN sg (F + 1) = max (mxN sg F) (cnN sg (F + 1) (sg F)) := rfl
    rw [h F (by omega), h2] at h3
    omega
theorem cnN_s (sg : Nat → Nat) (k s : Nat) : cnN sg (k + 1) s = cnN sg k s + (if sg k = s then 1 else 0) := rfl
/-- the parts, by the cells a -/
def prt (sg : Nat → Nat) (a k : Nat) (σ : Sx) : Prop := ∀ s, s < 32 → siI σ a s = nI (cnN sg k s)
theorem prt.step {sg : Nat → Nat} {a k : Nat} {σ : Sx} (h : prt sg a k σ) : prt sg a (k + 1) (upI σ a (sg k) (nI (cnN sg (k + 1) (sg k)))) := fun s hs => by
  by_cases e : s = sg k
  · rw [e, uI_s]
  · rw [uI_j e, h s hs, cnN_s, if_neg (fun q => e q.symm), Nat.add_zero]
def sLk (f : Nat → Nat) (F : Nat) : Nat → Nat × Nat
  | 0 => (0, F)
  | c + 1 => if f c < (sLk f F c).2 then (c, f c) else sLk f F c
theorem sLk_le {f : Nat → Nat} {F : Nat} : ∀ c, (sLk f F c).1 ≤ c ∧ (sLk f F c).2 ≤ F := by
  intro c
  induction c with
  | zero => exact ⟨Nat.le_refl _, Nat.le_refl _⟩
  | succ c ih =>
    unfold sLk
    split
    · have := ih.2
      have := ih.1
      exact ⟨by omega, by dsimp only; omega⟩
    · exact ⟨by omega, ih.2⟩
set_option maxHeartbeats 8000000 in
theorem s_look {N : Nat} (hN : 3300 < N) (a0 : Int32) {σ : Sx} (h : ReW N σ) (hS : RelS σ) : StI (ReW N) rgA σ (F_X9_look N a0 σ) (F_X10_look N a0) := by
  obtain ⟨W, G, b, h⟩ := h
  obtain ⟨ok, hc, hm⟩ := h.of3
  have hn := ok.nw
  have isM : ∀ {k : Nat} {σx : Sx}, k < 6 → F_X10_isShelf (nI k) σx = some (1, σx) := fun {k σx} hk => by
    rw [M_isShelf, if_neg (nI_pos (by omega)), if_neg (show ¬ (6 : Int32) ≤ nI k from nI_ge (b := 6) hk (by decide))]
  rcases two_shelf a0 σ with ⟨e1, e2⟩ | ⟨k, hk, rfl, e1, e2⟩
  · exact ⟨-1, σ, σ, by rw [F_X9_look, e1]; rfl, by rw [F_X10_look, e2]; rfl, ⟨W, G, b, h⟩, Kp.rf⟩
  obtain ⟨σ1, s1, s2, h1, hr, h0⟩ := h.stale0 (by omega)
  have hS1 := hS.kp (rgA_D s2)
  have cC : F_X9_look N (nI k) σ = clx (F_X5_narrowBy N k σ1) (fun v2 σ3 => (if v2 = 0 then (if (2 : Int32) ≤ (siI σ3 4 3) then clx (F_X5_bestLook N  σ3) (fun v3 σ4 => some (v3, σ4)) else some ((-2 : Int32), σ3)) else some (v2, σ3))) := by
    rw [F_X9_look, e1, clx_s, if10, s1, clx_s, aRx_k hk (by decide)]
  rcases two_row (N := N) (by omega) hS1 hk with ⟨r, hr0, r1, r2⟩ | ⟨n, P, M, S, ht, t1, t2, t3, t4⟩
  · have hrn : ¬ r = 0 := fun q => by rw [q] at hr0; exact absurd hr0 (by decide)
    refine ⟨r, σ1, σ1, by rw [cC, r1, clx_s, if_neg hrn], ?_, ⟨W, G, b, h1⟩, rgA_D s2⟩
    rw [F_X10_look, isM hk, clx_s, if10, r2, clx_s, if_neg (Int32.not_le.mpr hr0), r2, clx_s]
  obtain ⟨σ2, g1, g2, g3, g4⟩ := C_narrow (by omega) ok hr hk ht t1 t2
  have kA : Kp rgA σ1 σ2 := g2.le (fun i j q => by unfold rgN at q; unfold rgA otR; omega)
  have h2 : RW N W G b σ2 := h1.kp g2 (fun i j q => by
    unfold rwR cwR mwR lcR lmR ccR dyR at q
    unfold rgN
    omega)
  have hr2 : cRd N G W σ2 := hr.kp g2 (fun i j q => by unfold cwR lcR at q; unfold rgN; omega)
  have hsz := szN_1024 ok hn
  have hfl := fiL_len (G := G) (P := P) (M := M) (S := S) (n := n) ok
  have hml := mf_len (G := G) (P := P) (M := M) (S := S) (n := n) ok
  -- what both need at the end
  generalize hdd : (fun j => (mfL G W P M S n).getD j 0) = dd
  have hdv : ∀ j, (mfL G W P M S n).getD j 0 = dd j := fun j => by rw [← hdd]
  have hfa : ∀ j, j < (fiL G W P M S n).length → (fiL G W P M S n).getD j 0 < szN W (W 0 0) ∧ dd j = nmN W (W 0 0) ((fiL G W P M S n).getD j 0) := fun j hj => ⟨fiL_at hj, by rw [← hdv]; exact mf_at ok hj⟩
  generalize hF : (fiL G W P M S n).length = F at *
  have hday : ∀ j, j < F → isDy W (dd j) := fun j hj => by
    rw [(hfa j hj).2]
    exact nm_day ok (hfa j hj).1
  generalize hgp : (fun c => mxN (fun f => bst (W 0 0) (seB W (dd f) (c % 8) (c / 8))) F) = gp
  have hgv : ∀ c, gp c = mxN (fun f => bst (W 0 0) (seB W (dd f) (c % 8) (c / 8))) F := fun c => by rw [← hgp]
  have hgl : ∀ c, gp c ≤ F := fun c => by rw [hgv]; exact mxN_le _ _
  have hsl : ∀ (f p m : Nat), bst (W 0 0) (seB W (dd f) p m) < 32 := fun f p m => Nat.lt_of_lt_of_le (bst_lt _ _) (Nat.pow_le_pow_right (by decide) hn)
  have e2F : ∀ {α : Type} (x y : α), (if (2 : Int32) ≤ nI F then x else y) = if 2 ≤ F then x else y := fun x y => ite_le (a := 2) (by decide) (by omega) x y
  -- the one with the list
  obtain ⟨R, σ3, c1, c2, hR⟩ : ∃ R σ3, F_X9_look N (nI k) σ = some (R, σ3) ∧ Kp (fun i _ => i = 91 ∨ i = 92) σ2 σ3 ∧ ((F < 2 ∧ R = -2) ∨ (2 ≤ F ∧ R = nI (decC (sLk gp F 488).1))) := by
    rw [cC, g1, clx_s, if_pos rfl, g3, e2F]
    by_cases hF2 : 2 ≤ F
    · rw [if_pos hF2]
      suffices hgoal : ∃ σ3, F_X5_bestLook N σ2 = some (nI (decC (sLk gp F 488).1), σ3) ∧ Kp (fun i _ => i = 91 ∨ i = 92) σ2 σ3 by
        obtain ⟨σ3, q1, q2⟩ := hgoal
        exact ⟨_, σ3, by rw [q1, clx_s], q2, Or.inr ⟨hF2, rfl⟩⟩
      obtain ⟨σa, f1, f2, f3⟩ := fillI (N := N) (i := 92) (n := 3208) (v := 0) (by decide) (by omega) σ2
      unfold F_X5_bestLook
      rw [f1, clx_s, nmx_s]
      refine lp1U (Q := fun o => ∃ σ3, o = some (nI (decC (sLk gp F 488).1), σ3) ∧ Kp (fun i _ => i = 91 ∨ i = 92) σ2 σ3) (4 * W 0 0) (fun i σx => Kp rgC σ2 σx ∧ clI σx (fun c => bst i (fun i => decide (c < 488) && trk W i (c % 8) (c / 8)))) ?_ (i := 0) (Nat.zero_le _) (by omega) ⟨f2.le (fun i j q => q.1), fun c hc => f3 c hc⟩
      rintro r i σx hi ⟨hkp, hcl⟩
      have hrx : cRd N G W σx := hr2.kp hkp (fun i j q => by unfold cwR lcR at q; unfold rgC; omega)
      unfold B_X5_bestLook_L10
      rw [hrx.1.1, mul4R, ite_le (by omega) (by omega)]
      by_cases hlt : W 0 0 * 4 ≤ i
      · left
        rw [if_pos hlt]
        dsimp only
        rw [(hkp 4 3 (by unfold rgC; omega)).1, g3, nmx_s, nmx_s]
        have ei : i = 4 * W 0 0 := by omega
        subst ei
        refine lp3U (Q := fun o => ∃ σ3, o = some (nI (decC (sLk gp F 488).1), σ3) ∧ Kp (fun i _ => i = 91 ∨ i = 92) σ2 σ3) 488 (fun c x y σy => Kp (fun i _ => i = 91) σx σy ∧ x = nI (sLk gp F c).1 ∧ y = nI (sLk gp F c).2) ?_ (i := 0) (Nat.zero_le _) (by omega) ⟨Kp.rf, rfl, rfl⟩
        rintro r2 c x y σy hc2 ⟨hky, rfl, rfl⟩
        have hle := sLk_le (f := gp) (F := F) c
        have hry : cRd N G W σy := hrx.kp hky (fun i j q => by unfold cwR lcR at q; omega)
        unfold B_X5_bestLook_L43
        rw [show (488 : Int32) = nI 488 from rfl, ite_le (by decide) (by omega)]
        by_cases hlc : 488 ≤ c
        · left
          rw [if_pos hlc]
          have ec : c = 488 := by omega
          subst ec
          refine ⟨σy, ?_, (hkp.le (fun i j q => Or.inr q)).tr (hky.le (fun i j q => Or.inl q))⟩
          dsimp only
          rw [div8 (by omega), rem8 (by omega), mul10R, nI_add]
          rfl
        right
        have hc3 : c < 488 := by omega
        refine ⟨hc3, ?_⟩
        have hclc : siI σy 92 c = nI (bst (4 * W 0 0) (fun i => trk W i (c % 8) (c / 8))) := by
          rw [(hky 92 c (by omega)).1, hcl c (by omega)]
          refine congrArg nI (bst_congr (fun i _ => ?_))
          simp [hc3]
        have hb20 : bst (4 * W 0 0) (fun i => trk W i (c % 8) (c / 8)) < 2 ^ 20 := Nat.lt_of_lt_of_le (bst_lt _ _) (Nat.pow_le_pow_right (by decide) (by omega))
        have stp : sLk gp F (c + 1) = if gp c < (sLk gp F c).2 then (c, gp c) else sLk gp F c := rfl
        have hgc := hgl c
        rw [if_neg hlc, aIx_k (show c < 3208 by omega) (by decide), hclc, nmx_s, ite_eq0 (by omega), nI_add1, aIx_k (show c < 3208 by omega) (by decide), hclc]
        by_cases hz : bst (4 * W 0 0) (fun i => trk W i (c % 8) (c / 8)) = 0
        · have hall : gp c = F := by
            rw [hgv]
            refine mxN_const _ _ (fun f hf => ?_)
            have := wko_wys (d := dd f) hn (fun i => trk W i (c % 8) (c / 8)) (Nat.le_refl (4 * W 0 0))
            rw [hz, Nat.zero_and] at this
            have w0 : wko 0 = 0 := by decide
            rw [w0] at this
            exact this.symm
          rw [if_pos hz]
          refine ⟨_, _, σy, ⟨hky, rfl, rfl⟩, ?_⟩
          rw [stp, if_neg (by omega)]
        · rw [if_neg hz]
          obtain ⟨σz, z1, z2⟩ : ∃ σz, F_X5_greatestPart N (nI (bst (4 * W 0 0) (fun i => trk W i (c % 8) (c / 8)))) σy = some (nI (gp c), σz) ∧ Kp (fun i _ => i = 91) σy σz := by
            obtain ⟨σb, b1, b2, b3⟩ := fillI (N := N) (i := 91) (n := 32) (v := 0) (by decide) (by omega) σy
            unfold F_X5_greatestPart
            rw [b1, clx_s, hgv]
            generalize hsg : (fun f => bst (W 0 0) (seB W (dd f) (c % 8) (c / 8))) = sg
            have hsv : ∀ f, sg f = bst (W 0 0) (seB W (dd f) (c % 8) (c / 8)) := fun f => by rw [← hsg]
            refine lp2U (Q := fun o => ∃ σz, o = some (nI (mxN sg F), σz) ∧ Kp (fun i _ => i = 91) σy σz) F (fun f x σw => Kp (fun i _ => i = 91) σy σw ∧ prt sg 91 f σw ∧ x = nI (mxN sg f)) ?_ (i := 0) (Nat.zero_le _) (by omega) ⟨b2.le (fun i j q => q.1), fun s hs => b3 s hs, rfl⟩
            rintro r3 f x σw hf ⟨hkw, hpw, rfl⟩
            have hrw : cRd N G W σw := hry.kp hkw (fun i j q => by unfold cwR lcR at q; omega)
            have k2w : Kp (fun i _ => i = 91 ∨ i = 92) σ2 σw := ((hkp.le (fun i j q => Or.inr q)).tr (hky.le (fun i j q => Or.inl q))).tr (hkw.le (fun i j q => Or.inl q))
            unfold B_X5_greatestPart_L12
            rw [(k2w 4 3 (by omega)).1, g3, ite_le (by omega) (by omega)]
            by_cases hlf : F ≤ f
            · left
              rw [if_pos hlf, show f = F by omega]
              exact ⟨σw, rfl, hkw⟩
            right
            have hfF : f < F := by omega
            obtain ⟨x1, x2⟩ := hfa f hfF
            have hs32 : sg f < 32 := by rw [hsv]; exact hsl _ _ _
            have hcn := cnN_le sg (f + 1) (sg f)
            have hmx := mxN_le sg f
            refine ⟨hfF, ?_⟩
            rw [if_neg hlf, aIx_k (show f < 1024 by omega) (by decide), (k2w 90 f (by omega)).1, g4 f (by rw [hF]; exact hfF), aIx_k (show _ < 1024 by omega) (by decide), (hrw.2.2.2.2.1.2 _ x1).2, C_seesOn ok, clx_s, ← x2, ← hsv, aIx_k hs32 (by decide), hpw _ hs32, nI_add1, show cnN sg f (sg f) + 1 = cnN sg (f + 1) (sg f) from by rw [cnN_s, if_pos rfl], sIx_k hs32 (by decide), aIx_k hs32 (by decide), uI_s]
            have hmaxx : ∀ σq, F_J9_max_7cf53 (nI (mxN sg f)) (nI (cnN sg (f + 1) (sg f))) σq = some (nI (mxN sg (f + 1)), σq) := fun σq => by
              unfold F_J9_max_7cf53
              rw [ite_lt (by omega) (by omega)]
              show _ = some (nI (max (mxN sg f) (cnN sg (f + 1) (sg f))), σq)
              by_cases q : mxN sg f < cnN sg (f + 1) (sg f)
              · rw [if_pos q, Nat.max_eq_right (by omega)]
              · rw [if_neg q, Nat.max_eq_left (by omega)]
            rw [hmaxx, clx_s, nI_add1]
            exact ⟨_, _, ⟨hkw.I rfl, hpw.step, rfl⟩, rfl⟩
          rw [z1, clx_s, ite_le (by omega) (by omega)]
          refine ⟨_, _, σz, ⟨hky.tr z2, rfl, rfl⟩, ?_⟩
          rw [stp]
          by_cases q : gp c < (sLk gp F c).2
          · rw [if_pos q, if_neg (by omega)]
          · rw [if_neg q, if_pos (by omega)]
      right
      refine ⟨by omega, ?_⟩
      obtain ⟨σy, y1, y2, y3⟩ := C_markTracks (N := N) (by omega) ok hrx.1 (show i < 20 by omega) hcl
      rw [if_neg hlt, y1, clx_s, nI_add1]
      refine ⟨σy, ⟨hkp.tr y2, fun c hc => ?_⟩, rfl⟩
      rw [y3 c hc]
      show nI (if (decide (c < 488) && trk W i (c % 8) (c / 8)) = true then bst i (fun i => decide (c < 488) && trk W i (c % 8) (c / 8)) ||| 2 ^ i else bst i (fun i => decide (c < 488) && trk W i (c % 8) (c / 8))) = nI (bst (i + 1) (fun i => decide (c < 488) && trk W i (c % 8) (c / 8)))
      by_cases z : (decide (c < 488) && trk W i (c % 8) (c / 8)) = true
      · rw [if_pos z, bst_s1 (f := fun i => decide (c < 488) && trk W i (c % 8) (c / 8)) z]
      · rw [if_neg z, ← bst_s0 (f := fun i => decide (c < 488) && trk W i (c % 8) (c / 8)) z]
    · rw [if_neg hF2]
      exact ⟨-2, σ2, rfl, Kp.rf, Or.inl ⟨by omega, rfl⟩⟩
  have h3 : RW N W G b σ3 := h2.kp c2 (fun i j q => by
    unfold rwR cwR mwR lcR lmR ccR dyR at q
    omega)
  have kA2 : Kp rgA σ2 σ3 := c2.le (fun i j q => by unfold rgA otR; omega)
  have ht3 := (ht.kp hk kA).kp hk kA2
  have t43 : siI σ3 135 k = -3 := by rw [((kA.tr kA2) 135 k (fun z => z (by unfold otR; omega))).1]; exact t4
  obtain ⟨σ4, f1, f2, f3, f4, f5⟩ := M_findFit (by omega) h3 hk ht3
  have kT : Kp rgA σ3 σ4 := f2.le (fun i j q => by unfold rgT rgF at q; unfold rgA otR; omega)
  have h4 : RW N W G b σ4 := h3.kp f2 (fun i j q => by
    unfold rwR cwR mwR lcR lmR ccR dyR at q
    unfold rgT rgF
    omega)
  rw [hF] at f4
  have cM : F_X10_look N (nI k) σ3 = (if (2 : Int32) ≤ nI F then lpx3 (B_X10_look_L46 N) N (-1 : Int32) (0 : Int32) (0 : Int32) σ4 else some ((-2 : Int32), σ4)) := by
    rw [F_X10_look, isM hk, clx_s, if10, M_rf (by omega) hk ht3 t43, clx_s, if_pos (by decide), f1, clx_s, f4]
  have kk : Kp rgA σ σ4 := (((rgA_D s2).tr kA).tr kA2).tr kT
  rw [e2F] at cM
  rcases hR with ⟨hF2, rfl⟩ | ⟨hF2, rfl⟩
  · exact ⟨-2, σ3, σ4, c1, by rw [cM, if_neg (by omega)], ⟨W, G, b, h4⟩, kk⟩
  rw [if_pos hF2] at cM
  suffices hgoal : ∃ σ5, lpx3 (B_X10_look_L46 N) N (-1 : Int32) (0 : Int32) (0 : Int32) σ4 = some (nI (decC (sLk gp F 488).1), σ5) ∧ Kp (fun i _ => i = 129) σ4 σ5 by
    obtain ⟨σ5, q1, q2⟩ := hgoal
    refine ⟨_, σ3, σ5, c1, by rw [cM, q1], ⟨W, G, b, h4.kp q2 (fun i j q => ?_)⟩, kk.tr (q2.le (fun i j q => by unfold rgA otR; omega))⟩
    unfold rwR cwR mwR lcR lmR ccR dyR at q
    omega
  have hml2 : lstI σ4 128 (mfL G W P M S n) := f5
  have alike : ∀ p m σx, p < 8 → m ≤ 60 → Kp (fun i _ => i = 129) σ4 σx → ∃ σy, F_X10_mostAlike N (nI p) (nI m) σx = some (nI (gp (8 * m + p)), σy) ∧ Kp (fun i _ => i = 129) σ4 σy := fun p m σx hp hmm hkx => by
    unfold F_X10_mostAlike
    rw [nmx_s, hgv, show (8 * m + p) % 8 = p by omega, show (8 * m + p) / 8 = m by omega]
    generalize hsg : (fun f => bst (W 0 0) (seB W (dd f) p m)) = sg
    have hsv : ∀ f, sg f = bst (W 0 0) (seB W (dd f) p m) := fun f => by rw [← hsg]
    refine lp1U (Q := fun o => ∃ σy, o = some (nI (mxN sg F), σy) ∧ Kp (fun i _ => i = 129) σ4 σy) 32 (fun s σy => Kp (fun i _ => i = 129) σ4 σy ∧ ∀ j, j < s → siI σy 129 j = nI 0) ?_ (i := 0) (Nat.zero_le _) (by omega) ⟨hkx, fun j q => absurd q (Nat.not_lt_zero _)⟩
    rintro r s σy hs ⟨hky, hzy⟩
    unfold B_X10_mostAlike_L2
    rw [show (32 : Int32) = nI 32 from rfl, ite_le (by decide) (by omega)]
    by_cases hls : 32 ≤ s
    · left
      rw [if_pos hls]
      refine lp2U (Q := fun o => ∃ σy, o = some (nI (mxN sg F), σy) ∧ Kp (fun i _ => i = 129) σ4 σy) F (fun f x σw => Kp (fun i _ => i = 129) σ4 σw ∧ prt sg 129 f σw ∧ x = nI (mxN sg f)) ?_ (i := 0) (Nat.zero_le _) (by omega) ⟨hky, fun s hs => hzy s (by omega), rfl⟩
      rintro r3 f x σw hf ⟨hkw, hpw, rfl⟩
      have hmw : mW W σw := h4.2.2.1.kp hkw (fun i j q => by unfold mwR at q; omega)
      have hcw : mC W σw := f3.kp hkw (fun j => by omega)
      unfold B_X10_mostAlike_L26
      rw [(hkw 103 43 (by omega)).1, f4, ite_le (by omega) (by omega)]
      by_cases hlf : F ≤ f
      · left
        rw [if_pos hlf, show f = F by omega]
        exact ⟨σw, rfl, hkw⟩
      right
      have hfF : f < F := by omega
      have hs32 : sg f < 32 := by rw [hsv]; exact hsl _ _ _
      have hcn := cnN_le sg (f + 1) (sg f)
      have hmx := mxN_le sg f
      refine ⟨hfF, ?_⟩
      rw [if_neg hlf, aIx_k (show f < 1024 by omega) (by decide), (hkw 128 f (by omega)).1, hml2 f (by omega), hdv, M_seesOn (by omega) ok hmw hcw (hday f hfF) (by omega) (by omega), clx_s, ← hsv, aIx_k hs32 (by decide), hpw _ hs32, nI_add1, show cnN sg f (sg f) + 1 = cnN sg (f + 1) (sg f) from by rw [cnN_s, if_pos rfl], sIx_k hs32 (by decide), aIx_k hs32 (by decide), uI_s, nmx_s, aIx_k hs32 (by decide), uI_s, ite_le (by omega) (by omega), nI_add1]
      refine ⟨_, _, ⟨hkw.I rfl, hpw.step, rfl⟩, ?_⟩
      show _ = r3 (nI (max (mxN sg f) (cnN sg (f + 1) (sg f)))) _ _
      by_cases q : cnN sg (f + 1) (sg f) ≤ mxN sg f
      · rw [if_pos q, Nat.max_eq_left q]
      · rw [if_neg q, Nat.max_eq_right (by omega)]
    · right
      refine ⟨by omega, upI σy 129 s (nI 0), ⟨hky.I rfl, fun j hj => ?_⟩, by rw [if_neg hls, show sIx 129 32 (nI s) (0 : Int32) σy = sIx 129 32 (nI s) (nI 0) σy from rfl, sIx_k (by omega) (by decide), nI_add1]⟩
      by_cases e : j = s
      · rw [e, uI_s]
      · rw [uI_j e]
        exact hzy j (by omega)
  refine lp3U (Q := fun o => ∃ σ5, o = some (nI (decC (sLk gp F 488).1), σ5) ∧ Kp (fun i _ => i = 129) σ4 σ5) 61 (fun m x y σx => Kp (fun i _ => i = 129) σ4 σx ∧ ((m = 0 ∧ x = -1 ∧ y = 0) ∨ (m ≠ 0 ∧ x = nI (decC (sLk gp F (8 * m)).1) ∧ y = nI (sLk gp F (8 * m)).2))) ?_ (i := 0) (Nat.zero_le _) (by omega) ⟨Kp.rf, Or.inl ⟨rfl, rfl, rfl⟩⟩
  rintro r m x y σx hm2 ⟨hkx, hxy⟩
  unfold B_X10_look_L46
  rw [show (60 : Int32) = nI 60 from rfl, ite_lt (by decide) (by omega)]
  by_cases hlm : 60 < m
  · left
    rw [if_pos hlm]
    rcases hxy with ⟨q, -⟩ | ⟨-, rfl, -⟩
    · omega
    · rw [show 8 * m = 488 by omega]
      exact ⟨σx, rfl, hkx⟩
  right
  refine ⟨by omega, ?_⟩
  rw [if_neg hlm, nmx_s, nI_add1]
  refine lp3U (Q := fun o => ∃ x' y' σ', (Kp (fun i _ => i = 129) σ4 σ' ∧ ((m + 1 = 0 ∧ x' = -1 ∧ y' = 0) ∨ (m + 1 ≠ 0 ∧ x' = nI (decC (sLk gp F (8 * (m + 1))).1) ∧ y' = nI (sLk gp F (8 * (m + 1))).2))) ∧ o = r x' y' (nI (m + 1)) σ') 8 (fun p x y σy => Kp (fun i _ => i = 129) σ4 σy ∧ ((8 * m + p = 0 ∧ x = -1 ∧ y = 0) ∨ (8 * m + p ≠ 0 ∧ x = nI (decC (sLk gp F (8 * m + p)).1) ∧ y = nI (sLk gp F (8 * m + p)).2))) ?_ (i := 0) (Nat.zero_le _) (by omega) ⟨hkx, ?_⟩
  · rintro r2 p x y σy hp ⟨hky, hxy⟩
    unfold B_X10_look_L56
    rw [show (8 : Int32) = nI 8 from rfl, ite_le (by decide) (by omega)]
    by_cases hlp : 8 ≤ p
    · left
      rw [if_pos hlp]
      rcases hxy with ⟨q, -⟩ | ⟨-, rfl, rfl⟩
      · omega
      · refine ⟨_, _, σy, ⟨hky, Or.inr ⟨by omega, rfl, rfl⟩⟩, ?_⟩
        rw [show 8 * (m + 1) = 8 * m + p by omega]
    right
    refine ⟨by omega, ?_⟩
    obtain ⟨σz, z1, z2⟩ := alike p m σy (by omega) (by omega) hky
    have stp : sLk gp F (8 * m + (p + 1)) = if gp (8 * m + p) < (sLk gp F (8 * m + p)).2 then (8 * m + p, gp (8 * m + p)) else sLk gp F (8 * m + p) := rfl
    have hgc := hgl (8 * m + p)
    have hle := sLk_le (f := gp) (F := F) (8 * m + p)
    have hdc : decC (8 * m + p) = 10 * m + p := by unfold decC; omega
    rw [if_neg hlp, z1, clx_s, nmx_s, nmx_s, mul10L, nI_add, nI_add1]
    rcases hxy with ⟨q0, rfl, rfl⟩ | ⟨q0, rfl, rfl⟩
    · rw [if_pos (by decide)]
      refine ⟨_, _, σz, ⟨z2, Or.inr ⟨by omega, rfl, rfl⟩⟩, ?_⟩
      show r2 (nI (10 * m + p)) (nI (gp (8 * m + p))) (nI (p + 1)) σz = _
      rw [stp, q0]
      have e0 : sLk gp F 0 = (0, F) := rfl
      have g0 := hgl 0
      rw [show 10 * m + p = 0 by omega]
      by_cases q : gp 0 < F
      · rw [e0, if_pos q]
        show _ = r2 (nI (decC 0)) (nI (gp 0)) _ _
        rw [show decC 0 = 0 by decide]
      · rw [e0, if_neg q, show gp 0 = F by omega]
        show _ = r2 (nI (decC 0)) (nI F) _ _
        rw [show decC 0 = 0 by decide]
    · rw [if_neg (nI_pos (by unfold decC; omega)), ite_lt (by omega) (by omega)]
      refine ⟨_, _, σz, ⟨z2, Or.inr ⟨by omega, rfl, rfl⟩⟩, ?_⟩
      rw [stp]
      by_cases q : gp (8 * m + p) < (sLk gp F (8 * m + p)).2
      · rw [if_pos q, if_pos q]
        show r2 (nI (10 * m + p)) (nI (gp (8 * m + p))) (nI (p + 1)) σz = _
        rw [← hdc]
      · rw [if_neg q, if_neg q]
  · rcases hxy with ⟨q0, q1, q2⟩ | ⟨q0, q1, q2⟩
    · exact Or.inl ⟨by omega, q1, q2⟩
    · exact Or.inr ⟨by omega, q1, q2⟩
