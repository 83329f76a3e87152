/-! read -/
theorem all_and (x : Int32) : (-1 : Int32) &&& x = x := by
  apply Int32.toBitVec_inj.mp
  show (BitVec.allOnes 32) &&& x.toBitVec = x.toBitVec
  exact BitVec.allOnes_and
def alB (dd : Nat → Nat) (k i : Nat) : Bool := decide (¬ fsN k (fun f => decide (¬ i % 4 = dg (dd f) (i / 4))) < k)
theorem alB_iff {dd : Nat → Nat} {k i : Nat} : alB dd k i = true ↔ ∀ f, f < k → i % 4 = dg (dd f) (i / 4) := by
  unfold alB
  rw [decide_eq_true_eq, fsN_iff]
  constructor
  · intro h f hf
    rcases Decidable.em (i % 4 = dg (dd f) (i / 4)) with z | z
    · exact z
    · exact absurd ⟨f, hf, by simpa using z⟩ h
  · rintro h ⟨f, hf, z⟩
    simp only [decide_eq_true_eq] at z
    exact z (h f hf)
def saB (dd : Nat → Nat) (k u : Nat) : Bool := decide (¬ fsN k (fun f => decide (¬ dg (dd f) u = dg (dd 0) u)) < k)
theorem saB_iff {dd : Nat → Nat} {k u : Nat} : saB dd k u = true ↔ ∀ f, f < k → dg (dd f) u = dg (dd 0) u := by
  unfold saB
  rw [decide_eq_true_eq, fsN_iff]
  constructor
  · intro h f hf
    rcases Decidable.em (dg (dd f) u = dg (dd 0) u) with z | z
    · exact z
    · exact absurd ⟨f, hf, by simpa using z⟩ h
  · rintro h ⟨f, hf, z⟩
    simp only [decide_eq_true_eq] at z
    exact z (h f hf)
theorem Bool_ext {a b : Bool} (h : a = true ↔ b = true) : a = b := by
  cases a <;> cases b <;> simp_all
theorem s_read {N : Nat} (hN : 1100 < N) (a0 a1 : Int32) {σ : Sx} (h : ReW N σ) (hS : RelS σ) : StI (ReW N) rgA σ (F_X9_read N a0 a1 σ) (F_X10_read N a0 a1) := by
  obtain ⟨W, G, b, h⟩ := h
  obtain ⟨ok, hc, hm⟩ := h.of3
  have hn := ok.nw
  have isM : ∀ {k : Nat} {σx : Sx}, k < 6 → F_X10_isShelf (nI k) σx = some (1, σx) := fun {k σx} hk => by
    rw [M_isShelf, if_neg (nI_pos (by omega)), if_neg (show ¬ (6 : Int32) ≤ nI k from nI_ge (b := 6) hk (by decide))]
  rcases two_shelf a0 σ with ⟨e1, e2⟩ | ⟨k, hk, rfl, e1, e2⟩
  · exact ⟨-1, σ, σ, by rw [F_X9_read, e1]; rfl, by rw [F_X10_read, e2]; rfl, ⟨W, G, b, h⟩, Kp.rf⟩
  rcases in_m (n := 2) (by decide) a1 σ with ⟨q1, q2⟩ | ⟨what, hwh, rfl, q1⟩
  · refine ⟨-1, σ, σ, ?_, by rw [F_X10_read, e2, clx_s, if10, show (2 : Int32) = nI 2 from rfl, q1]; rfl, ⟨W, G, b, h⟩, Kp.rf⟩
    rw [F_X9_read, e1, clx_s, if10]
    rcases q2 with q2 | ⟨q2, q3⟩
    · rw [if_pos q2]
    · rw [if_neg q2, if_neg (show ¬ a1 ≤ (2 : Int32) from Int32.not_le.mpr q3)]
  have q1' : ∀ σx, F_X10_in (nI what) (0 : Int32) (2 : Int32) σx = some (1, σx) := fun σx => by
    rw [M_in, if_neg (nI_pos (by omega)), if_neg (show ¬ (2 : Int32) < nI what from nI_nlt (a := 2) hwh (by decide))]
  obtain ⟨σ1, s1, s2, h1, hr, h0⟩ := h.stale0 (by omega)
  have hS1 := hS.kp (rgA_D s2)
  have cC : F_X9_read N (nI k) (nI what) σ = clx (F_X5_narrowBy N k σ1) (fun v2 σ3 => (if v2 = 0 then (if nI what = 0 then some ((siI σ3 4 3), σ3) else (if nI what = (1 : Int32) then clx (F_X5_firstFitting  σ3) (fun v4 σ5 => some (v4, σ5)) else clx (F_X5_alikeWalkers N  σ3) (fun v3 σ4 => some (v3, σ4)))) else some (v2, σ3))) := by
    rw [F_X9_read, e1, clx_s, if10, if_neg (nI_pos (by omega)), if_pos (show nI what ≤ (2 : Int32) from nI_le (b := 2) hwh (by decide)), s1, clx_s, aRx_k hk (by decide)]
  rcases two_row (N := N) (by omega) hS1 hk with ⟨r, hr0, r1, r2⟩ | ⟨n, P, M, S, ht, t1, t2, t3, t4⟩
  · have hrn : ¬ r = 0 := fun q => by rw [q] at hr0; exact absurd hr0 (by decide)
    refine ⟨r, σ1, σ1, by rw [cC, r1, clx_s, if_neg hrn], ?_, ⟨W, G, b, h1⟩, rgA_D s2⟩
    rw [F_X10_read, isM hk, clx_s, if10, q1', clx_s, if10, r2, clx_s, if_neg (Int32.not_le.mpr hr0), r2, clx_s]
  obtain ⟨σ2, g1, g2, g3, g4⟩ := C_narrow hN ok hr hk ht t1 t2
  have kA : Kp rgA σ1 σ2 := g2.le (fun i j q => by unfold rgN at q; unfold rgA otR; omega)
  have h2 : RW N W G b σ2 := h1.kp g2 (fun i j q => by
    unfold rwR cwR mwR lcR lmR ccR dyR at q
    unfold rgN
    omega)
  have hr2 : cRd N G W σ2 := hr.kp g2 (fun i j q => by unfold cwR lcR at q; unfold rgN; omega)
  have ht2 := ht.kp hk kA
  have t42 : siI σ2 135 k = -3 := by rw [(kA 135 k (fun z => z (by unfold otR; omega))).1]; exact t4
  obtain ⟨σ3, f1, f2, f3, f4, f5⟩ := M_findFit hN h2 hk ht2
  have kT : Kp rgA σ2 σ3 := f2.le (fun i j q => by unfold rgT rgF at q; unfold rgA otR; omega)
  have h3 : RW N W G b σ3 := h2.kp f2 (fun i j q => by
    unfold rwR cwR mwR lcR lmR ccR dyR at q
    unfold rgT rgF
    omega)
  have hfl := fiL_len (G := G) (P := P) (M := M) (S := S) (n := n) ok
  have hml := mf_len (G := G) (P := P) (M := M) (S := S) (n := n) ok
  generalize hF : (fiL G W P M S n).length = F at *
  have cM : F_X10_read N (nI k) (nI what) σ2 = (if (2 : Int32) ≤ nI what then lpx2 (B_X10_read_L77 N) N (0 : Int32) (0 : Int32) σ3 else (if nI what = 0 then some (nI F, σ3) else (if nI F = 0 then some ((-2 : Int32), σ3) else aIx 128 1024 (0 : Int32) σ3 (fun v9 => some (v9, σ3))))) := by
    rw [F_X10_read, isM hk, clx_s, if10, q1', clx_s, if10, M_rf (by omega) hk ht2 t42, clx_s, if_pos (by decide), f1, clx_s, f4]
  have kk : Kp rgA σ σ3 := ((rgA_D s2).tr kA).tr kT
  match what, hwh, cC, cM with
  | 0, _, cC, cM =>
    refine ⟨nI F, σ2, σ3, ?_, ?_, ⟨W, G, b, h3⟩, kk⟩
    · rw [cC, g1, clx_s, if_pos rfl, if_pos (show nI 0 = (0 : Int32) from rfl), g3]
    · rw [cM, if_neg (by decide), if_pos (show nI 0 = (0 : Int32) from rfl)]
  | 1, _, cC, cM =>
    by_cases hz : F = 0
    · refine ⟨-2, σ2, σ3, ?_, ?_, ⟨W, G, b, h3⟩, kk⟩
      · rw [cC, g1, clx_s, if_pos rfl, if_neg (by decide), if_pos (show nI 1 = (1 : Int32) from rfl)]
        unfold F_X5_firstFitting
        rw [g3, hz]
        rfl
      · rw [cM, if_neg (by decide), if_neg (by decide), hz]
        rfl
    · have hx := fiL_at (G := G) (W := W) (P := P) (M := M) (S := S) (n := n) (j := 0) (by omega)
      have hsz := szN_1024 ok hn
      refine ⟨nI ((mfL G W P M S n).getD 0 0), σ2, σ3, ?_, ?_, ⟨W, G, b, h3⟩, kk⟩
      · rw [cC, g1, clx_s, if_pos rfl, if_neg (by decide), if_pos (show nI 1 = (1 : Int32) from rfl)]
        unfold F_X5_firstFitting
        rw [g3, if_neg (nI_ne0 (by omega) (by omega)), aIx_0 (by decide) (by decide), g4 0 (by omega), aIx_k (show _ < 1024 by omega) (by decide), (hr2.2.2.2.2.1.2 _ hx).1, clx_s, mf_at ok (by omega)]
      · rw [cM, if_neg (by decide), if_neg (by decide), if_neg (nI_ne0 (by omega) (by omega)), aIx_0 (by decide) (by decide), f5 0 (by omega)]
  | 2, _, cC, cM =>
    by_cases hz : F = 0
    · refine ⟨0, σ2, σ3, ?_, ?_, ⟨W, G, b, h3⟩, kk⟩
      · rw [cC, g1, clx_s, if_pos rfl, if_neg (by decide), if_neg (by decide)]
        unfold F_X5_alikeWalkers
        rw [g3, hz]
        rfl
      · rw [cM, if_pos (by decide)]
        obtain ⟨N, rfl⟩ : ∃ m, N = m + 1 := ⟨N - 1, by omega⟩
        rw [lpx2_s, B_X10_read_L77, f4, hz]
        split <;> rfl
    · generalize hdd : (fun j => (mfL G W P M S n).getD j 0) = dd
      have hdv : ∀ j, (mfL G W P M S n).getD j 0 = dd j := fun j => by rw [← hdd]
      have hday : ∀ j, j < F → isDy W (dd j) := fun j hj => by
        rw [← hdv, mf_at ok (by omega)]
        exact nm_day ok (fiL_at (by omega))
      refine ⟨nI (bst (W 0 0) (saB dd F)), σ2, σ3, ?_, ?_, ⟨W, G, b, h3⟩, kk⟩
      · rw [cC, g1, clx_s, if_pos rfl, if_neg (by decide), if_neg (by decide)]
        have : F_X5_alikeWalkers N σ2 = some (nI (bst (W 0 0) (saB dd F)), σ2) := by
          unfold F_X5_alikeWalkers
          rw [g3, if_neg (nI_ne0 (by omega) (by omega)), nmx_s]
          refine lp2U (Q := fun o => o = some (nI (bst (W 0 0) (saB dd F)), σ2)) F (fun f x σx => σx = σ2 ∧ x = if f = 0 then -1 else nI (bst (4 * W 0 0) (alB dd f))) ?_ (i := 0) (Nat.zero_le _) (by omega) ⟨rfl, rfl⟩
          rintro r f x σx hf ⟨rfl, rfl⟩
          unfold B_X5_alikeWalkers_L13
          rw [g3, ite_le (by omega) (by omega)]
          by_cases hlt : F ≤ f
          · left
            rw [if_pos hlt, if_neg (show ¬ f = 0 by omega)]
            have ef : f = F := by omega
            subst ef
            have hb20 : bst (4 * W 0 0) (alB dd f) < 2 ^ 20 := Nat.lt_of_lt_of_le (bst_lt _ _) (Nat.pow_le_pow_right (by decide) (by omega))
            dsimp only
            rw [C_walkersOf hb20, clx_s]
            refine congrArg (fun z => some (nI z, σx)) ?_
            apply Nat.eq_of_testBit_eq
            intro u
            unfold wko
            rw [bst_tb, bst_tb]
            simp only [bst_tb]
            by_cases hu : u < W 0 0
            · have hv := dg_lt (dd 0) u
              simp only [hu, show u < 5 by omega, show 4 * u < 4 * W 0 0 by omega, show 4 * u + 1 < 4 * W 0 0 by omega, show 4 * u + 2 < 4 * W 0 0 by omega, show 4 * u + 3 < 4 * W 0 0 by omega, decide_true, Bool.true_and]
              apply Bool_ext
              rw [Bool.or_eq_true, Bool.or_eq_true, Bool.or_eq_true, alB_iff, alB_iff, alB_iff, alB_iff, saB_iff, show 4 * u / 4 = u by omega, show (4 * u + 1) / 4 = u by omega, show (4 * u + 2) / 4 = u by omega, show (4 * u + 3) / 4 = u by omega, show 4 * u % 4 = 0 by omega, show (4 * u + 1) % 4 = 1 by omega, show (4 * u + 2) % 4 = 2 by omega, show (4 * u + 3) % 4 = 3 by omega]
              constructor
              · rintro (((q | q) | q) | q)
                · exact fun f hf => by rw [← q f hf, ← q 0 (by omega)]
                · exact fun f hf => by rw [← q f hf, ← q 0 (by omega)]
                · exact fun f hf => by rw [← q f hf, ← q 0 (by omega)]
                · exact fun f hf => by rw [← q f hf, ← q 0 (by omega)]
              · intro q
                rcases (show dg (dd 0) u = 0 ∨ dg (dd 0) u = 1 ∨ dg (dd 0) u = 2 ∨ dg (dd 0) u = 3 by omega) with e | e | e | e
                · exact Or.inl (Or.inl (Or.inl (fun f hf => by rw [q f hf, e])))
                · exact Or.inl (Or.inl (Or.inr (fun f hf => by rw [q f hf, e])))
                · exact Or.inl (Or.inr (fun f hf => by rw [q f hf, e]))
                · exact Or.inr (fun f hf => by rw [q f hf, e])
            · simp [hu, show ¬ 4 * u < 4 * W 0 0 by omega, show ¬ 4 * u + 1 < 4 * W 0 0 by omega, show ¬ 4 * u + 2 < 4 * W 0 0 by omega, show ¬ 4 * u + 3 < 4 * W 0 0 by omega]
          right
          have hfl2 : f < F := by omega
          have hx := fiL_at (G := G) (W := W) (P := P) (M := M) (S := S) (n := n) (j := f) (by omega)
          have hsz := szN_1024 ok hn
          have hmf := mf_at (G := G) (P := P) (M := M) (S := S) (n := n) ok (j := f) (by omega)
          rw [hdv] at hmf
          refine ⟨hfl2, nI (bst (4 * W 0 0) (alB dd (f + 1))), σx, ⟨rfl, by rw [if_neg (by omega)]⟩, ?_⟩
          rw [if_neg hlt, aIx_k (show f < 1024 by omega) (by decide), g4 f (by omega), aIx_k (show _ < 1024 by omega) (by decide), (hr2.2.2.2.2.1.2 _ hx).2, ← hmf, nmx_s, nI_add1]
          by_cases e0 : f = 0
          · subst e0
            rw [if_pos rfl, all_and]
            refine congrArg (fun z => r (nI z) (nI (0 + 1)) σx) ?_
            unfold wys
            refine bst_congr (fun i _ => ?_)
            apply Bool_ext
            rw [alB_iff, decide_eq_true_eq]
            constructor
            · intro q f hf
              rw [show f = 0 by omega]
              exact q
            · exact fun q => q 0 (by omega)
          · rw [if_neg e0, andI]
            refine congrArg (fun z => r (nI z) (nI (f + 1)) σx) ?_
            apply Nat.eq_of_testBit_eq
            intro i
            unfold wys
            rw [Nat.testBit_and, bst_tb, bst_tb, bst_tb]
            by_cases hi : i < 4 * W 0 0
            · simp only [hi, decide_true, Bool.true_and]
              apply Bool_ext
              rw [Bool.and_eq_true, alB_iff, alB_iff, decide_eq_true_eq]
              constructor
              · rintro ⟨q1, q2⟩ j hj
                by_cases e : j = f
                · rw [e]
                  exact q2
                · exact q1 j (by omega)
              · exact fun q => ⟨fun j hj => q j (by omega), q f (by omega)⟩
            · simp [hi]
        rw [this, clx_s]
      · rw [cM, if_pos (by decide)]
        refine lp2A (σ := σ3) (W 0 0) (fun u => nI (bst u (saB dd F))) _ ?_ ?_ (i := 0) (Nat.zero_le _) (by omega)
        · intro r u hu
          unfold B_X10_read_L77
          rw [h3.2.2.1.1, if_neg (nI_ge hu (by omega)), f4, if_neg (nI_nle (by omega) (by omega)), nmx_s]
          refine lp2U (Q := fun o => o = r (nI (bst (u + 1) (saB dd F))) (nI (u + 1)) σ3) F (fun j x σx => σx = σ3 ∧ 1 ≤ j ∧ x = b2i (saB dd j u)) ?_ (i := 1) (by omega) (by omega) ⟨rfl, Nat.le_refl _, by rw [show saB dd 1 u = true from saB_iff.mpr (fun f hf => by rw [show f = 0 by omega])]; rfl⟩
          rintro r2 j x σx hj ⟨rfl, hj1, rfl⟩
          unfold B_X10_read_L99
          rw [f4, ite_le (by omega) (by omega)]
          by_cases hlt : F ≤ j
          · left
            rw [if_pos hlt, show j = F by omega]
            dsimp only
            rw [nmx_s, if_b2i, shl1 (by omega), nI_add1, nmx_s, orI]
            by_cases z : saB dd F u = true
            · rw [if_pos z, bst_s1 z]
            · rw [if_neg z, bst_s0 z]
          right
          have hd1 := (hday j (by omega)).1
          have hd0 := (hday 0 (by omega)).1
          have v1 := dg_lt (dd j) u
          have v0 := dg_lt (dd 0) u
          refine ⟨by omega, b2i (saB dd (j + 1) u), σx, ⟨rfl, by omega, rfl⟩, ?_⟩
          rw [if_neg hlt, aIx_k (show j < 1024 by omega) (by decide), f5 j (by omega), hdv, M_wayIn (by omega) (by omega), clx_s, aIx_0 (by decide) (by decide), f5 0 (by omega), hdv, M_wayIn (by omega) (by omega), clx_s, nmx_s, ite_eq (by omega) (by omega), nI_add1]
          by_cases z : dg (dd j) u = dg (dd 0) u
          · rw [if_pos z]
            have : saB dd (j + 1) u = saB dd j u := by
              apply Bool_ext
              rw [saB_iff, saB_iff]
              constructor
              · exact fun q f hf => q f (by omega)
              · intro q f hf
                by_cases e : f = j
                · rw [e]
                  exact z
                · exact q f (by omega)
            rw [this]
          · rw [if_neg z]
            have : saB dd (j + 1) u = false := by
              cases y : saB dd (j + 1) u
              · rfl
              · exact absurd (saB_iff.mp y j (by omega)) z
            rw [this]
            rfl
        · intro r
          unfold B_X10_read_L77
          rw [h3.2.2.1.1, if_pos (nI_le (Nat.le_refl _) (by omega))]
