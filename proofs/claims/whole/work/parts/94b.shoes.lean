/-! shoes, drawn: other leads -/
theorem lp4U {α : Type} {B : (Int32 → Int32 → Int32 → Int32 → Sx → Option α) → Int32 → Int32 → Int32 → Int32 → Sx → Option α} {Q : Option α → Prop} (n : Nat) (I : Nat → Int32 → Int32 → Int32 → Sx → Prop)
    (hB : ∀ (r : Int32 → Int32 → Int32 → Int32 → Sx → Option α) (k : Nat) (x y z : Int32) (σ : Sx), k ≤ n → I k x y z σ → Q (B r x y z (nI k) σ) ∨ (k < n ∧ ∃ x' y' z' σ', I (k + 1) x' y' z' σ' ∧ B r x y z (nI k) σ = r x' y' z' (nI (k + 1)) σ'))
    {N : Nat} {x y z : Int32} {σ : Sx} (hN : n < N) (h : I 0 x y z σ) : Q (lpx4 B N x y z (nI 0) σ) := by
  have key : ∀ (d N i : Nat) (x y z : Int32) (σ : Sx), i + d = n → d < N → I i x y z σ → Q (lpx4 B N x y z (nI i) σ) := by
    intro d
    induction d with
    | zero =>
      intro N i x y z σ h1 h2 h3
      obtain ⟨N, rfl⟩ : ∃ k, N = k + 1 := ⟨N - 1, by omega⟩
      rw [lpx4_s]
      rcases hB (lpx4 B N) i x y z σ (by omega) h3 with h | ⟨h, -⟩
      · exact h
      · omega
    | succ d ih =>
      intro N i x y z σ h1 h2 h3
      obtain ⟨N, rfl⟩ : ∃ k, N = k + 1 := ⟨N - 1, by omega⟩
      rw [lpx4_s]
      rcases hB (lpx4 B N) i x y z σ (by omega) h3 with h | ⟨h, x', y', z', σ', h4, h5⟩
      · exact h
      · rw [h5]
        exact ih N (i + 1) x' y' z' σ' (by omega) (by omega) h4
  exact key n N 0 x y z σ (by omega) hN h
/-- the world with the leads f -/
def wL (W : Wd) (f : Nat → Nat) : Wd := fun a c => if a = 1 then f c else W a c
theorem wL_o (W : Wd) (f : Nat → Nat) {a : Nat} (h : a ≠ 1) (c : Nat) : wL W f a c = W a c := by
  unfold wL
  rw [if_neg h]
theorem wL_1 (W : Wd) (f : Nat → Nat) (c : Nat) : wL W f 1 c = f c := by
  unfold wL
  rw [if_pos rfl]
theorem btw_L (W : Wd) (f : Nat → Nat) (p q : Nat) : btw (wL W f) p q = btw W p q := by
  unfold btw
  rw [wL_o W f (by decide)]
theorem cam_L (W : Wd) (f : Nat → Nat) (i : Nat) : ∀ k, cam (wL W f) i k = cam W i k := by
  intro k
  induction k with
  | zero => unfold cam; rw [wL_o W f (by decide)]
  | succ k ih => rw [cam, cam, ih, wL_o W f (by decide), wL_o W f (by decide), btw_L]
theorem okW_L {W : Wd} (ok : okW W) {f : Nat → Nat} (hf : ∀ w, w < W 0 0 → f w ≤ 60) : okW (wL W f) := by
  obtain ⟨h1, h2, h3, h4, h5, h6⟩ := ok
  have o0 : ∀ c, wL W f 0 c = W 0 c := wL_o W f (by decide)
  have o2 : ∀ c, wL W f 2 c = W 2 c := wL_o W f (by decide)
  have o3 : ∀ c, wL W f 3 c = W 3 c := wL_o W f (by decide)
  have o4 : ∀ c, wL W f 4 c = W 4 c := wL_o W f (by decide)
  have o5 : ∀ c, wL W f 5 c = W 5 c := wL_o W f (by decide)
  have o6 : ∀ c, wL W f 6 c = W 6 c := wL_o W f (by decide)
  have o7 : ∀ c, wL W f 7 c = W 7 c := wL_o W f (by decide)
  unfold okW
  simp only [o0, o2, o3, o4, o5, o6, o7, wL_1]
  exact ⟨h1, fun w hw => ⟨hf w hw, (h2 w hw).2⟩, h3, h4, h5, h6⟩
theorem szN_L (W : Wd) (f : Nat → Nat) : ∀ n, szN (wL W f) n = szN W n := by
  intro n
  induction n with
  | zero => rfl
  | succ n ih => rw [szN, szN, ih, wL_o W f (by decide)]
theorem nmN_L (W : Wd) (f : Nat → Nat) : ∀ n x, nmN (wL W f) n x = nmN W n x := by
  intro n
  induction n with
  | zero => intro x; rfl
  | succ n ih => intro x; rw [nmN, nmN, ih, szN_L]
/-- all but the leads told -/
theorem cW_L {W : Wd} {σ σ2 : Sx} {f : Nat → Nat} (h : cW W σ) (e : ∀ i j, cwR i j → i ≠ 23 → siI σ2 i j = siI σ i j) (hf : ∀ w, w < W 0 0 → siI σ2 23 w = nI (f w)) : cW (wL W f) σ2 := by
  obtain ⟨h1, h2, h3, h4, h5, h6⟩ := h
  have o0 : ∀ c, wL W f 0 c = W 0 c := wL_o W f (by decide)
  have o2 : ∀ c, wL W f 2 c = W 2 c := wL_o W f (by decide)
  have o3 : ∀ c, wL W f 3 c = W 3 c := wL_o W f (by decide)
  have o4 : ∀ c, wL W f 4 c = W 4 c := wL_o W f (by decide)
  have o5 : ∀ c, wL W f 5 c = W 5 c := wL_o W f (by decide)
  have o6 : ∀ c, wL W f 6 c = W 6 c := wL_o W f (by decide)
  have o7 : ∀ c, wL W f 7 c = W 7 c := wL_o W f (by decide)
  unfold cW
  simp only [o0, o2, o3, o4, o5, o6, o7, wL_1, cam_L]
  refine ⟨by rw [e _ _ (by unfold cwR; omega) (by decide)]; exact h1, fun w hw => ?_, fun w hw => ?_, fun i hi => ?_, fun i hi k hk => ?_, fun p q hp hq hpq => ?_⟩
  · obtain ⟨a, b, c⟩ := h2 w hw
    exact ⟨hf w hw, by rw [e _ _ (by unfold cwR; omega) (by decide)]; exact b, by rw [e _ _ (by unfold cwR; omega) (by decide)]; exact c⟩
  · rw [e _ _ (by unfold cwR; omega) (by decide)]
    exact h3 w hw
  · rw [e _ _ (by unfold cwR; omega) (by decide)]
    exact h4 i hi
  · rw [e _ _ (by unfold cwR; omega) (by omega), e _ _ (by unfold cwR; omega) (by omega)]
    exact h5 i hi k hk
  · rw [e _ _ (by unfold cwR; omega) (by omega)]
    exact h6 p q hp hq hpq
theorem mW_L {W : Wd} {σ σ2 : Sx} {f : Nat → Nat} (h : mW W σ) (e : ∀ i j, mwR i j → i ≠ 104 → siI σ2 i j = siI σ i j) (hf : ∀ w, w < W 0 0 → siI σ2 104 w = nI (f w)) : mW (wL W f) σ2 := by
  obtain ⟨h1, h2, h3, h4, h5⟩ := h
  have o0 : ∀ c, wL W f 0 c = W 0 c := wL_o W f (by decide)
  have o2 : ∀ c, wL W f 2 c = W 2 c := wL_o W f (by decide)
  have o3 : ∀ c, wL W f 3 c = W 3 c := wL_o W f (by decide)
  have o4 : ∀ c, wL W f 4 c = W 4 c := wL_o W f (by decide)
  have o5 : ∀ c, wL W f 5 c = W 5 c := wL_o W f (by decide)
  have o6 : ∀ c, wL W f 6 c = W 6 c := wL_o W f (by decide)
  have o7 : ∀ c, wL W f 7 c = W 7 c := wL_o W f (by decide)
  unfold mW
  simp only [o0, o2, o3, o4, o5, o6, o7, wL_1]
  refine ⟨by rw [e _ _ (by unfold mwR; omega) (by decide)]; exact h1, fun w hw => ?_, fun i hi hl => ?_, fun i hi k hk => ?_, fun p q hp hq hpq => ?_⟩
  · obtain ⟨a, b, c, d⟩ := h2 w hw
    exact ⟨hf w hw, by rw [e _ _ (by unfold mwR; omega) (by decide)]; exact b, by rw [e _ _ (by unfold mwR; omega) (by decide)]; exact c, by rw [e _ _ (by unfold mwR; omega) (by decide)]; exact d⟩
  · rw [e _ _ (by unfold mwR; omega) (by decide)]
    exact h3 i hi hl
  · rw [e _ _ (by unfold mwR; omega) (by decide)]
    exact h4 i hi k hk
  · rw [e _ _ (by unfold mwR; omega) (by decide)]
    exact h5 p q hp hq hpq
theorem lsW_L {W : Wd} {σ : Sx} {f : Nat → Nat} (h : lsW W (W 0 0) σ) : lsW (wL W f) (wL W f 0 0) σ := by
  rw [wL_o W f (by decide)]
  unfold lsW
  simp only [szN_L, nmN_L]
  exact h
/-- what holds with the leads f -/
def hwL (G : Gt) (W : Wd) (f : Nat → Nat) : Nat := (hlL G (wL W f) (T0 (wL W f))).length
theorem C_tryLead {σ : Sx} {w : Nat} (hw : w < 5) (v : Int32) : F_X8_tryLead (nI w) v σ = some ((), upI σ 23 w v) := by
  unfold F_X8_tryLead
  rw [aRx3_0, sIx_k hw (by decide)]
def rgE (i j : Nat) : Prop := (83 ≤ i ∧ i ≤ 88) ∨ (i = 3 ∧ (j = 5 ∨ j = 10)) ∨ (i = 2 ∧ j = 8) ∨ i = 82
/-- all is reckoned anew -/
theorem C_again {N : Nat} (hN : 1100 < N) {G : Gt} {W : Wd} {σ : Sx} (ok : okW W) (h : cW W σ) (hl : LC N G σ) (hs : lsW W (W 0 0) σ) : ∃ v σ1 σ2 σ3, F_X2_observe N σ = some (v, σ1) ∧ F_X2_forget N σ1 = some ((), σ2) ∧ F_X2_gather N σ2 = some ((), σ3) ∧ Kp rgE σ σ3 ∧ cRd N G W σ3 := by
  obtain ⟨b, σ3, c1, -, -, c2, c3⟩ := C_observe (N := N) (by omega) ok h
  obtain ⟨σ4, d1, d2, d3⟩ := fillI (N := N) (i := 87) (n := 160) (v := 0) (by decide) (by omega) σ3
  have e1 : F_X2_forget N σ3 = some ((), σ4) := by
    unfold F_X2_forget
    rw [d1, clx_s]
  have k34 : Kp (fun i _ => i = 85 ∨ i = 86 ∨ i = 87) σ σ4 := (c2.le (fun i j q => by unfold rgO at q; omega)).tr (d2.le (fun i j q => by omega))
  have f1 : cW W σ4 := h.kp k34 (fun i j q => by unfold cwR at q; omega)
  have f2 : LC N G σ4 := hl.kp k34 (fun i j q => by unfold lcR at q; omega)
  have f3 : cV0 W σ4 := fun w hw => by
    rw [(d2 85 w (by omega)).1, (d2 86 w (by omega)).1]
    exact c3 w hw
  have f4 : cK G W σ4 := cK_zero ok (fun j hj => d3 j hj)
  have f5 : lsW W (W 0 0) σ4 := hs.of (fun i j q => (k34 i j (by unfold rgL at q; omega)).1)
  obtain ⟨σ5, g1, g2, g3, g4⟩ := C_gather (N := N) (by omega) ok (noOwn_T0 W) ⟨f1, f2, cT_of0 f3, f4⟩ f5
  refine ⟨b, σ3, σ4, σ5, c1, e1, g1, (k34.le (fun i j q => by unfold rgE; omega)).tr (g2.le (fun i j q => by unfold rgH rgW at q; unfold rgE; omega)), g3.1, g3.2.1, fun w hw => ?_, g3.2.2.2, f5.of (fun i j q => (g2 i j (by unfold rgL at q; unfold rgH rgW; omega)).1), g4⟩
  rw [(g2 85 w (by unfold rgH rgW; omega)).1, (g2 86 w (by unfold rgH rgW; omega)).1]
  exact f3 w hw
/-- the next seeds; the leads by a seed -/
def zsI (z : Int32) : Nat → Int32
  | 0 => z
  | k + 1 => zsI z k * (1103515245 : Int32) + (12345 : Int32)
def lzN (z : Int32) (k : Nat) : Nat := (jushr (zsI z (k + 1)) (8 : Int32)).toBitVec.toNat % 61
theorem lz_eq (z : Int32) (k : Nat) : jrem (jushr (zsI z (k + 1)) (8 : Int32)) (61 : Int32) = nI (lzN z k) := by
  have h1 : (jushr (zsI z (k + 1)) (8 : Int32)).toBitVec.toNat = (zsI z (k + 1)).toBitVec.toNat / 2 ^ 8 := pk_ushr _ _ 8 rfl
  have h2 := (zsI z (k + 1)).toBitVec.isLt
  have h3 : (jushr (zsI z (k + 1)) (8 : Int32)).toBitVec.toNat < 2 ^ 24 := by
    rw [h1]
    omega
  have h4 : jushr (zsI z (k + 1)) (8 : Int32) = nI (jushr (zsI z (k + 1)) (8 : Int32)).toBitVec.toNat := by
    apply Int32.toBitVec_inj.mp
    apply BitVec.eq_of_toNat_eq
    rw [pk_tn (by omega)]
  unfold lzN
  generalize (jushr (zsI z (k + 1)) (8 : Int32)).toBitVec.toNat = a at h3 h4
  rw [h4, rem61 (by omega)]
theorem lz_le (z : Int32) (k : Nat) : lzN z k ≤ 60 := by
  unfold lzN
  omega
/-- n draws: the sum, how many times none -/
def dsI (G : Gt) (W : Wd) (z : Int32) : Nat → Int32 × Int32 × Int32
  | 0 => (z, 0, 0)
  | t + 1 => (zsI (dsI G W z t).1 (W 0 0), (dsI G W z t).2.1 + nI (hwL G W (lzN (dsI G W z t).1)), (dsI G W z t).2.2 + (if hwL G W (lzN (dsI G W z t).1) = 0 then 1 else 0))
theorem s_drawn {N : Nat} (hN : 1100 < N) (a0 a1 a2 : Int32) {σ : Sx} (h : ReW N σ) : StI (ReW N) rgA σ (F_X9_drawn N a0 a1 a2 σ) (F_X10_drawn N a0 a1 a2) := by
  obtain ⟨W, G, b, h⟩ := h
  obtain ⟨ok, hc, hm⟩ := h.of3
  have hn := ok.nw
  have hin : ∀ σx, F_X10_in a1 (1 : Int32) (20 : Int32) σx = some ((if a1 < 1 then 0 else if (20 : Int32) < a1 then 0 else 1), σx) := fun σx => M_in _ _ _ _
  by_cases q1 : a1 < (1 : Int32)
  · exact ⟨-1, σ, σ, by rw [F_X9_drawn, if_pos q1], by rw [F_X10_drawn, hin, if_pos q1]; rfl, ⟨W, G, b, h⟩, Kp.rf⟩
  by_cases q2 : (20 : Int32) < a1
  · exact ⟨-1, σ, σ, by rw [F_X9_drawn, if_neg q1, if_pos q2], by rw [F_X10_drawn, hin, if_neg q1, if_pos q2]; rfl, ⟨W, G, b, h⟩, Kp.rf⟩
  have hin' : ∀ σx, F_X10_in a1 (1 : Int32) (20 : Int32) σx = some (1, σx) := fun σx => by rw [hin, if_neg q1, if_neg q2]
  obtain ⟨n, hn20, rfl⟩ : ∃ n : Nat, n ≤ 20 ∧ a1 = nI n := nI_of2 (M := 20) (n := 20) rfl (fun z => q1 (by
    rw [Int32.lt_iff_toInt_lt] at z ⊢
    have z0 : (0 : Int32).toInt = 0 := rfl
    have z1 : (1 : Int32).toInt = 1 := rfl
    omega)) (Int32.not_lt.mp q2)
  rcases two_01 a2 σ with ⟨e5, e6⟩ | ⟨h01, e5, e6⟩
  · exact ⟨-1, σ, σ, by rw [F_X9_drawn, if_neg q1, if_neg q2, e5]; rfl, by rw [F_X10_drawn, hin', clx_s, if10, e6]; rfl, ⟨W, G, b, h⟩, Kp.rf⟩
  obtain ⟨σ1, s1, s2, h1, hr, h0⟩ := h.stale0 (by omega)
  obtain ⟨r1, r2, r3, r4, r5, r6⟩ := hr
  generalize hR : (if a2 = 0 then (dsI G W a0 n).2.1 else (dsI G W a0 n).2.2) = R
  -- the first
  obtain ⟨σ2, c1, c2, c3, c4⟩ : ∃ σ2, F_X7_withDrawnLeads N a0 (nI n) a2 σ1 = some (R, σ2) ∧ Kp (fun i j => rgE i j ∨ i = 93 ∨ (i = 3 ∧ j = 2) ∨ i = 23) σ1 σ2 ∧ (∀ j, siI σ2 23 j = siI σ1 23 j) ∧ siI σ2 3 2 = 1 := by
    unfold F_X7_withDrawnLeads F_X7_keepLeads
    obtain ⟨σa, k1, k2, k3⟩ : ∃ σa, lpx1 (B_X7_keepLeads_L2 N) N (0 : Int32) σ1 = some ((), σa) ∧ Kp (fun i _ => i = 93) σ1 σa ∧ ∀ j, j < W 0 0 → siI σa 93 j = siI σ1 23 j := by
      refine lp1U (Q := fun o => ∃ σa, o = some ((), σa) ∧ Kp (fun i _ => i = 93) σ1 σa ∧ ∀ j, j < W 0 0 → siI σa 93 j = siI σ1 23 j) (W 0 0) (fun i σx => Kp (fun i _ => i = 93) σ1 σx ∧ ∀ j, j < i → siI σx 93 j = siI σ1 23 j) ?_ (i := 0) (Nat.zero_le _) (by omega) ⟨Kp.rf, fun j q => absurd q (Nat.not_lt_zero _)⟩
      rintro r i σx hi ⟨hk, hj⟩
      unfold B_X7_keepLeads_L2
      rw [(hk 1 0 (by omega)).1, r1.1, ite_le (by omega) (by omega)]
      by_cases hlt : W 0 0 ≤ i
      · left
        rw [if_pos hlt]
        exact ⟨σx, rfl, hk, fun j z => hj j (by omega)⟩
      · right
        rw [if_neg hlt, C_lead0 (by omega), clx_s, sIx_k (show i < 5 by omega) (by decide), (hk 23 i (by omega)).1, nI_add1]
        refine ⟨by omega, _, ⟨hk.I rfl, fun j z => ?_⟩, rfl⟩
        by_cases e : j = i
        · rw [e, uI_s]
        · rw [uI_j e]
          exact hj j (by omega)
    rw [k1, clx_s, nmx_s]
    refine lp4U (Q := fun o => ∃ σ2, o = some (R, σ2) ∧ Kp (fun i j => rgE i j ∨ i = 93 ∨ (i = 3 ∧ j = 2) ∨ i = 23) σ1 σ2 ∧ (∀ j, siI σ2 23 j = siI σ1 23 j) ∧ siI σ2 3 2 = 1) n (fun t x y z σx => x = (dsI G W a0 t).1 ∧ y = (dsI G W a0 t).2.1 ∧ z = (dsI G W a0 t).2.2 ∧ Kp (fun i j => rgE i j ∨ i = 93 ∨ (i = 23 ∧ j < W 0 0)) σ1 σx ∧ (∀ j, j < W 0 0 → siI σx 93 j = siI σ1 23 j) ∧ LC N G σx ∧ lsW W (W 0 0) σx) ?_ (by omega) ⟨rfl, rfl, rfl, k2.le (fun i j q => Or.inr (Or.inl q)), k3, r2.kp k2 (fun i j q => by unfold lcR at q; omega), r5.of (fun i j q => (k2 i j (by unfold rgL at q; omega)).1)⟩
    rintro r t x y z σx ht ⟨rfl, rfl, rfl, hk, h93, hlx, hsx⟩
    unfold B_X7_withDrawnLeads_L16
    rw [ite_le (by omega) (by omega)]
    by_cases hlt : n ≤ t
    · left
      rw [if_pos hlt]
      have et : t = n := by omega
      subst et
      unfold F_X7_giveLeadsBack
      obtain ⟨σb, b1, b2, b3⟩ : ∃ σb, lpx1 (B_X7_giveLeadsBack_L2 N) N (0 : Int32) σx = some ((), σb) ∧ Kp (fun i j => i = 23 ∧ j < W 0 0) σx σb ∧ ∀ j, j < W 0 0 → siI σb 23 j = siI σ1 23 j := by
        refine lp1U (Q := fun o => ∃ σb, o = some ((), σb) ∧ Kp (fun i j => i = 23 ∧ j < W 0 0) σx σb ∧ ∀ j, j < W 0 0 → siI σb 23 j = siI σ1 23 j) (W 0 0) (fun i σy => Kp (fun i j => i = 23 ∧ j < W 0 0) σx σy ∧ ∀ j, j < i → siI σy 23 j = siI σ1 23 j) ?_ (i := 0) (Nat.zero_le _) (by omega) ⟨Kp.rf, fun j q => absurd q (Nat.not_lt_zero _)⟩
        rintro r i σy hi ⟨hky, hj⟩
        unfold B_X7_giveLeadsBack_L2
        rw [(hky 1 0 (by omega)).1, (hk 1 0 (by unfold rgE; omega)).1, r1.1, ite_le (by omega) (by omega)]
        by_cases hli : W 0 0 ≤ i
        · left
          rw [if_pos hli]
          exact ⟨σy, rfl, hky, fun j z => hj j (by omega)⟩
        · right
          rw [if_neg hli, aIx_k (show i < 5 by omega) (by decide), (hky 93 i (by omega)).1, h93 i (by omega), C_tryLead (by omega), clx_s, nI_add1]
          refine ⟨by omega, _, ⟨hky.I ⟨rfl, by omega⟩, fun j z => ?_⟩, rfl⟩
          by_cases e : j = i
          · rw [e, uI_s]
          · rw [uI_j e]
            exact hj j (by omega)
      refine ⟨upI σb 3 2 1, ?_, ((hk.le (fun i j q => by unfold rgE at q ⊢; omega)).tr (b2.le (fun i j q => by unfold rgE; omega))).I (by unfold rgE; omega), fun j => ?_, uI_s⟩
      · dsimp only
        rw [b1, clx_s, C_spoil, clx_s, ← hR]
        rcases h01 with rfl | rfl <;> rfl
      · rw [uI_i (by decide)]
        by_cases hj : j < W 0 0
        · exact b3 j hj
        · rw [(b2 23 j (by omega)).1, (hk 23 j (by unfold rgE; omega)).1]
    right
    refine ⟨by omega, ?_⟩
    generalize hz : (dsI G W a0 t).1 = z at *
    obtain ⟨σy, y1, y2, y3⟩ : ∃ σy, F_X7_drawLeads N z σx = some (zsI z (W 0 0), σy) ∧ Kp (fun i j => i = 23 ∧ j < W 0 0) σx σy ∧ ∀ j, j < W 0 0 → siI σy 23 j = nI (lzN z j) := by
      unfold F_X7_drawLeads
      refine lp2U (Q := fun o => ∃ σy, o = some (zsI z (W 0 0), σy) ∧ Kp (fun i j => i = 23 ∧ j < W 0 0) σx σy ∧ ∀ j, j < W 0 0 → siI σy 23 j = nI (lzN z j)) (W 0 0) (fun i x σy => x = zsI z i ∧ Kp (fun i j => i = 23 ∧ j < W 0 0) σx σy ∧ ∀ j, j < i → siI σy 23 j = nI (lzN z j)) ?_ (i := 0) (Nat.zero_le _) (by omega) ⟨rfl, Kp.rf, fun j q => absurd q (Nat.not_lt_zero _)⟩
      rintro r i x σy hi ⟨rfl, hky, hj⟩
      unfold B_X7_drawLeads_L4
      rw [(hky 1 0 (by omega)).1, (hk 1 0 (by unfold rgE; omega)).1, r1.1, ite_le (by omega) (by omega)]
      by_cases hli : W 0 0 ≤ i
      · left
        rw [if_pos hli, show i = W 0 0 by omega]
        exact ⟨σy, rfl, hky, fun j z => hj j (by omega)⟩
      · right
        rw [if_neg hli, nmx_s, C_tryLead (by omega), clx_s, nI_add1]
        refine ⟨by omega, zsI z (i + 1), _, ⟨rfl, hky.I ⟨rfl, by omega⟩, fun j q => ?_⟩, rfl⟩
        by_cases e : j = i
        · rw [e, uI_s]
          exact lz_eq z i
        · rw [uI_j e]
          exact hj j (by omega)
    have okL : okW (wL W (lzN z)) := okW_L ok (fun w _ => lz_le z w)
    have kxy : Kp (fun i j => rgE i j ∨ i = 93 ∨ (i = 23 ∧ j < W 0 0)) σ1 σy := hk.tr (y2.le (fun i j q => Or.inr (Or.inr q)))
    have cL : cW (wL W (lzN z)) σy := cW_L r1 (fun i j q z => (kxy i j (by unfold cwR at q; unfold rgE; omega)).1) y3
    have lL : LC N G σy := hlx.kp y2 (fun i j q => by unfold lcR at q; omega)
    have sL : lsW (wL W (lzN z)) (wL W (lzN z) 0 0) σy := lsW_L (hsx.of (fun i j q => (y2 i j (by unfold rgL at q; omega)).1))
    obtain ⟨v, σp, σq, σr, p1, p2, p3, p4, p5⟩ := C_again hN okL cL lL sL
    have e310 : siI σr 3 10 = nI (hwL G W (lzN z)) := p5.2.2.2.2.2.1
    have hwl : hwL G W (lzN z) ≤ 1024 := hl_1024 okL
    rw [if_neg hlt, y1, clx_s, p1, clx_s, p2, clx_s, p3, clx_s, e310, nmx_s, nmx_s, ite_eq0 (by omega), nI_add1]
    refine ⟨_, _, _, σr, ⟨rfl, rfl, rfl, kxy.tr (p4.le (fun i j q => Or.inl q)), fun j hj => by rw [(p4 93 j (by unfold rgE; omega)).1, (y2 93 j (by omega)).1]; exact h93 j hj, p5.2.1, ?_⟩, ?_⟩
    · have := p5.2.2.2.2.1
      rw [wL_o W _ (by decide)] at this
      unfold lsW at this
      simp only [szN_L, nmN_L] at this
      exact this
    · show _ = r (zsI (dsI G W a0 t).1 (W 0 0)) ((dsI G W a0 t).2.1 + nI (hwL G W (lzN (dsI G W a0 t).1))) ((dsI G W a0 t).2.2 + (if hwL G W (lzN (dsI G W a0 t).1) = 0 then 1 else 0)) _ _
      rw [hz]
      by_cases e : hwL G W (lzN z) = 0
      · rw [if_pos e, if_pos e]
        rfl
      · rw [if_neg e, if_neg e]
        rfl
  have h2 : RW N W G b σ2 := h1.stale (fun i j q => by
    by_cases e : i = 23
    · rw [e]
      exact c3 j
    · refine (c2 i j ?_).1
      unfold rwR cwR mwR lcR lmR ccR at q
      unfold rgE
      omega) c4
  -- the reference
  have hm2 := h2.2.2.1
  obtain ⟨σ3, d1, d2, d3⟩ : ∃ σ3, F_X10_drawn N a0 (nI n) a2 σ2 = some (R, σ3) ∧ Kp (fun i j => rgF i j ∨ i = 104 ∨ i = 130) σ2 σ3 ∧ ∀ j, siI σ3 104 j = siI σ2 104 j := by
    have e6' : F_X10_in a2 (0 : Int32) (1 : Int32) σ2 = some (1, σ2) := by
      rcases h01 with rfl | rfl <;> rfl
    rw [F_X10_drawn, hin', clx_s, if10, e6', clx_s, if10, nmx_s]
    refine lp1U (Q := fun o => ∃ σ3, o = some (R, σ3) ∧ Kp (fun i j => rgF i j ∨ i = 104 ∨ i = 130) σ2 σ3 ∧ ∀ j, siI σ3 104 j = siI σ2 104 j) 5 (fun i σx => Kp (fun i _ => i = 130) σ2 σx ∧ ∀ j, j < i → siI σx 130 j = siI σ2 104 j) ?_ (i := 0) (Nat.zero_le _) (by omega) ⟨Kp.rf, fun j q => absurd q (Nat.not_lt_zero _)⟩
    rintro r i σx hi ⟨hkx, hjx⟩
    unfold B_X10_drawn_L24
    rw [show (5 : Int32) = nI 5 from rfl, ite_le (by decide) (by omega)]
    by_cases hlt : 5 ≤ i
    · left
      rw [if_pos hlt]
      dsimp only
      rw [nmx_s]
      refine lp4U (Q := fun o => ∃ σ3, o = some (R, σ3) ∧ Kp (fun i j => rgF i j ∨ i = 104 ∨ i = 130) σ2 σ3 ∧ ∀ j, siI σ3 104 j = siI σ2 104 j) n (fun t x y z σy => x = (dsI G W a0 t).1 ∧ y = (dsI G W a0 t).2.1 ∧ z = (dsI G W a0 t).2.2 ∧ Kp (fun i j => rgF i j ∨ (i = 104 ∧ j < W 0 0) ∨ i = 130) σ2 σy ∧ (∀ j, j < 5 → siI σy 130 j = siI σ2 104 j)) ?_ (by omega) ⟨rfl, rfl, rfl, hkx.le (fun i j q => Or.inr (Or.inr q)), fun j hj => hjx j (by omega)⟩
      rintro r4 t x y z σy ht ⟨rfl, rfl, rfl, hky, h130⟩
      unfold B_X10_drawn_L62
      rw [ite_le (by omega) (by omega)]
      by_cases hlt2 : n ≤ t
      · left
        rw [if_pos hlt2]
        have et : t = n := by omega
        subst et
        dsimp only
        rw [nmx_s]
        refine lp1U (Q := fun o => ∃ σ3, o = some (R, σ3) ∧ Kp (fun i j => rgF i j ∨ i = 104 ∨ i = 130) σ2 σ3 ∧ ∀ j, siI σ3 104 j = siI σ2 104 j) 5 (fun i σz => Kp (fun i j => i = 104 ∧ j < 5) σy σz ∧ ∀ j, j < i → siI σz 104 j = siI σ2 104 j) ?_ (i := 0) (Nat.zero_le _) (by omega) ⟨Kp.rf, fun j q => absurd q (Nat.not_lt_zero _)⟩
        rintro r5 i5 σz hi5 ⟨hkz, hjz⟩
        unfold B_X10_drawn_L145
        rw [show (5 : Int32) = nI 5 from rfl, ite_le (by decide) (by omega)]
        by_cases hlt5 : 5 ≤ i5
        · left
          rw [if_pos hlt5]
          refine ⟨σz, ?_, (hky.le (fun i j q => by unfold rgF at q ⊢; omega)).tr (hkz.le (fun i j q => by unfold rgF; omega)), fun j => ?_⟩
          · dsimp only
            rw [← hR]
            rcases h01 with rfl | rfl <;> rfl
          · by_cases hj : j < 5
            · exact hjz j (by omega)
            · rw [(hkz 104 j (by omega)).1, (hky 104 j (by unfold rgF; omega)).1]
        · right
          rw [if_neg hlt5, aIx_k (show i5 < 5 by omega) (by decide), (hkz 130 i5 (by omega)).1, h130 i5 (by omega), sIx_k (show i5 < 5 by omega) (by decide), nI_add1]
          refine ⟨by omega, _, ⟨hkz.I ⟨rfl, by omega⟩, fun j q => ?_⟩, rfl⟩
          by_cases e : j = i5
          · rw [e, uI_s]
          · rw [uI_j e]
            exact hjz j (by omega)
      right
      refine ⟨by omega, ?_⟩
      rw [if_neg hlt2, nmx_s, nI_add1]
      generalize hz : (dsI G W a0 t).1 = z at *
      have okL : okW (wL W (lzN z)) := okW_L ok (fun w _ => lz_le z w)
      have hwl : hwL G W (lzN z) ≤ 1024 := hl_1024 okL
      refine lp2U (Q := fun o => ∃ x' y' z' σ', (x' = (dsI G W a0 (t + 1)).1 ∧ y' = (dsI G W a0 (t + 1)).2.1 ∧ z' = (dsI G W a0 (t + 1)).2.2 ∧ Kp (fun i j => rgF i j ∨ (i = 104 ∧ j < W 0 0) ∨ i = 130) σ2 σ' ∧ (∀ j, j < 5 → siI σ' 130 j = siI σ2 104 j)) ∧ o = r4 x' y' z' (nI (t + 1)) σ') (W 0 0) (fun i x σz => x = zsI z i ∧ Kp (fun i j => i = 104 ∧ j < W 0 0) σy σz ∧ ∀ j, j < i → siI σz 104 j = nI (lzN z j)) ?_ (i := 0) (Nat.zero_le _) (by omega) ⟨rfl, Kp.rf, fun j q => absurd q (Nat.not_lt_zero _)⟩
      rintro r5 i5 x σz hi5 ⟨rfl, hkz, hjz⟩
      have kyz : Kp (fun i j => rgF i j ∨ (i = 104 ∧ j < W 0 0) ∨ i = 130) σ2 σz := hky.tr (hkz.le (fun i j q => Or.inr (Or.inl q)))
      unfold B_X10_drawn_L71
      rw [(kyz 103 1 (by unfold rgF; omega)).1, hm2.1, ite_le (by omega) (by omega)]
      by_cases hlt5 : W 0 0 ≤ i5
      · left
        rw [if_pos hlt5]
        have e5 : i5 = W 0 0 := by omega
        subst e5
        have mL : mW (wL W (lzN z)) σz := mW_L hm2 (fun i j q z => (kyz i j (by unfold mwR at q; unfold rgF; omega)).1) (fun w hw => hjz w hw)
        have lL : LM N G σz := h2.2.2.2.2.1.kp kyz (fun i j q => by unfold lmR at q; unfold rgF; omega)
        obtain ⟨σw, f1, f2, -, -, f5, -⟩ := M_findHeld (N := N) (by omega) okL mL lL
        have hT := TM_no (W := wL W (lzN z)) (σ := σz) okL (by rw [(kyz 103 32 (by unfold rgF; omega)).1]; exact h2.2.2.2.2.2.2.2.1) (by rw [(kyz 103 34 (by unfold rgF; omega)).1]; exact h2.2.2.2.2.2.2.2.2.1)
        have e38 : siI σw 103 38 = nI (hwL G W (lzN z)) := by
          rw [f5, eqT.ml okL hT, ml_len okL]
          rfl
        dsimp only
        rw [f1, clx_s, e38, nmx_s, nmx_s, ite_eq0 (by omega)]
        refine ⟨_, _, _, σw, ⟨rfl, rfl, rfl, kyz.tr (f2.le (fun i j q => Or.inl q)), fun j hj => by rw [(f2 130 j (by unfold rgF; omega)).1, (hkz 130 j (by omega)).1]; exact h130 j hj⟩, ?_⟩
        show _ = r4 (zsI (dsI G W a0 t).1 (W 0 0)) ((dsI G W a0 t).2.1 + nI (hwL G W (lzN (dsI G W a0 t).1))) ((dsI G W a0 t).2.2 + (if hwL G W (lzN (dsI G W a0 t).1) = 0 then 1 else 0)) _ _
        rw [hz]
        by_cases e : hwL G W (lzN z) = 0
        · rw [if_pos e, if_pos e]
        · rw [if_neg e, if_neg e, show ∀ x : Int32, x + 0 = x from Int32.add_zero]
      · right
        rw [if_neg hlt5, nmx_s, sIx_k (show i5 < 5 by omega) (by decide), nI_add1]
        refine ⟨by omega, zsI z (i5 + 1), _, ⟨rfl, hkz.I ⟨rfl, by omega⟩, fun j q => ?_⟩, rfl⟩
        by_cases e : j = i5
        · rw [e, uI_s]
          exact lz_eq z i5
        · rw [uI_j e]
          exact hjz j (by omega)
    · right
      rw [if_neg hlt, aIx_k (show i < 5 by omega) (by decide), (hkx 104 i (by omega)).1, sIx_k (show i < 5 by omega) (by decide), nI_add1]
      refine ⟨by omega, _, ⟨hkx.I rfl, fun j q => ?_⟩, rfl⟩
      by_cases e : j = i
      · rw [e, uI_s]
      · rw [uI_j e]
        exact hjx j (by omega)
  have h3 : RW N W G b σ3 := h2.stale (fun i j q => by
    by_cases e : i = 104
    · rw [e]
      exact d3 j
    · refine (d2 i j ?_).1
      unfold rwR cwR mwR lcR lmR ccR at q
      unfold rgF
      omega) (by rw [(d2 3 2 (by unfold rgF; omega)).1]; exact c4)
  refine ⟨R, σ2, σ3, ?_, d1, ⟨W, G, b, h3⟩, ((rgA_D s2).tr (c2.le (fun i j q => by unfold rgE at q; unfold rgA otR; omega))).tr (d2.le (fun i j q => by unfold rgF at q; unfold rgA otR; omega))⟩
  rw [F_X9_drawn, if_neg q1, if_neg q2, e5, clx_s, if10, s1, clx_s, c1, clx_s]
