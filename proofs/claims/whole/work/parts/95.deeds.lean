/-! DEEDS -/
def ReE (σ : Sx) : Prop := (∀ j, j < 4 → siI σ 94 j = siI σ 131 j) ∧ (∀ j, j < 4 → siI σ 95 j = siI σ 132 j) ∧ siI σ 6 2 = siI σ 103 48 ∧ (siI σ 6 2 = 0 ∨ siI σ 6 2 = 1)
def eeR (i j : Nat) : Prop := (i = 6 ∧ j = 2) ∨ i = 94 ∨ i = 95 ∨ (i = 103 ∧ j = 48) ∨ i = 131 ∨ i = 132
theorem ReE.of {σ σ2 : Sx} (h : ReE σ) (e : ∀ i j, eeR i j → siI σ2 i j = siI σ i j) : ReE σ2 := by
  obtain ⟨h1, h2, h3, h4⟩ := h
  refine ⟨fun j hj => ?_, fun j hj => ?_, ?_, ?_⟩
  · rw [e 94 j (by unfold eeR; omega), e 131 j (by unfold eeR; omega)]
    exact h1 j hj
  · rw [e 95 j (by unfold eeR; omega), e 132 j (by unfold eeR; omega)]
    exact h2 j hj
  · rw [e 6 2 (by unfold eeR; omega), e 103 48 (by unfold eeR; omega)]
    exact h3
  · rw [e 6 2 (by unfold eeR; omega)]
    exact h4
def rgP (i j : Nat) : Prop := rgA i j ∨ eeR i j
def ReWE (N : Nat) (σ : Sx) : Prop := ReW N σ ∧ ReE σ
theorem C_lived (d m c : Int32) (σ : Sx) : ∃ σ2, F_X3_lived d m c σ = some ((), σ2) ∧ Kp (fun i _ => i = 94) σ σ2 ∧ siI σ2 94 0 = siI σ 94 0 + 1 ∧ siI σ2 94 1 = siI σ 94 1 + m ∧ siI σ2 94 2 = siI σ 94 2 + c ∧ siI σ2 94 3 = d := by
  unfold F_X3_lived
  rw [aIx_0 (by decide) (by decide), sIx_0 (by decide) (by decide), aIx_1 (by decide) (by decide), sIx_1 (by decide) (by decide), aIx_2 (by decide) (by decide), sIx_2 (by decide) (by decide), sIx_3 (by decide) (by decide)]
  refine ⟨_, rfl, (((Kp.rf.I (reg := fun i _ => i = 94) rfl).I rfl).I rfl).I rfl, ?_, ?_, ?_, uI_s⟩
  · rw [uI_j (by decide), uI_j (by decide), uI_j (by decide), uI_s]
  · rw [uI_j (by decide), uI_j (by decide), uI_s, uI_j (by decide)]
  · rw [uI_j (by decide), uI_s, uI_j (by decide), uI_j (by decide)]
theorem M_lived {N : Nat} {W : Wd} {σ : Sx} (hN : 8 < N) (ok : okW W) (h : mW W σ) (hc : mC W σ) {d : Nat} (hd : isDy W d) : ∃ σ2, F_X10_lived N (nI d) σ = some ((), σ2) ∧ Kp (fun i j => rgM i j ∨ i = 131) σ σ2 ∧ siI σ2 131 0 = siI σ 131 0 + 1 ∧ siI σ2 131 1 = siI σ 131 1 + nI (metN W d) ∧ siI σ2 131 2 = siI σ 131 2 ∧ siI σ2 131 3 = nI d ∧ siI σ2 103 39 = nI (metN W d) := by
  obtain ⟨σ1, f1, f2, f3, -⟩ := M_findMet hN ok h hc hd
  have e : ∀ j, siI σ1 131 j = siI σ 131 j := fun j => (f2 131 j (by unfold rgM; omega)).1
  unfold F_X10_lived
  rw [f1, clx_s, aIx_0 (by decide) (by decide), sIx_0 (by decide) (by decide), aIx_1 (by decide) (by decide), uI_i (a := 103) (by decide), f3, sIx_1 (by decide) (by decide), sIx_3 (by decide) (by decide)]
  refine ⟨_, rfl, (((f2.le (r2 := fun i j => rgM i j ∨ i = 131) (fun i j q => Or.inl q)).I (Or.inr rfl)).I (Or.inr rfl)).I (Or.inr rfl), ?_, ?_, ?_, uI_s, ?_⟩
  · rw [uI_j (by decide), uI_j (by decide), uI_s, e]
  · rw [uI_j (by decide), uI_s, uI_j (by decide), e]
  · rw [uI_j (by decide), uI_j (by decide), uI_j (by decide), e]
  · rw [uI_i (by decide), uI_i (by decide), uI_i (by decide), f3]
theorem s_led (a0 : Int32) {σ : Sx} (h : ReE σ) : StI ReE rgP σ (F_X9_led a0 σ) (F_X10_led a0) := by
  rcases in_m (n := 3) (by decide) a0 σ with ⟨e, q⟩ | ⟨k, hk, rfl, e⟩
  · refine ⟨-1, σ, σ, ?_, by rw [F_X10_led, show (3 : Int32) = nI 3 from rfl, e]; rfl, h, Kp.rf⟩
    rw [F_X9_led]
    rcases q with q | ⟨q1, q2⟩
    · rw [if_pos q]
    · rw [if_neg q1, if_neg (show ¬ a0 ≤ (3 : Int32) from Int32.not_le.mpr q2)]
  · refine ⟨siI σ 94 k, σ, σ, ?_, ?_, h, Kp.rf⟩
    · rw [F_X9_led, if_neg (nI_pos (by omega)), if_pos (show nI k ≤ (3 : Int32) from nI_le (b := 3) hk (by decide)), F_X3_told, aIx_k (by omega) (by decide), clx_s]
    · rw [F_X10_led, show (3 : Int32) = nI 3 from rfl, e, clx_s, if10, aIx_k (by omega) (by decide), h.1 k (by omega)]
theorem cp4 {σ : Sx} {a c : Nat} {α : Type} (K : Sx → Option α) : ∃ σ2, cIx a 4 (0 : Int32) c 4 (0 : Int32) (Int32.ofNat 4) σ K = K σ2 ∧ Kp (fun i _ => i = c) σ σ2 ∧ ∀ j, j < 4 → siI σ2 c j = siI σ a j := by
  unfold cIx
  rw [if_pos (by decide)]
  refine ⟨_, rfl, fun i j q => ⟨?_, rfl⟩, fun j hj => ?_⟩
  · show (if i = c then _ else σ.1 i) j = siI σ i j
    rw [if_neg q]
    rfl
  · show (if c = c then va_cpy (siI σ a) (siI σ c) 0 0 4 else σ.1 c) j = _
    rw [if_pos rfl, pk_cpy_in (Nat.zero_le _) (by omega), Nat.zero_add, Nat.sub_zero]
theorem s_image {N : Nat} (hN : 8 < N) {σ : Sx} (h : ReE σ) : StI ReE rgP σ (F_X9_image σ) (F_X10_image N) := by
  obtain ⟨h1, h2, h3, h4⟩ := h
  have hc : ∃ σ1, F_X9_image σ = some (siI σ 94 0, σ1) ∧ Kp (fun i j => i = 95 ∨ (i = 6 ∧ j = 2)) σ σ1 ∧ (∀ j, j < 4 → siI σ1 95 j = siI σ 94 j) ∧ siI σ1 6 2 = 1 := by
    unfold F_X9_image F_X3_keepImage
    obtain ⟨σ1, c1, c2, c3⟩ := cp4 (σ := σ) (a := 94) (c := 95) (fun σ1 => pZx 6 2 (1 : Int32) σ1 (fun σ2 => some ((), σ2)))
    rw [c1, pZx, if_pos (Or.inr rfl), clx_s]
    refine ⟨upI σ1 6 2 1, ?_, (c2.le (fun i j q => Or.inl q)).I (Or.inr ⟨rfl, rfl⟩), fun j hj => by rw [uI_i (by decide)]; exact c3 j hj, uI_s⟩
    rw [F_X3_told, aIx_0 (by decide) (by decide), clx_s, uI_i (by decide), (c2 94 0 (by omega)).1]
  obtain ⟨σ1, c1, c2, c3, c4⟩ := hc
  have e131 : ∀ j, siI σ1 131 j = siI σ 131 j := fun j => (c2 131 j (by omega)).1
  obtain ⟨σ2, d1, d2, d3⟩ : ∃ σ2, F_X10_image N σ1 = some (siI σ 131 0, σ2) ∧ Kp (fun i _ => i = 132) (upI σ1 103 48 1) σ2 ∧ ∀ j, j < 4 → siI σ2 132 j = siI σ 131 j := by
    unfold F_X10_image
    rw [pZx, if_pos (Or.inr rfl), nmx_s]
    refine lp1U (Q := fun o => ∃ σ2, o = some (siI σ 131 0, σ2) ∧ Kp (fun i _ => i = 132) (upI σ1 103 48 1) σ2 ∧ ∀ j, j < 4 → siI σ2 132 j = siI σ 131 j) 4 (fun k σx => Kp (fun i _ => i = 132) (upI σ1 103 48 1) σx ∧ ∀ j, j < k → siI σx 132 j = siI σ 131 j) ?_ (i := 0) (Nat.zero_le _) (by omega) ⟨Kp.rf, fun j q => absurd q (Nat.not_lt_zero _)⟩
    rintro r k σx hk ⟨hkx, hj⟩
    unfold B_X10_image_L7
    rw [show (4 : Int32) = nI 4 from rfl, ite_le (by decide) (by omega)]
    by_cases hlt : 4 ≤ k
    · left
      rw [if_pos hlt]
      dsimp only
      rw [aIx_0 (by decide) (by decide), (hkx 131 0 (by omega)).1, uI_i (by decide), e131]
      exact ⟨σx, rfl, hkx, fun j q => hj j (by omega)⟩
    · right
      rw [if_neg hlt, aIx_k (by omega) (by decide), (hkx 131 k (by omega)).1, uI_i (by decide), e131, sIx_k (by omega) (by decide), nI_add1]
      refine ⟨by omega, _, ⟨hkx.I rfl, fun j q => ?_⟩, rfl⟩
      by_cases e : j = k
      · rw [e, uI_s]
      · rw [uI_j e]
        exact hj j (by omega)
  have kk : Kp (fun i j => i = 95 ∨ (i = 6 ∧ j = 2) ∨ i = 132 ∨ (i = 103 ∧ j = 48)) σ σ2 := ((c2.le (fun i j q => by omega)).tr (Kp.rf.I (a := 103) (b := 48) (by omega))).tr (d2.le (fun i j q => by omega))
  refine ⟨siI σ 94 0, σ1, σ2, c1, by rw [d1, h1 0 (by omega)], ⟨fun j hj => ?_, fun j hj => ?_, ?_, ?_⟩, kk.le (fun i j q => by unfold rgP eeR; omega)⟩
  · rw [(kk 94 j (by omega)).1, (kk 131 j (by omega)).1]
    exact h1 j hj
  · rw [d3 j hj, (d2 95 j (by omega)).1, uI_i (by decide), c3 j hj]
    exact h1 j hj
  · rw [(d2 6 2 (by omega)).1, uI_i (by decide), c4, (d2 103 48 (by omega)).1, uI_s]
  · rw [(d2 6 2 (by omega)).1, uI_i (by decide), c4]
    exact Or.inr rfl
theorem s_back {N : Nat} (hN : 8 < N) {σ : Sx} (h : ReE σ) : StI ReE rgP σ (F_X9_back σ) (F_X10_back N) := by
  obtain ⟨h1, h2, h3, h4⟩ := id h
  by_cases hz : siI σ 6 2 = 0
  · refine ⟨-5, σ, σ, ?_, by rw [F_X10_back, ← h3, if_pos hz], h, Kp.rf⟩
    rw [F_X9_back, F_X3_layBack, nmx_s, if_pos hz]
    dsimp only
    rw [hz]
    rfl
  have h62 : siI σ 6 2 = 1 := h4.resolve_left hz
  obtain ⟨σ1, c1, c2, c3⟩ : ∃ σ1, F_X9_back σ = some (siI σ 95 0, σ1) ∧ Kp (fun i _ => i = 94) σ σ1 ∧ ∀ j, j < 4 → siI σ1 94 j = siI σ 95 j := by
    rw [F_X9_back, F_X3_layBack, nmx_s, if_neg hz]
    obtain ⟨σ1, c1, c2, c3⟩ := cp4 (σ := σ) (a := 95) (c := 94) (fun σ2 => (fun (σ1 : Sx) => rZx (siI σ1 6 2) σ1) σ2)
    rw [c1]
    dsimp only
    rw [(c2 6 2 (by omega)).1, h62, rZx, if_pos (Or.inr rfl), clx_s, if10, F_X3_told, aIx_0 (by decide) (by decide), clx_s, c3 0 (by decide)]
    exact ⟨σ1, rfl, c2, c3⟩
  have e132 : ∀ j, siI σ1 132 j = siI σ 132 j := fun j => (c2 132 j (by omega)).1
  obtain ⟨σ2, d1, d2, d3⟩ : ∃ σ2, F_X10_back N σ1 = some (siI σ 132 0, σ2) ∧ Kp (fun i _ => i = 131) σ1 σ2 ∧ ∀ j, j < 4 → siI σ2 131 j = siI σ 132 j := by
    unfold F_X10_back
    rw [(c2 103 48 (by omega)).1, ← h3, if_neg hz, nmx_s]
    refine lp1U (Q := fun o => ∃ σ2, o = some (siI σ 132 0, σ2) ∧ Kp (fun i _ => i = 131) σ1 σ2 ∧ ∀ j, j < 4 → siI σ2 131 j = siI σ 132 j) 4 (fun k σx => Kp (fun i _ => i = 131) σ1 σx ∧ ∀ j, j < k → siI σx 131 j = siI σ 132 j) ?_ (i := 0) (Nat.zero_le _) (by omega) ⟨Kp.rf, fun j q => absurd q (Nat.not_lt_zero _)⟩
    rintro r k σx hk ⟨hkx, hj⟩
    unfold B_X10_back_L12
    rw [show (4 : Int32) = nI 4 from rfl, ite_le (by decide) (by omega)]
    by_cases hlt : 4 ≤ k
    · left
      rw [if_pos hlt]
      dsimp only
      rw [aIx_0 (by decide) (by decide), hj 0 (by omega)]
      exact ⟨σx, rfl, hkx, fun j q => hj j (by omega)⟩
    · right
      rw [if_neg hlt, aIx_k (by omega) (by decide), (hkx 132 k (by omega)).1, e132, sIx_k (by omega) (by decide), nI_add1]
      refine ⟨by omega, _, ⟨hkx.I rfl, fun j q => ?_⟩, rfl⟩
      by_cases e : j = k
      · rw [e, uI_s]
      · rw [uI_j e]
        exact hj j (by omega)
  have kk : Kp (fun i _ => i = 94 ∨ i = 131) σ σ2 := (c2.le (fun i j q => by omega)).tr (d2.le (fun i j q => by omega))
  refine ⟨siI σ 95 0, σ1, σ2, c1, by rw [d1, h2 0 (by omega)], ⟨fun j hj => ?_, fun j hj => ?_, ?_, ?_⟩, kk.le (fun i j q => by unfold rgP eeR; omega)⟩
  · rw [d3 j hj, (d2 94 j (by omega)).1, c3 j hj]
    exact h2 j hj
  · rw [(kk 95 j (by omega)).1, (kk 132 j (by omega)).1]
    exact h2 j hj
  · rw [(kk 6 2 (by omega)).1, (kk 103 48 (by omega)).1]
    exact h3
  · rw [(kk 6 2 (by omega)).1]
    exact h4
theorem RW.e {N : Nat} {W : Wd} {G : Gt} {b : Bool} {σ σ2 : Sx} (h : RW N W G b σ) (k : Kp (fun i j => rgM i j ∨ eeR i j) σ σ2) : RW N W G b σ2 := h.kp k (fun i j q => by
  unfold rwR cwR mwR lcR lmR ccR dyR at q
  unfold rgM eeR
  omega)
theorem ReE.kpA {σ σ2 : Sx} (h : ReE σ) (k : Kp rgA σ σ2) : ReE σ2 := h.of (fun i j q => (k i j (fun z => z (by unfold eeR at q; unfold otR; omega))).1)
theorem s_live {N : Nat} (hN : 1100 < N) (a0 : Int32) {σ : Sx} (h : ReWE N σ) : StI (ReWE N) rgP σ (F_X9_live N a0 σ) (F_X10_live N a0) := by
  obtain ⟨⟨W, G, b, h⟩, hE⟩ := h
  obtain ⟨ok, hc, hm⟩ := h.of3
  by_cases h0 : 0 ≤ a0
  · obtain ⟨k, hk, rfl⟩ := nI_of (Int32.not_lt.mpr h0)
    obtain ⟨σ1, s1, s2, h1, hr, hs⟩ := h.stale0 (by omega)
    have hE1 := hE.kpA (rgA_D s2)
    have hlen := hl_1024 (G := G) (T := T0 W) ok
    rcases C_heldDay ok hr (nI k) with ⟨g1, g2⟩ | ⟨j, hj, ej, g1⟩
    · obtain ⟨σ2, f1, f2, -, -, f3, -⟩ := h1.held (by omega)
      refine ⟨-2, σ1, σ2, ?_, ?_, ⟨⟨W, G, b, h1.F f2⟩, hE1.kpA (rgA_F f2)⟩, ((rgA_D s2).tr (rgA_F f2)).le (fun i j q => Or.inl q)⟩
      · rw [F_X9_live, if_pos h0, s1, clx_s, g1, clx_s, if_neg (by decide)]
      · have := g2 k rfl
        rw [F_X10_live, if_pos h0, f1, clx_s, f3, if_neg (nI_nlt this hk)]
    · have ekj : k = j := (nI_eq hk (by omega)).mp ej
      subst ekj
      have hd := ml_day (G := G) (T := T0 W) ok hj
      have hd1 := hd.1
      obtain ⟨σ2, l1, l2, l3, l4, l5, l6⟩ := C_lived (nI ((mlL G W (T0 W)).getD k 0)) (nI (metN W ((mlL G W (T0 W)).getD k 0))) (0 : Int32) σ1
      have h2 : RW N W G b σ2 := h1.e (l2.le (fun i j q => Or.inr (by unfold eeR; omega)))
      obtain ⟨σ3, f1, f2, f3, -, f4, f5⟩ := h2.held (by omega)
      have h3 := h2.F f2
      obtain ⟨σ4, m1, m2, m3, m4, m5, m6, m7⟩ := M_lived (N := N) (by omega) ok h3.2.2.1 f3 hd
      have h4 : RW N W G b σ4 := h3.e (m2.le (fun i j q => by rcases q with q | q; exact Or.inl q; exact Or.inr (by unfold eeR; omega)))
      have e131 : ∀ j, siI σ3 131 j = siI σ1 131 j := fun j => by rw [(f2 131 j (by unfold rgF; omega)).1, (l2 131 j (by omega)).1]
      have k24 : Kp (fun i j => rgF i j ∨ rgM i j ∨ i = 131) σ2 σ4 := (f2.le (fun i j q => Or.inl q)).tr (m2.le (fun i j q => Or.inr q))
      have e94 : ∀ j, siI σ4 94 j = siI σ2 94 j := fun j => (k24 94 j (by unfold rgF rgM; omega)).1
      have hE4 : ReE σ4 := by
        obtain ⟨a1, a2, a3, a4⟩ := hE1
        have ea : ∀ i j, (i = 95 ∨ i = 132 ∨ i = 6 ∨ (i = 103 ∧ j = 48)) → siI σ4 i j = siI σ1 i j := fun i j q => by rw [(k24 i j (by unfold rgF rgM; omega)).1, (l2 i j (by omega)).1]
        refine ⟨fun j hj => ?_, fun j hj => by rw [ea 95 j (by omega), ea 132 j (by omega)]; exact a2 j hj, by rw [ea 6 2 (by omega), ea 103 48 (by omega)]; exact a3, by rw [ea 6 2 (by omega)]; exact a4⟩
        rw [e94]
        match j, hj with
        | 0, _ => rw [l3, m3, e131, a1 0 (by decide)]
        | 1, _ => rw [l4, m4, e131, a1 1 (by decide)]
        | 2, _ => rw [l5, m5, e131, a1 2 (by decide), Int32.add_zero]
        | 3, _ => rw [l6, m6]
      refine ⟨nI (metN W ((mlL G W (T0 W)).getD k 0)), σ2, σ4, ?_, ?_, ⟨⟨W, G, b, h4⟩, hE4⟩, (((rgA_D s2).le (fun i j q => Or.inl q)).tr (l2.le (fun i j q => Or.inr (by unfold eeR; omega)))).tr (k24.le (fun i j q => by unfold rgF rgM at q; show rgA i j ∨ eeR i j; unfold rgA otR eeR; omega))⟩
      · rw [F_X9_live, if_pos h0, s1, clx_s, g1, clx_s, if_pos (nI_pos' (by omega)), C_meetings (by omega) ok h1.2.1 (by omega), clx_s, l1, clx_s]
      · rw [F_X10_live, if_pos h0, f1, clx_s, f4, if_pos (nI_lt hj (by omega)), aIx_k (show k < 1024 by omega) (by decide), f5 k (by rw [ml_len ok]; exact hj), m1, clx_s, m7]
  · exact ⟨-1, σ, σ, by rw [F_X9_live, if_neg h0], by rw [F_X10_live, if_neg h0], ⟨⟨W, G, b, h⟩, hE⟩, Kp.rf⟩
theorem dg_tb (d u j : Nat) : (dg d u).testBit j = (decide (j < 2) && d.testBit (j + 2 * u)) := by
  unfold dg
  rw [show (4 : Nat) = 2 ^ 2 from rfl, Nat.testBit_mod_two_pow, Nat.testBit_div_two_pow]
theorem tb3 (w i : Nat) : (3 * 2 ^ (2 * w)).testBit i = decide (i / 2 = w) := by
  rw [Nat.testBit_mul_two_pow, show (3 : Nat) = 2 ^ 2 - 1 from rfl, Nat.testBit_two_pow_sub_one]
  by_cases h : i / 2 = w
  · simp [h, show 2 * w ≤ i by omega, show i - 2 * w < 2 by omega]
  · by_cases h2 : 2 * w ≤ i
    · simp [h, h2, show ¬ i - 2 * w < 2 by omega]
    · simp [h, h2]
theorem wWayA {d w : Nat} (hd : d < 1024) (hw : w < 5) : ∃ A, A < 2 ^ 10 ∧ (∀ i, A.testBit i = (d.testBit i && !decide (i / 2 = w))) ∧ nI d &&& ((jshl (3 : Int32) ((2 : Int32) * nI w)) ^^^ (-1 : Int32)) = nI A := by
  have p8 : 2 ^ (2 * w) ≤ 2 ^ 8 := Nat.pow_le_pow_right (by decide) (show 2 * w ≤ 8 by omega)
  have hz : ∀ i, 10 ≤ i → d.testBit i = false := fun i hi => Nat.testBit_lt_two_pow (Nat.lt_of_lt_of_le (show d < 2 ^ 10 from hd) (Nat.pow_le_pow_right (by decide) hi))
  have e3 : jshl (3 : Int32) ((2 : Int32) * nI w) = nI (3 * 2 ^ (2 * w)) := by
    rw [mul2L]
    exact shlI (a := 3) (by omega) (by omega)
  have hb : ∀ i, (bst 20 (fun i => d.testBit i && !(3 * 2 ^ (2 * w)).testBit i)).testBit i = (d.testBit i && !decide (i / 2 = w)) := fun i => by
    rw [bst_tb, tb3]
    by_cases h : i < 20
    · rw [decide_eq_true h, Bool.true_and]
    · rw [decide_eq_false h, hz i (by omega)]
      rfl
  have ea := andc (a := d) (b := 3 * 2 ^ (2 * w)) (show d < 2 ^ 20 by omega)
  generalize bst 20 (fun i => d.testBit i && !(3 * 2 ^ (2 * w)).testBit i) = A at hb ea
  refine ⟨A, ?_, hb, by rw [e3]; exact ea⟩
  apply Nat.lt_pow_two_of_testBit
  intro i hi
  rw [hb, hz i hi]
  rfl
theorem wWayB {w v : Nat} (hw : w < 5) (hv : v < 4) : ∃ B, B < 2 ^ 10 ∧ (∀ i, B.testBit i = (decide (2 * w ≤ i) && v.testBit (i - 2 * w))) ∧ jshl (nI v) ((2 : Int32) * nI w) = nI B := by
  have p8 : 2 ^ (2 * w) ≤ 2 ^ 8 := Nat.pow_le_pow_right (by decide) (show 2 * w ≤ 8 by omega)
  have hv3 : v * 2 ^ (2 * w) ≤ 3 * 2 ^ 8 := Nat.mul_le_mul (by omega) p8
  refine ⟨v * 2 ^ (2 * w), by omega, fun i => by rw [Nat.testBit_mul_two_pow], ?_⟩
  rw [mul2L]
  exact shlI (by omega) (by omega)
theorem wWay {d w v : Nat} (hd : d < 1024) (hw : w < 5) (hv : v < 4) : ∃ D, D < 1024 ∧ ((nI d &&& ((jshl (3 : Int32) ((2 : Int32) * nI w)) ^^^ (-1 : Int32))) ||| (jshl (nI v) ((2 : Int32) * nI w))) = nI D ∧ dg D w = v ∧ ∀ u, u ≠ w → dg D u = dg d u := by
  obtain ⟨A, hA, hAb, eA⟩ := wWayA hd hw
  obtain ⟨B, hB, hBb, eB⟩ := wWayB hw hv
  have v2 : ∀ j, 2 ≤ j → v.testBit j = false := fun j hj => Nat.testBit_lt_two_pow (Nat.lt_of_lt_of_le (show v < 2 ^ 2 from hv) (Nat.pow_le_pow_right (by decide) hj))
  refine ⟨A ||| B, Nat.or_lt_two_pow (n := 10) hA hB, by rw [eA, eB, orI], ?_, ?_⟩
  · apply Nat.eq_of_testBit_eq
    intro j
    rw [dg_tb, Nat.testBit_or, hAb, hBb]
    by_cases hj : j < 2
    · rw [decide_eq_true hj, decide_eq_true (show (j + 2 * w) / 2 = w by omega), decide_eq_true (show 2 * w ≤ j + 2 * w by omega), show j + 2 * w - 2 * w = j by omega]
      simp
    · rw [decide_eq_false hj, v2 j (by omega)]
      rfl
  · intro u hu
    apply Nat.eq_of_testBit_eq
    intro j
    rw [dg_tb, dg_tb, Nat.testBit_or, hAb, hBb]
    by_cases hj : j < 2
    · rw [decide_eq_true hj, decide_eq_false (show ¬ (j + 2 * u) / 2 = w by omega)]
      by_cases e2 : 2 * w ≤ j + 2 * u
      · rw [v2 (j + 2 * u - 2 * w) (by omega)]
        simp
      · rw [decide_eq_false e2]
        simp
    · rw [decide_eq_false hj]
      rfl
theorem s_step {N : Nat} (hN : 1100 < N) (a0 a1 : Int32) {σ : Sx} (h : ReWE N σ) : StI (ReWE N) rgP σ (F_X9_step N a0 a1 σ) (F_X10_step N a0 a1) := by
  obtain ⟨⟨W, G, b, h⟩, hE⟩ := h
  obtain ⟨ok, hc, hm⟩ := h.of3
  have hn := ok.nw
  rcases two_way ok a0 a1 hc.1 hc.2.2.1 hm with ⟨e1, e2⟩ | ⟨w, v, hw, hv, rfl, rfl, e1, e2⟩
  · exact ⟨-1, σ, σ, by rw [F_X9_step, e1]; rfl, by rw [F_X10_step, e2]; rfl, ⟨⟨W, G, b, h⟩, hE⟩, Kp.rf⟩
  have h4w := ok.ways w
  have e3 : F_X3_told (3 : Int32) σ = some (siI σ 94 3, σ) := by
    unfold F_X3_told
    rw [aIx_3 (by decide) (by decide)]
  have e93 : siI σ 94 3 = siI σ 131 3 := hE.1 3 (by decide)
  rcases two_day (N := N) (by omega) ok hc.2.2.1 hm (siI σ 94 3) with ⟨d1, d2⟩ | ⟨d, hd, ed, d1, d2⟩
  · refine ⟨-5, σ, σ, by rw [F_X9_step, e1, clx_s, if10, e3, clx_s, d1]; rfl, ?_, ⟨⟨W, G, b, h⟩, hE⟩, Kp.rf⟩
    rw [F_X10_step, e2, clx_s, if10, aIx_3 (by decide) (by decide), aIx_3 (by decide) (by decide), ← e93, d2, clx_s, if_pos rfl, ite_self]
  have hd1 := hd.1
  obtain ⟨σ1, s1, s2, h1, hr, hs⟩ := h.stale0 (by omega)
  have hE1 := hE.kpA (rgA_D s2)
  obtain ⟨σ2, g1, g2, g3⟩ := C_lawful (N := N) ok hr.D hw d
  obtain ⟨h2, hr2⟩ := h1.wrk hr g2 g3.2.2.2 hs
  obtain ⟨σ3, n1, n2, n3⟩ := C_nextDay (N := N) (by omega) ok hr2.D (show d < 2 ^ 31 by omega)
  obtain ⟨h3, -⟩ := h2.wrk hr2 n2 n3.2.2.2 (by rw [(g2 3 2 (by unfold rgW; omega)).1]; exact hs)
  have hE3 : ReE σ3 := (hE1.kpA (rgA_W g2)).kpA (rgA_W n2)
  have hnx := nxt_day (G := G) (T := T0 W) (d := d) ok
  obtain ⟨D, hD1, hD2, hD3, hD4⟩ := wWay hnx.1 (show w < 5 by omega) (show v < 4 by omega)
  have hDy : isDy W D := ⟨hD1, fun u hu => by
    by_cases e : u = w
    · rw [e, hD3]
      exact Or.inr hv
    · rw [hD4 u e]
      exact hnx.2 u hu⟩
  have ht := tkw_lt (G := G) (s := sgt (W 0 0) (T0 W) d w) ok hw
  have hf := (ok.2.1 w hw).2.2.1
  generalize hC : (if v = tks G W (T0 W) d w then (0 : Int32) else nI (W 3 w)) = C
  obtain ⟨σ4, l1, l2, l3, l4, l5, l6⟩ := C_lived (nI D) (nI (metN W D)) C σ3
  have h4 : RW N W G b σ4 := h3.e (l2.le (fun i j q => Or.inr (by unfold eeR; omega)))
  -- the reference
  have e131 : ∀ j, siI σ4 131 j = siI σ3 131 j := fun j => (l2 131 j (by omega)).1
  have e313 : siI σ3 131 3 = nI d := by
    rw [← hE3.1 3 (by decide), (n2 94 3 (by unfold rgW; omega)).1, (g2 94 3 (by unfold rgW; omega)).1, (s2 94 3 (by unfold rgD; omega)).1]
    exact ed
  obtain ⟨σ5, f1, f2, f3, T, hT, f4⟩ := h4.sights (by omega)
  have h5 := h4.F f2.S
  have e5 : ∀ j, siI σ5 131 j = siI σ3 131 j := fun j => by rw [(f2 131 j (by unfold rgS; omega)).1, e131]
  generalize hσ6 : upI σ5 131 2 (siI σ5 131 2 + C) = σ6
  have k6 : Kp (fun i _ => i = 131) σ5 σ6 := by rw [← hσ6]; exact Kp.rf.I rfl
  have h6 : RW N W G b σ6 := h5.e (k6.le (fun i j q => Or.inr (by unfold eeR; omega)))
  have c6 : mC W σ6 := f3.kp k6 (fun j => by omega)
  obtain ⟨σ7, m1, m2, m3, m4, m5, m6, -⟩ := M_lived (N := N) (by omega) ok h6.2.2.1 c6 hDy
  have h7 : RW N W G b σ7 := h6.e (m2.le (fun i j q => by rcases q with q | q; exact Or.inl q; exact Or.inr (by unfold eeR; omega)))
  have k47 : Kp (fun i j => rgF i j ∨ rgM i j ∨ i = 131) σ4 σ7 := ((f2.S.le (fun i j q => Or.inl q)).tr (k6.le (fun i j q => Or.inr (Or.inr q)))).tr (m2.le (fun i j q => Or.inr q))
  have hE7 : ReE σ7 := by
    obtain ⟨a1, a2, a3, a4⟩ := hE3
    have ea : ∀ i j, (i = 95 ∨ i = 132 ∨ i = 6 ∨ (i = 103 ∧ j = 48)) → siI σ7 i j = siI σ3 i j := fun i j q => by rw [(k47 i j (by unfold rgF rgM; omega)).1, (l2 i j (by omega)).1]
    have e94 : ∀ j, siI σ7 94 j = siI σ4 94 j := fun j => (k47 94 j (by unfold rgF rgM; omega)).1
    refine ⟨fun j hj => ?_, fun j hj => by rw [ea 95 j (by omega), ea 132 j (by omega)]; exact a2 j hj, by rw [ea 6 2 (by omega), ea 103 48 (by omega)]; exact a3, by rw [ea 6 2 (by omega)]; exact a4⟩
    rw [e94]
    match j, hj with
    | 0, _ => rw [l3, m3, ← hσ6, uI_j (by decide), e5, a1 0 (by decide)]
    | 1, _ => rw [l4, m4, ← hσ6, uI_j (by decide), e5, a1 1 (by decide)]
    | 2, _ => rw [l5, m5, ← hσ6, uI_s, e5, a1 2 (by decide)]
    | 3, _ => rw [l6, m6]
  refine ⟨C, σ4, σ7, ?_, ?_, ⟨⟨W, G, b, h7⟩, hE7⟩, (((((rgA_D s2).tr (rgA_W g2)).tr (rgA_W n2)).le (fun i j q => Or.inl q)).tr (l2.le (fun i j q => Or.inr (by unfold eeR; omega)))).tr (k47.le (fun i j q => by unfold rgF rgM at q; show rgA i j ∨ eeR i j; unfold rgA otR eeR; omega))⟩
  · have eW : F_X8_withWay (nI (nxt G W (T0 W) d)) (nI w) (nI v) σ3 = some (nI D, σ3) := by
      unfold F_X8_withWay
      rw [hD2]
    rw [F_X9_step, e1, clx_s, if10, e3, clx_s, d1, clx_s, if10, s1, clx_s, ed, C_waysOn (by omega) ok h1.2.1 (by omega), clx_s, g1, clx_s, nmx_s, ite_eq (by omega) (by unfold tks; omega)]
    have eF : F_X8_told (nI w) (2 : Int32) σ2 = some (nI (W 3 w), σ2) := by
      unfold F_X8_told
      rw [if_neg (by decide), aRx3_2, aIx_k (show w < 5 by omega) (by decide), (h2.2.1.2.1 w hw).2.2]
    have tail : (fun (y1 : Int32) (σ7 : Sx) => clx (F_X2_nextDay N (nI d) σ7) (fun v6 σ8 => clx (F_X8_withWay v6 (nI w) (nI v) σ8) (fun v7 σ9 => clx (F_X8_meetings N v7 σ9) (fun v8 σ10 => clx (F_X3_lived v7 v8 y1 σ10) (fun _ σ11 => some (y1, σ11)))))) C σ2 = some (C, σ4) := by
      dsimp only
      rw [n1, clx_s, eW, clx_s, C_meetings (by omega) ok h3.2.1 (by omega), clx_s, l1, clx_s]
    by_cases e : v = tks G W (T0 W) d w
    · rw [if_pos e] at hC ⊢
      rw [← hC] at tail ⊢
      exact tail
    · rw [if_neg e] at hC ⊢
      rw [eF, clx_s]
      rw [← hC] at tail ⊢
      exact tail
  · have e2' : F_X10_isWay (nI w) (nI v) σ4 = some (1, σ4) := by
      rw [M_isWay ok h4.2.2.1 (by omega), if_neg (nI_pos (by omega)), if_neg (nI_ge hv (by omega))]
    have e31 : siI σ4 131 3 = nI d := by rw [e131, e313]
    have e51 : siI σ5 131 3 = nI d := by rw [e5, e313]
    rw [F_X10_step, e2', clx_s, if10, aIx_3 (by decide) (by decide), e31, if_neg (nI_pos (by omega)), aIx_3 (by decide) (by decide), e31, h4.nx hN hd, clx_s, if10, f1, clx_s, aIx_3 (by decide) (by decide), e51, M_takesOn (by omega) ok h5.2.2.1 f4 hd hw, clx_s, hT.tk hw, aIx_3 (by decide) (by decide), e51, M_nextOf (by omega) ok h5.2.2.1 f4 hd, clx_s, hT.nx, hD2, nmx_s, nmx_s, ite_eq (by unfold tks; omega) (by omega)]
    have tail : (fun (y1 : Int32) (σ6 : Sx) => aIx 131 4 (2 : Int32) σ6 (fun v10 => sIx 131 4 (2 : Int32) (v10 + y1) σ6 (fun σ7 => clx (F_X10_lived N (nI D) σ7) (fun _ σ8 => some (y1, σ8))))) C σ5 = some (C, σ7) := by
      dsimp only
      rw [aIx_2 (by decide) (by decide), sIx_2 (by decide) (by decide), hσ6, m1, clx_s]
    by_cases e : v = tks G W (T0 W) d w
    · rw [if_pos e] at hC
      rw [if_pos e.symm]
      rw [← hC] at tail ⊢
      exact tail
    · rw [if_neg e] at hC
      rw [if_neg (fun q => e q.symm), aIx_k (show w < 5 by omega) (by decide), (h5.2.2.1.2.1 w hw).2.2.1]
      rw [← hC] at tail ⊢
      exact tail
