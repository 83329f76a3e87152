/-! THE TWO READERS OF A LAW: ranks -/
theorem R4_chain (N d : Nat) (a0 a1 : Int32) (σ : Sx) : R_X4_grp N (d + 1) 1 a0 a1 σ = G_X4_chain N (R_X4_grp N d) a0 a1 σ := rfl
theorem J_rank {n : Nat} {B : Nat → Nat} {N q r d : Nat} (hn : n ≤ 120) (hN : 130 < N) (hB : ∀ j, j < n → B j < 256) (hr : r < 5) (hr2 : r ≠ 2) {inner : Sx → Option (Unit × Sx)} {BM : (Sx → Option (Unit × Sx)) → Sx → Option (Unit × Sx)} (hi : ∀ p, p ≤ n → JJ n B q p (R_X4_grp N d 1 (nI (r + 1)) (nI q)) inner) (hM : lvM n B q r inner BM) : ∀ p, p ≤ n → JJ n B q p (R_X4_grp N (d + 1) 1 (nI r) (nI q)) (fun σ => clx (inner σ) (fun _ σ1 => lpx0 BM N σ1)) := by
  intro p hp
  have eC : ∀ σ, R_X4_grp N (d + 1) 1 (nI r) (nI q) σ = clx (R_X4_grp N d 1 (nI (r + 1)) (nI q) σ) (fun v1 σ1 => (if v1 = 0 then some ((0 : Int32), σ1) else lpx1 (B_X4_chain_L39 N (R_X4_grp N d) (nI r) (nI q) (nI 120)) N (nI 0) σ1)) := fun σ => by
    rw [R4_chain, G_X4_chain, if_pos (show nI r < (5 : Int32) from nI_lt hr (by decide))]
    simp only [nI_add1, nmx_s, if_neg (show ¬ nI r = (2 : Int32) from fun z => hr2 ((nI_eq (b := 2) (by omega) (by decide)).mp z))]
    rfl
  rcases hi p hp with ⟨p1, E1, v1, a1, a2, a3, a4, a5, a6⟩ | ⟨p1, a1, a2, a3, a4⟩
  · rcases J_loop hn hB hr hi hM n p1 0 N N E1 v1 (by omega) a2 (Nat.zero_le _) (by omega) (by omega) a4 with ⟨p2, E2, v2, b1, b2, b3, b4, b5, b6⟩ | ⟨p2, b1, b2, b3, b4⟩
    · refine Or.inl ⟨p2, E1 ++ E2, v2, by omega, b2, by rw [List.length_append]; omega, b4, fun D σ hD hl => ?_, fun L σ hL hl => ?_⟩
      · obtain ⟨σ1, d1, d2, d3⟩ := a5 D σ hD hl
        obtain ⟨σ2, e1, e2, e3⟩ := b5 _ σ1 d3 (by rw [List.length_append, List.length_map]; omega)
        refine ⟨σ2, by rw [eC, d1, clx_s, if10, e1], d2.tr e2, ?_⟩
        rw [List.map_append, ← List.append_assoc]
        exact e3
      · obtain ⟨σ1, d1, d2, d3⟩ := a6 L σ hL hl
        obtain ⟨σ2, e1, e2, e3⟩ := b6 _ σ1 d3 (by rw [List.length_append]; omega)
        refine ⟨σ2, by dsimp only; rw [d1, clx_s, e1], d2.tr e2, ?_⟩
        rw [← List.append_assoc]
        exact e3
    · refine Or.inr ⟨p2, by omega, b2, fun D σ hD hl => ?_, fun L σ hL hl => ?_⟩
      · obtain ⟨σ1, d1, d2, d3⟩ := a5 D σ hD hl
        obtain ⟨σ2, e2, e⟩ := b3 _ σ1 d3 (by rw [List.length_append, List.length_map]; omega)
        refine ⟨σ2, d2.tr e2, ?_⟩
        rw [eC, d1, clx_s, if10]
        rcases e with e | ⟨z1, D', z2, z3, z4⟩
        · exact Or.inl e
        · refine Or.inr ⟨z1, D', z2, z3, ?_⟩
          rw [List.length_append, List.length_map] at z4
          omega
      · obtain ⟨σ1, d1, d2, d3⟩ := a6 L σ hL hl
        obtain ⟨σ2, k, e1, e2, e3, e4⟩ := b4 _ σ1 d3 (by rw [List.length_append]; omega)
        rw [List.length_append] at e4
        exact ⟨σ2, k, by dsimp only; rw [d1, clx_s, e1], d2.tr e2, e3, by omega⟩
  · refine Or.inr ⟨p1, a1, a2, fun D σ hD hl => ?_, fun L σ hL hl => ?_⟩
    · obtain ⟨σ1, d2, d⟩ := a3 D σ hD hl
      refine ⟨σ1, d2, ?_⟩
      rcases d with ⟨d1, d3⟩ | ⟨z1, D', z2, z3, z4⟩
      · exact Or.inl ⟨by rw [eC, d1, clx_s, if_pos rfl], d3⟩
      · exact Or.inr ⟨z1, D', by rw [eC, z2, clx_s, if10, dg_stop hn hB hr _ (by omega) z3 a2 z1], z3, z4⟩
    · obtain ⟨σ1, k, d1, d2, d3, d4⟩ := a4 L σ hL hl
      refine ⟨σ1, k, ?_, d2, d3, d4⟩
      obtain ⟨N, rfl⟩ : ∃ x, N = x + 1 := ⟨N - 1, by omega⟩
      dsimp only
      rw [d1, clx_s, lpx0_s, hM.2.2 _ _ _ _ d3 a2]
theorem fin_M {n : Nat} {B : Nat → Nat} {q p : Nat} {L : List Tk} {σ : Sx} (hs : sy n B p < 128) (hB : ∀ j, j < n → B j < 256) (h : SM n B p q L σ) (f : Sx → Option (Unit × Sx)) (rr : Sx → Option (Unit × Sx)) : pIx 103 17 ((siI σ 103 17) + (1 : Int32)) σ (fun σ6 => clx (f σ6) (fun _ σ7 => clx (F_X10_addStep (chM n B p) (0 : Int32) σ7) (fun _ σ8 => rr σ8))) = clx (f (upI σ 103 17 (nI (p + 1)))) (fun _ σ5 => clx (F_X10_addStep (nI (sy n B p)) (nI 0) σ5) (fun _ σ6 => rr σ6)) := by
  have hch : chM n B p = nI (sy n B p) := by
    rcases Vs_M hB p with ⟨-, z⟩ | ⟨z, -⟩
    · exact z
    · omega
  rw [h.2.1, nI_add1, pIx_s, hch]
  rfl
theorem lv_product {n : Nat} {B : Nat → Nat} {N q : Nat} (hn : n ≤ 120) (hB : ∀ j, j < n → B j < 256) (self : Nat → Sx → Option (Unit × Sx)) : lvM n B q 4 (self 3) (B_X10_product_L4 N self) := by
  refine ⟨fun rr p L σ h hp hk => ?_, fun rr p L σ h hp hk => ?_, fun rr p k σ h hp => ?_⟩
  · have hs : ¬ (sy n B p = 37 ∨ sy n B p = 42 ∨ sy n B p = 47) := fun z => hk ((rk_facts _ (sy_lt n B p)).2.2.2.2.mpr z)
    unfold B_X10_product_L4
    rw [h.2.2.1, if_neg (by decide), M_looks hn h.1 h.2.1 hp, clx_s, nmx_s]
    rw [show (42 : Int32) = nI 42 from rfl, show (47 : Int32) = nI 47 from rfl, show (37 : Int32) = nI 37 from rfl, (Vs_M hB p).i (by decide), if_neg (by omega), M_looks hn h.1 h.2.1 hp, clx_s, (Vs_M hB p).i (by decide), if_neg (by omega), M_looks hn h.1 h.2.1 hp, clx_s, (Vs_M hB p).i (by decide), if_neg (by omega)]
  · have hs : sy n B p = 37 ∨ sy n B p = 42 ∨ sy n B p = 47 := (rk_facts _ (sy_lt n B p)).2.2.2.2.mp hk
    have e := fin_M (by omega) hB h (self 3) rr
    unfold B_X10_product_L4
    simp only [h.2.2.1, if_neg (show ¬ (0 : Int32) ≤ -1 by decide), M_looks hn h.1 h.2.1 hp, clx_s, nmx_s, show (42 : Int32) = nI 42 from rfl, show (47 : Int32) = nI 47 from rfl, show (37 : Int32) = nI 37 from rfl, (Vs_M hB p).i (show 42 < 128 by decide), (Vs_M hB p).i (show 47 < 128 by decide), (Vs_M hB p).i (show 37 < 128 by decide)]
    by_cases q1 : sy n B p = 42
    · rw [if_pos q1]
      exact e
    · rw [if_neg q1]
      by_cases q2 : sy n B p = 47
      · rw [if_pos q2]
        exact e
      · rw [if_neg q2, if_pos (by omega)]
        exact e
  · unfold B_X10_product_L4
    rw [h.2.2.1, if_pos (nI_pos' (by omega))]
theorem lv_sum {n : Nat} {B : Nat → Nat} {N q : Nat} (hn : n ≤ 120) (hB : ∀ j, j < n → B j < 256) (self : Nat → Sx → Option (Unit × Sx)) : lvM n B q 3 (self 4) (B_X10_sum_L4 N self) := by
  refine ⟨fun rr p L σ h hp hk => ?_, fun rr p L σ h hp hk => ?_, fun rr p k σ h hp => ?_⟩
  · have hs : ¬ (sy n B p = 43 ∨ sy n B p = 45) := fun z => hk ((rk_facts _ (sy_lt n B p)).2.2.2.1.mpr z)
    unfold B_X10_sum_L4
    rw [h.2.2.1, if_neg (by decide), M_looks hn h.1 h.2.1 hp, clx_s, nmx_s]
    rw [show (43 : Int32) = nI 43 from rfl, show (45 : Int32) = nI 45 from rfl, (Vs_M hB p).i (by decide), if_neg (by omega), M_looks hn h.1 h.2.1 hp, clx_s, (Vs_M hB p).i (by decide), if_neg (by omega)]
  · have hs : sy n B p = 43 ∨ sy n B p = 45 := (rk_facts _ (sy_lt n B p)).2.2.2.1.mp hk
    have e := fin_M (by omega) hB h (self 4) rr
    unfold B_X10_sum_L4
    simp only [h.2.2.1, if_neg (show ¬ (0 : Int32) ≤ -1 by decide), M_looks hn h.1 h.2.1 hp, clx_s, nmx_s, show (43 : Int32) = nI 43 from rfl, show (45 : Int32) = nI 45 from rfl, (Vs_M hB p).i (show 43 < 128 by decide), (Vs_M hB p).i (show 45 < 128 by decide)]
    by_cases q1 : sy n B p = 43
    · rw [if_pos q1]
      exact e
    · rw [if_neg q1, if_pos (by omega)]
      exact e
  · unfold B_X10_sum_L4
    rw [h.2.2.1, if_pos (nI_pos' (by omega))]
theorem lv_both {n : Nat} {B : Nat → Nat} {N q : Nat} (hn : n ≤ 120) (hB : ∀ j, j < n → B j < 256) (self : Nat → Sx → Option (Unit × Sx)) : lvM n B q 1 (self 1) (B_X10_both_L4 N self) := by
  refine ⟨fun rr p L σ h hp hk => ?_, fun rr p L σ h hp hk => ?_, fun rr p k σ h hp => ?_⟩
  · have hs : ¬ sy n B p = 38 := fun z => hk ((rk_facts _ (sy_lt n B p)).2.1.mpr z)
    unfold B_X10_both_L4
    rw [h.2.2.1, if_neg (by decide), M_looks hn h.1 h.2.1 hp, clx_s]
    rw [show (38 : Int32) = nI 38 from rfl, (Vs_M hB p).i (by decide), if_neg hs]
  · have hs : sy n B p = 38 := (rk_facts _ (sy_lt n B p)).2.1.mp hk
    have e := fin_M (by omega) hB h (self 1) rr
    have hch : chM n B p = (38 : Int32) := ((Vs_M hB p).ne (c := 38) (by decide)).mpr hs
    rw [hch] at e
    unfold B_X10_both_L4
    rw [h.2.2.1, if_neg (by decide), M_looks hn h.1 h.2.1 hp, clx_s, if_pos hch]
    exact e
  · unfold B_X10_both_L4
    rw [h.2.2.1, if_pos (nI_pos' (by omega))]
theorem lv_either {n : Nat} {B : Nat → Nat} {N q : Nat} (hn : n ≤ 120) (hB : ∀ j, j < n → B j < 256) (self : Nat → Sx → Option (Unit × Sx)) : lvM n B q 0 (self 0) (B_X10_either_L4 N self) := by
  refine ⟨fun rr p L σ h hp hk => ?_, fun rr p L σ h hp hk => ?_, fun rr p k σ h hp => ?_⟩
  · have hs : ¬ sy n B p = 124 := fun z => hk ((rk_facts _ (sy_lt n B p)).1.mpr z)
    unfold B_X10_either_L4
    rw [h.2.2.1, if_neg (by decide), M_looks hn h.1 h.2.1 hp, clx_s]
    rw [show (124 : Int32) = nI 124 from rfl, (Vs_M hB p).i (by decide), if_neg hs]
  · have hs : sy n B p = 124 := (rk_facts _ (sy_lt n B p)).1.mp hk
    have e := fin_M (by omega) hB h (self 0) rr
    have hch : chM n B p = (124 : Int32) := ((Vs_M hB p).ne (c := 124) (by decide)).mpr hs
    rw [hch] at e
    unfold B_X10_either_L4
    rw [h.2.2.1, if_neg (by decide), M_looks hn h.1 h.2.1 hp, clx_s, if_pos hch]
    exact e
  · unfold B_X10_either_L4
    rw [h.2.2.1, if_pos (nI_pos' (by omega))]
theorem J_cmp {n : Nat} {B : Nat → Nat} {N q d : Nat} (hn : n ≤ 120) (hN : 130 < N) (hB : ∀ j, j < n → B j < 256) {self : Nat → Sx → Option (Unit × Sx)} (hi : ∀ p, p ≤ n → JJ n B q p (R_X4_grp N d 1 (nI (2 + 1)) (nI q)) (self 5)) : ∀ p, p ≤ n → JJ n B q p (R_X4_grp N (d + 1) 1 (nI 2) (nI q)) (G_X10_compared N self) := by
  intro p hp
  have eC : ∀ σ, R_X4_grp N (d + 1) 1 (nI 2) (nI q) σ = clx (R_X4_grp N d 1 (nI (2 + 1)) (nI q) σ) (fun v1 σ1 => (if v1 = 0 then some ((0 : Int32), σ1) else lpx1 (B_X4_chain_L39 N (R_X4_grp N d) (nI 2) (nI q) (nI 1)) N (nI 0) σ1)) := fun σ => rfl
  obtain ⟨N, rfl⟩ : ∃ x, N = x + 2 := ⟨N - 2, by omega⟩
  rcases hi p hp with ⟨p1, E1, v1, a1, a2, a3, a4, a5, a6⟩ | ⟨p1, a1, a2, a3, a4⟩
  · by_cases hrk : rkS (sy n B p1) = nI 2
    · obtain ⟨hop, h128⟩ := rk_op (sy_lt n B p1) (by decide) hrk
      have h3 := (rk_facts _ (sy_lt n B p1)).2.2.1.mp hrk
      have hpn : p1 < n := sy_in h128
      have hch : chC n B p1 = nI (sy n B p1) := by
        rcases Vs_C hB p1 with ⟨-, h⟩ | ⟨h, -⟩
        · exact h
        · omega
      have hcm : chM n B p1 = nI (sy n B p1) := by
        rcases Vs_M hB p1 with ⟨-, h⟩ | ⟨h, -⟩
        · exact h
        · omega
      have goC : ∀ D σ, SC n B p D σ → D.length ≤ p → ∃ σ1, Kp rgPc σ σ1 ∧ SC n B (p1 + 1) (D ++ E1.map tC) σ1 ∧ R_X4_grp (N + 2) (d + 1) 1 (nI 2) (nI q) σ = clx (R_X4_grp (N + 2) d 1 (nI (2 + 1)) (nI q) σ1) (fun v5 σ8 => (if v5 = 0 then some ((0 : Int32), σ8) else clx (F_X4_emit (nI (10000 + sy n B p1)) σ8) (fun _ σ9 => some (1, σ9)))) := fun D σ hD hl => by
        obtain ⟨σ1, d1, d2, d3⟩ := a5 D σ hD hl
        obtain ⟨c1, c2⟩ := C_at (p2 := p1 + 1) d3
        refine ⟨_, d2.tr c2, c1, ?_⟩
        rw [eC, d1, clx_s, if10, lpx1_s, B_X4_chain_L39, if_neg (by decide), C_next hn d3.1 d3.2.1 a2, clx_s, C_rk (Vs_C hB p1), clx_s, if_pos hrk, C_next hn d3.1 d3.2.1 a2, clx_s, d3.2.1, hch]
        simp only [nI_add1, pIx_s, show (10000 : Int32) = nI 10000 from rfl, nI_add]
        rfl
      have goM : ∀ L σ, SM n B p q L σ → L.length ≤ p → ∃ σ1, Kp rgPm σ σ1 ∧ SM n B (p1 + 1) q (L ++ E1) σ1 ∧ G_X10_compared (N + 2) self σ = clx (self 5 σ1) (fun _ σ5 => clx (F_X10_addStep (nI (sy n B p1)) (nI 0) σ5) (fun _ σ6 => some ((), σ6))) := fun L σ hL hl => by
        obtain ⟨σ1, d1, d2, d3⟩ := a6 L σ hL hl
        obtain ⟨c1, c2⟩ := M_at (p2 := p1 + 1) d3
        refine ⟨_, d2.tr c2, c1, ?_⟩
        unfold G_X10_compared
        rw [d1, clx_s, M_looks hn d3.1 d3.2.1 a2, clx_s, d3.2.2.1, if_neg (by decide), nmx_s]
        have e := fin_M h128 hB d3 (self 5) (fun σ6 => some ((), σ6))
        rw [show (60 : Int32) = nI 60 from rfl, show (61 : Int32) = nI 61 from rfl, show (62 : Int32) = nI 62 from rfl, (Vs_M hB p1).i (by decide), (Vs_M hB p1).i (by decide), (Vs_M hB p1).i (by decide)]
        by_cases q1 : sy n B p1 = 60
        · rw [if_pos q1]
          exact e
        · rw [if_neg q1]
          by_cases q2 : sy n B p1 = 61
          · rw [if_pos q2]
            exact e
          · rw [if_neg q2, if_pos (by omega)]
            exact e
      rcases hi (p1 + 1) (by omega) with ⟨p2, E2, v2, b1, b2, b3, b4, b5, b6⟩ | ⟨p2, b1, b2, b3, b4⟩
      · refine Or.inl ⟨p2, E1 ++ E2 ++ [(sy n B p1, 0)], _, by omega, b2, ?_, Ex.op hop a4 b4, fun D σ hD hl => ?_, fun L σ hL hl => ?_⟩
        · rw [List.length_append, List.length_append, List.length_singleton]
          omega
        · obtain ⟨σ1, k1, s1, e1⟩ := goC D σ hD hl
          obtain ⟨σ8, d1, d2, d3⟩ := b5 _ σ1 s1 (by rw [List.length_append, List.length_map]; omega)
          obtain ⟨σ9, g1, g2, g3⟩ := C_emit (nI (10000 + sy n B p1)) d3 (by rw [List.length_append, List.length_append, List.length_map, List.length_map]; omega)
          refine ⟨σ9, by rw [e1, d1, clx_s, if10, g1, clx_s], (k1.tr d2).tr g2, ?_⟩
          rw [List.map_append, List.map_append, List.map_cons, List.map_nil, tC_op hop, ← List.append_assoc, ← List.append_assoc]
          exact g3
        · obtain ⟨σ1, k1, s1, e1⟩ := goM L σ hL hl
          obtain ⟨σ8, d1, d2, d3⟩ := b6 _ σ1 s1 (by rw [List.length_append]; omega)
          obtain ⟨σ9, g1, g2, g3⟩ := M_add (x := 0) d3 h128 (by rw [List.length_append, List.length_append]; omega)
          refine ⟨σ9, by rw [e1, d1, clx_s, g1, clx_s], (k1.tr d2).tr g2, ?_⟩
          rw [← List.append_assoc, ← List.append_assoc]
          exact g3
      · refine Or.inr ⟨p2, by omega, b2, fun D σ hD hl => ?_, fun L σ hL hl => ?_⟩
        · obtain ⟨σ1, k1, s1, e1⟩ := goC D σ hD hl
          obtain ⟨σ8, d2, dd⟩ := b3 _ σ1 s1 (by rw [List.length_append, List.length_map]; omega)
          rcases dd with ⟨d1, d3⟩ | ⟨z1, D', z2, z3, z4⟩
          · exact ⟨σ8, k1.tr d2, Or.inl ⟨by rw [e1, d1, clx_s, if_pos rfl], d3⟩⟩
          · rw [List.length_append, List.length_map] at z4
            obtain ⟨σ9, g1, g2, g3⟩ := C_emit (nI (10000 + sy n B p1)) z3 (by omega)
            exact ⟨σ9, (k1.tr d2).tr g2, Or.inr ⟨z1, _, by rw [e1, z2, clx_s, if10, g1, clx_s], g3, by rw [List.length_append, List.length_singleton]; omega⟩⟩
        · obtain ⟨σ1, k1, s1, e1⟩ := goM L σ hL hl
          obtain ⟨σ8, kk, d1, d2, d3, d4⟩ := b4 _ σ1 s1 (by rw [List.length_append]; omega)
          rw [List.length_append] at d4
          obtain ⟨σ9, g1, g2, g3⟩ := M_addF (nI (sy n B p1)) (nI 0) d3 (by omega)
          exact ⟨σ9, kk + 1, by rw [e1, d1, clx_s, g1, clx_s], (k1.tr d2).tr g2, g3, by omega⟩
    · have h3 : ¬ (sy n B p1 = 60 ∨ sy n B p1 = 61 ∨ sy n B p1 = 62) := fun z => hrk ((rk_facts _ (sy_lt n B p1)).2.2.1.mpr z)
      refine Or.inl ⟨p1, E1, v1, a1, a2, a3, a4, fun D σ hD hl => ?_, fun L σ hL hl => ?_⟩
      · obtain ⟨σ1, d1, d2, d3⟩ := a5 D σ hD hl
        refine ⟨σ1, ?_, d2, d3⟩
        rw [eC, d1, clx_s, if10, lpx1_s, B_X4_chain_L39, if_neg (by decide), C_next hn d3.1 d3.2.1 a2, clx_s, C_rk (Vs_C hB p1), clx_s, if_neg hrk]
      · obtain ⟨σ1, d1, d2, d3⟩ := a6 L σ hL hl
        refine ⟨σ1, ?_, d2, d3⟩
        unfold G_X10_compared
        rw [d1, clx_s, M_looks hn d3.1 d3.2.1 a2, clx_s, d3.2.2.1, if_neg (by decide), nmx_s]
        rw [show (60 : Int32) = nI 60 from rfl, show (61 : Int32) = nI 61 from rfl, show (62 : Int32) = nI 62 from rfl, (Vs_M hB p1).i (by decide), (Vs_M hB p1).i (by decide), (Vs_M hB p1).i (by decide), if_neg (by omega), if_neg (by omega), if_neg (by omega)]
  · refine Or.inr ⟨p1, a1, a2, fun D σ hD hl => ?_, fun L σ hL hl => ?_⟩
    · obtain ⟨σ1, d2, dd⟩ := a3 D σ hD hl
      refine ⟨σ1, d2, ?_⟩
      rcases dd with ⟨d1, d3⟩ | ⟨z1, D', z2, z3, z4⟩
      · exact Or.inl ⟨by rw [eC, d1, clx_s, if_pos rfl], d3⟩
      · exact Or.inr ⟨z1, D', by rw [eC, z2, clx_s, if10, dg_stop hn hB (by decide) _ (by omega) z3 a2 z1], z3, z4⟩
    · obtain ⟨σ1, k, d1, d2, d3, d4⟩ := a4 L σ hL hl
      refine ⟨σ1, k, ?_, d2, d3, d4⟩
      unfold G_X10_compared
      rw [d1, clx_s, M_looks hn d3.1 d3.2.1 a2, clx_s, d3.2.2.1, if_pos (nI_pos' (by omega))]
theorem J_five {n : Nat} {B : Nat → Nat} {N q d : Nat} {G : Sx → Option (Unit × Sx)} {p : Nat} (h : JJ n B q p (R_X4_grp N d 2 (nI q) (0 : Int32)) G) : JJ n B q p (R_X4_grp N (d + 1) 1 (nI 5) (nI q)) G := by
  have eC : ∀ σ, R_X4_grp N (d + 1) 1 (nI 5) (nI q) σ = clx (R_X4_grp N d 2 (nI q) (0 : Int32) σ) (fun v6 σ10 => rZx v6 σ10) := fun σ => rfl
  rcases h with ⟨p1, E1, v1, a1, a2, a3, a4, a5, a6⟩ | ⟨p1, a1, a2, a3, a4⟩
  · refine Or.inl ⟨p1, E1, v1, a1, a2, a3, a4, fun D σ hD hl => ?_, a6⟩
    obtain ⟨σ1, d1, d2, d3⟩ := a5 D σ hD hl
    exact ⟨σ1, by rw [eC, d1]; rfl, d2, d3⟩
  · refine Or.inr ⟨p1, a1, a2, fun D σ hD hl => ?_, a4⟩
    obtain ⟨σ1, d2, dd⟩ := a3 D σ hD hl
    refine ⟨σ1, d2, ?_⟩
    rcases dd with ⟨d1, d3⟩ | ⟨z1, D', z2, z3, z4⟩
    · exact Or.inl ⟨by rw [eC, d1]; rfl, d3⟩
    · exact Or.inr ⟨z1, D', by rw [eC, z2]; rfl, z3, z4⟩
