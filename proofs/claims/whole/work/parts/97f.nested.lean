/-! THE TWO READERS OF A LAW: nested operands -/
theorem M_open {n : Nat} {B : Nat → Nat} {p q : Nat} {L : List Tk} {σ : Sx} (h : SM n B p q L σ) (hq : q < 6) : ∃ σ2, F_X10_opens σ = some (1, σ2) ∧ Kp rgPm σ σ2 ∧ SM n B (p + 1) (q + 1) L σ2 := by
  obtain ⟨h1, h2, h3, h4, h5, h6⟩ := h
  have k : Kp rgPm σ (upI (upI σ 103 19 (nI (q + 1))) 103 17 (nI (p + 1))) := (Kp.rf.I (by unfold rgPm; omega)).I (by unfold rgPm; omega)
  refine ⟨_, ?_, k, h1.kp k, uI_s, ?_, ?_, ?_, fun j hj => ?_⟩
  · unfold F_X10_opens
    rw [h4, if_neg (show ¬ nI q = (6 : Int32) from fun z => absurd ((nI_eq (b := 6) (by omega) (by decide)).mp z) (by omega)), nI_add1, pIx_s, uI_j (by decide), h2, nI_add1, pIx_s]
  · rw [uI_j (by decide), uI_j (by decide)]
    exact h3
  · rw [uI_j (by decide), uI_s]
  · rw [uI_j (by decide), uI_j (by decide)]
    exact h5
  · rw [uI_i (by decide), uI_i (by decide), uI_i (by decide), uI_i (by decide)]
    exact h6 j hj
theorem M_shut {n : Nat} {B : Nat → Nat} {p q : Nat} {L : List Tk} {σ : Sx} (h : SM n B p (q + 1) L σ) : SM n B p q L (upI σ 103 19 (nI q)) ∧ Kp rgPm σ (upI σ 103 19 (nI q)) := by
  obtain ⟨h1, h2, h3, h4, h5, h6⟩ := h
  have k : Kp rgPm σ (upI σ 103 19 (nI q)) := Kp.rf.I (by unfold rgPm; omega)
  refine ⟨⟨h1.kp k, ?_, ?_, uI_s, ?_, fun j hj => ?_⟩, k⟩
  · rw [uI_j (by decide)]
    exact h2
  · rw [uI_j (by decide)]
    exact h3
  · rw [uI_j (by decide)]
    exact h5
  · rw [uI_i (by decide), uI_i (by decide)]
    exact h6 j hj
theorem Vs.c41 {v : Int32} {s : Nat} (h : Vs v s) : v = (41 : Int32) ↔ s = 41 := h.ne (c := 41) (by decide)
theorem J_par {n : Nat} {B : Nat → Nat} {N q d p : Nat} (hn : n ≤ 120) (hB : ∀ j, j < n → B j < 256) (hp : p ≤ n) (hq : q < 6) (self : Nat → Sx → Option (Unit × Sx)) (hs : sy n B p = 40) (hE : ∀ p, p ≤ n → JJ n B (q + 1) p (R_X4_grp N d 1 (nI 0) (nI (q + 1))) (self 2)) : JJ n B q p (R_X4_grp N (d + 2) 2 (nI q) (0 : Int32)) (G_X10_operand N self) := by
  have hpn : p < n := sy_in (B := B) (show sy n B p < 128 by omega)
  have eC : ∀ D σ, SC n B p D σ → R_X4_grp N (d + 2) 2 (nI q) (0 : Int32) σ = clx (clx (R_X4_grp N d 1 (nI 0) (nI (q + 1)) (upI σ 2 2 (nI (p + 1)))) (fun v1 σ1 => (if v1 = 0 then some ((0 : Int32), σ1) else clx (F_X4_next σ1) (fun v2 σ2 => (if v2 = (41 : Int32) then pIx 2 2 ((siI σ2 2 2) + (1 : Int32)) σ2 (fun σ3 => some ((1 : Int32), σ3)) else some ((0 : Int32), σ2)))))) (fun v5 σ7 => rZx v5 σ7) := fun D σ hD => by
    have h40 : chC n B p = (40 : Int32) := ((Vs_C hB p).ne (c := 40) (by decide)).mpr hs
    rw [R4_op, G_X4_operand, C_next hn hD.1 hD.2.1 hp, clx_s, C_dg (Vs_C hB p), clx_s, hs, if_pos (show dgS 40 = 0 by decide), C_nm (Vs_C hB p), clx_s, hs, if_pos (show nmS 40 = 0 by decide), nmx_s, if_pos h40]
    dsimp only
    rw [if_pos (show nI q < (6 : Int32) from nI_lt hq (by decide)), hD.2.1, nI_add1, pIx_s, if_pos h40, nI_add1]
    rfl
  have eM : ∀ L σ, SM n B p q L σ → ∃ σ1, Kp rgPm σ σ1 ∧ SM n B (p + 1) (q + 1) L σ1 ∧ G_X10_operand N self σ = clx (self 2 σ1) (fun _ σ11 => (if (siI σ11 103 18) < 0 then clx (F_X10_looksOn σ11) (fun v5 σ12 => (if v5 = (41 : Int32) then pIx 103 17 ((siI σ12 103 17) + (1 : Int32)) σ12 (fun σ13 => pIx 103 19 ((siI σ13 103 19) - (1 : Int32)) σ13 (fun σ14 => some ((), σ14))) else clx (F_X10_faulty σ12) (fun _ σ15 => some ((), σ15)))) else some ((), σ11))) := fun L σ hL => by
    obtain ⟨σ1, o1, o2, o3⟩ := M_open hL hq
    refine ⟨σ1, o2, o3, ?_⟩
    unfold G_X10_operand
    rw [M_looks hn hL.1 hL.2.1 hp, clx_s, M_nm (Vs_M hB p), clx_s, hs, if_pos (show nmV 40 < 0 by decide), nmx_s]
    rw [show (33 : Int32) = nI 33 from rfl, show (45 : Int32) = nI 45 from rfl, show (40 : Int32) = nI 40 from rfl, (Vs_M hB p).i (by decide), if_neg (by omega), (Vs_M hB p).i (by decide), if_neg (by omega), (Vs_M hB p).i (by decide), if_pos hs, o1, clx_s, if10]
  rcases hE (p + 1) (by omega) with ⟨p1, E1, v1, a1, a2, a3, a4, a5, a6⟩ | ⟨p1, a1, a2, a3, a4⟩
  · by_cases h41 : sy n B p1 = 41
    · have hp1 : p1 < n := sy_in (B := B) (show sy n B p1 < 128 by omega)
      refine Or.inl ⟨p1 + 1, E1, v1, by omega, by omega, by omega, a4, fun D σ hD hl => ?_, fun L σ hL hl => ?_⟩
      · obtain ⟨c1, c2⟩ := C_at (p2 := p + 1) hD
        obtain ⟨σ2, d1, d2, d3⟩ := a5 D _ c1 (by omega)
        obtain ⟨e1, e2⟩ := C_at (p2 := p1 + 1) d3
        refine ⟨_, ?_, (c2.tr d2).tr e2, e1⟩
        rw [eC D σ hD, d1, clx_s, if10, C_next hn d3.1 d3.2.1 a2, clx_s, if_pos ((Vs_C hB p1).c41.mpr h41), d3.2.1, nI_add1, pIx_s]
        rfl
      · obtain ⟨σ1, k1, s1, e1⟩ := eM L σ hL
        obtain ⟨σ2, d1, d2, d3⟩ := a6 L σ1 s1 (by omega)
        obtain ⟨x1, x2⟩ := M_at (p2 := p1 + 1) d3
        obtain ⟨y1, y2⟩ := M_shut x1
        refine ⟨_, ?_, ((k1.tr d2).tr x2).tr y2, y1⟩
        rw [e1, d1, clx_s, d3.2.2.1, if_pos (by decide), M_looks hn d3.1 d3.2.1 a2, clx_s, if_pos ((Vs_M hB p1).c41.mpr h41), d3.2.1, nI_add1, pIx_s, pIx_s, uI_j (by decide), d3.2.2.2.1, nI_sub1]
    · refine Or.inr ⟨p1, by omega, a2, fun D σ hD hl => ?_, fun L σ hL hl => ?_⟩
      · obtain ⟨c1, c2⟩ := C_at (p2 := p + 1) hD
        obtain ⟨σ2, d1, d2, d3⟩ := a5 D _ c1 (by omega)
        refine ⟨σ2, c2.tr d2, Or.inl ⟨?_, d3.2.1⟩⟩
        rw [eC D σ hD, d1, clx_s, if10, C_next hn d3.1 d3.2.1 a2, clx_s, if_neg (fun z => h41 ((Vs_C hB p1).c41.mp z))]
        rfl
      · obtain ⟨σ1, k1, s1, e1⟩ := eM L σ hL
        obtain ⟨σ2, d1, d2, d3⟩ := a6 L σ1 s1 (by omega)
        obtain ⟨σ3, g1, g2, g3⟩ := M_fault d3
        refine ⟨σ3, _, ?_, (k1.tr d2).tr g2, g3, by rw [List.length_append]; omega⟩
        rw [e1, d1, clx_s, d3.2.2.1, if_pos (by decide), M_looks hn d3.1 d3.2.1 a2, clx_s, if_neg (fun z => h41 ((Vs_M hB p1).c41.mp z)), g1, clx_s]
  · refine Or.inr ⟨p1, by omega, a2, fun D σ hD hl => ?_, fun L σ hL hl => ?_⟩
    · obtain ⟨c1, c2⟩ := C_at (p2 := p + 1) hD
      obtain ⟨σ2, d2, dd⟩ := a3 D _ c1 (by omega)
      refine ⟨σ2, c2.tr d2, Or.inl ?_⟩
      rcases dd with ⟨d1, d3⟩ | ⟨z1, D', z2, z3, z4⟩
      · exact ⟨by rw [eC D σ hD, d1, clx_s, if_pos rfl]; rfl, d3⟩
      · refine ⟨?_, z3.2.1⟩
        rw [eC D σ hD, z2, clx_s, if10, C_next hn z3.1 z3.2.1 a2, clx_s, if_neg (fun z => (dg_rk _ (sy_lt n B p1) z1).2.2.2.1 ((Vs_C hB p1).c41.mp z))]
        rfl
    · obtain ⟨σ1, k1, s1, e1⟩ := eM L σ hL
      obtain ⟨σ2, k, d1, d2, d3, d4⟩ := a4 L σ1 s1 (by omega)
      exact ⟨σ2, k, by rw [e1, d1, clx_s, d3.2.2.1, if_neg (nI_pos (by omega))], k1.tr d2, d3, by omega⟩
