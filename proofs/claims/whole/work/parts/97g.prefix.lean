/-! THE TWO READERS OF A LAW: before an operand, and too deep -/
theorem SF.shut {n : Nat} {B : Nat → Nat} {p k : Nat} {σ : Sx} (x : Int32) (h : SF n B p k σ) : SF n B p k (upI σ 103 19 x) ∧ Kp rgPm σ (upI σ 103 19 x) := by
  obtain ⟨h1, h2, h3, h4⟩ := h
  have kk : Kp rgPm σ (upI σ 103 19 x) := Kp.rf.I (by unfold rgPm; omega)
  refine ⟨⟨h1.kp kk, ?_, ?_, ?_⟩, kk⟩
  · rw [uI_j (by decide)]
    exact h2
  · rw [uI_j (by decide)]
    exact h3
  · rw [uI_j (by decide)]
    exact h4
theorem Vs.c33 {v : Int32} {s : Nat} (h : Vs v s) : v = (33 : Int32) ↔ s = 33 := h.ne (c := 33) (by decide)
theorem Vs.c45 {v : Int32} {s : Nat} (h : Vs v s) : v = (45 : Int32) ↔ s = 45 := h.ne (c := 45) (by decide)
theorem Vs.c40 {v : Int32} {s : Nat} (h : Vs v s) : v = (40 : Int32) ↔ s = 40 := h.ne (c := 40) (by decide)
theorem J_pre {n : Nat} {B : Nat → Nat} {N q d p : Nat} (hn : n ≤ 120) (hB : ∀ j, j < n → B j < 256) (hp : p ≤ n) (hq : q < 6) (self : Nat → Sx → Option (Unit × Sx)) (hs : sy n B p = 33 ∨ sy n B p = 45) (hO : ∀ p, p ≤ n → JJ n B (q + 1) p (R_X4_grp N d 2 (nI (q + 1)) (0 : Int32)) (self 3)) : JJ n B q p (R_X4_grp N (d + 2) 2 (nI q) (0 : Int32)) (G_X10_operand N self) := by
  have hpn : p < n := sy_in (B := B) (show sy n B p < 128 by omega)
  have VC := Vs_C hB p
  have VM := Vs_M hB p
  have hdg : dgS (sy n B p) = 0 ∧ nmS (sy n B p) = 0 ∧ nmV (sy n B p) < 0 := by
    rcases hs with z | z <;> rw [z] <;> decide
  obtain ⟨c, hc, hc3⟩ : ∃ c, (c = if sy n B p = 33 then 3 else 4) ∧ (c = 3 ∨ c = 4) := ⟨_, rfl, by split <;> omega⟩
  have htc : tC (c, 0) = nI (10000 + (if sy n B p = 45 then 126 else 33)) := by
    rcases hs with z | z <;> rw [hc, z] <;> rfl
  have eC : ∀ D σ, SC n B p D σ → R_X4_grp N (d + 2) 2 (nI q) (0 : Int32) σ = clx (clx (R_X4_grp N d 2 (nI (q + 1)) (0 : Int32) (upI σ 2 2 (nI (p + 1)))) (fun v1 σ1 => (if v1 = 0 then some ((0 : Int32), σ1) else clx (F_X4_emit (tC (c, 0)) σ1) (fun _ σ3 => some ((1 : Int32), σ3))))) (fun v5 σ7 => rZx v5 σ7) := fun D σ hD => by
    have h40 : ¬ chC n B p = (40 : Int32) := fun z => by have := VC.c40.mp z; omega
    have e : ∀ σ5 : Sx, R_X4_grp N (d + 1) 3 (chC n B p) (nI (q + 1)) σ5 = clx (R_X4_grp N d 2 (nI (q + 1)) (0 : Int32) σ5) (fun v1 σ1 => (if v1 = 0 then some ((0 : Int32), σ1) else clx (F_X4_emit (tC (c, 0)) σ1) (fun _ σ3 => some ((1 : Int32), σ3)))) := fun σ5 => by
      show G_X4_prefixed N (R_X4_grp N d) (chC n B p) (nI (q + 1)) σ5 = _
      unfold G_X4_prefixed
      rw [htc]
      rcases hs with z | z
      · have z1 := VC.c33.mpr z
        rw [z1, z]
        rfl
      · have z1 := VC.c45.mpr z
        rw [z1, z]
        rfl
    rw [R4_op, G_X4_operand, C_next hn hD.1 hD.2.1 hp, clx_s, C_dg VC, clx_s, hdg.1, if_pos rfl, C_nm VC, clx_s, hdg.2.1, if_pos rfl, nmx_s, if_neg h40]
    have fin : (if nI q < (6 : Int32) then pIx 2 2 ((siI σ 2 2) + (1 : Int32)) σ (fun σ5 => (if chC n B p = (40 : Int32) then clx (R_X4_grp N (d + 1) 0 (nI q + (1 : Int32)) (0 : Int32) σ5) (fun v5 σ7 => rZx v5 σ7) else clx (R_X4_grp N (d + 1) 3 (chC n B p) (nI q + (1 : Int32)) σ5) (fun v4 σ6 => rZx v4 σ6))) else some ((0 : Int32), σ)) = clx (clx (R_X4_grp N d 2 (nI (q + 1)) (0 : Int32) (upI σ 2 2 (nI (p + 1)))) (fun v1 σ1 => (if v1 = 0 then some ((0 : Int32), σ1) else clx (F_X4_emit (tC (c, 0)) σ1) (fun _ σ3 => some ((1 : Int32), σ3))))) (fun v5 σ7 => rZx v5 σ7) := by
      rw [if_pos (show nI q < (6 : Int32) from nI_lt hq (by decide)), hD.2.1, nI_add1, pIx_s, if_neg h40, nI_add1, e]
    rcases hs with z | z
    · rw [if_pos (VC.c33.mpr z)]
      exact fin
    · rw [if_neg (fun y => by have := VC.c33.mp y; omega), if_pos (VC.c45.mpr z)]
      exact fin
  have eM : ∀ L σ, SM n B p q L σ → ∃ σ1, Kp rgPm σ σ1 ∧ SM n B (p + 1) (q + 1) L σ1 ∧ G_X10_operand N self σ = clx (self 3 σ1) (fun _ σ5 => clx (F_X10_addStep (nI c) (nI 0) (upI σ5 103 19 ((siI σ5 103 19) - (1 : Int32)))) (fun _ σ8 => some ((), σ8))) := fun L σ hL => by
    obtain ⟨σ1, o1, o2, o3⟩ := M_open hL hq
    refine ⟨σ1, o2, o3, ?_⟩
    unfold G_X10_operand
    rw [M_looks hn hL.1 hL.2.1 hp, clx_s, M_nm VM, clx_s, if_pos hdg.2.2, nmx_s]
    rcases hs with z | z
    · rw [if_pos (VM.c33.mpr z)]
      dsimp only
      rw [o1, clx_s, if10, hc, if_pos z]
      simp only [if_pos (VM.c33.mpr z), nmx_s, pIx_s]
      rfl
    · have n33 : ¬ chM n B p = (33 : Int32) := fun y => by have := VM.c33.mp y; omega
      rw [if_neg n33, if_pos (VM.c45.mpr z)]
      dsimp only
      rw [o1, clx_s, if10, hc, if_neg (by omega)]
      simp only [if_neg n33, nmx_s, pIx_s]
      rfl
  rcases hO (p + 1) (by omega) with ⟨p1, E1, v1, a1, a2, a3, a4, a5, a6⟩ | ⟨p1, a1, a2, a3, a4⟩
  · obtain ⟨v2, hv2⟩ : ∃ v2, Ex (E1 ++ [(c, 0)]) v2 := by
      rcases hc3 with z | z
      · rw [z]
        exact ⟨_, a4.no⟩
      · rw [z]
        exact ⟨_, a4.neg⟩
    refine Or.inl ⟨p1, E1 ++ [(c, 0)], v2, by omega, a2, by rw [List.length_append, List.length_singleton]; omega, hv2, fun D σ hD hl => ?_, fun L σ hL hl => ?_⟩
    · obtain ⟨c1, c2⟩ := C_at (p2 := p + 1) hD
      obtain ⟨σ2, d1, d2, d3⟩ := a5 D _ c1 (by omega)
      obtain ⟨σ9, g1, g2, g3⟩ := C_emit (tC (c, 0)) d3 (by rw [List.length_append, List.length_map]; omega)
      refine ⟨σ9, by rw [eC D σ hD, d1, clx_s, if10, g1]; rfl, (c2.tr d2).tr g2, ?_⟩
      rw [List.map_append, List.map_cons, List.map_nil, ← List.append_assoc]
      exact g3
    · obtain ⟨σ1, k1, s1, e1⟩ := eM L σ hL
      obtain ⟨σ2, d1, d2, d3⟩ := a6 L σ1 s1 (by omega)
      obtain ⟨y1, y2⟩ := M_shut d3
      obtain ⟨σ9, g1, g2, g3⟩ := M_add (c := c) (x := 0) y1 (by omega) (by rw [List.length_append]; omega)
      refine ⟨σ9, by rw [e1, d1, clx_s, d3.2.2.2.1, nI_sub1, g1, clx_s], ((k1.tr d2).tr y2).tr g2, ?_⟩
      rw [← List.append_assoc]
      exact g3
  · refine Or.inr ⟨p1, by omega, a2, fun D σ hD hl => ?_, fun L σ hL hl => ?_⟩
    · obtain ⟨c1, c2⟩ := C_at (p2 := p + 1) hD
      obtain ⟨σ2, d2, dd⟩ := a3 D _ c1 (by omega)
      rcases dd with ⟨d1, d3⟩ | ⟨z1, D', z2, z3, z4⟩
      · exact ⟨σ2, c2.tr d2, Or.inl ⟨by rw [eC D σ hD, d1, clx_s, if_pos rfl]; rfl, d3⟩⟩
      · obtain ⟨σ9, g1, g2, g3⟩ := C_emit (tC (c, 0)) z3 (by omega)
        exact ⟨σ9, (c2.tr d2).tr g2, Or.inr ⟨z1, _, by rw [eC D σ hD, z2, clx_s, if10, g1]; rfl, g3, by rw [List.length_append, List.length_singleton]; omega⟩⟩
    · obtain ⟨σ1, k1, s1, e1⟩ := eM L σ hL
      obtain ⟨σ2, k, d1, d2, d3, d4⟩ := a4 L σ1 s1 (by omega)
      obtain ⟨y1, y2⟩ := d3.shut ((siI σ2 103 19) - (1 : Int32))
      obtain ⟨σ9, g1, g2, g3⟩ := M_addF (nI c) (nI 0) y1 (by omega)
      exact ⟨σ9, k + 1, by rw [e1, d1, clx_s, g1, clx_s], ((k1.tr d2).tr y2).tr g2, g3, by omega⟩
