/-! THE TWO READERS OF A LAW: operands -/
theorem R4_op (N d : Nat) (a0 a1 : Int32) (σ : Sx) : R_X4_grp N (d + 1) 2 a0 a1 σ = G_X4_operand N (R_X4_grp N d) a0 σ := rfl
theorem J_fig {n : Nat} {B : Nat → Nat} {N q d p : Nat} (hn : n ≤ 120) (hN : 130 < N) (hB : ∀ j, j < n → B j < 256) (hp : p ≤ n) (self : Nat → Sx → Option (Unit × Sx)) (hd : dgS (sy n B p) = 1) : JJ n B q p (R_X4_grp N (d + 1) 2 (nI q) (0 : Int32)) (G_X10_operand N self) := by
  obtain ⟨f1, f2, f3, f4, f5⟩ : dgS (sy n B p) = 1 ∧ 48 ≤ sy n B p ∧ sy n B p ≤ 57 ∧ nmS (sy n B p) = 0 ∧ nmV (sy n B p) < 0 := by
    rcases dg_facts _ (sy_lt n B p) with ⟨z, -⟩ | z
    · rw [z] at hd
      exact absurd hd (by decide)
    · exact z
  have hin := fgN_in (n := n) (B := B) hp
  have h4 := fgN_4 n B p
  have hm : 1 ≤ fgN n B p := by
    rcases Nat.eq_zero_or_pos (fgN n B p) with z | z
    · have := fgN_end (n := n) (B := B) (p := p) (by omega)
      rw [z, Nat.add_zero, hd] at this
      exact absurd this (by decide)
    · exact z
  have hval : dv n B p (fgN n B p) < 10000 := Nat.lt_of_lt_of_le (dv_lt _ (Nat.le_refl _)) (Nat.pow_le_pow_right (show 0 < 10 by decide) h4 : 10 ^ fgN n B p ≤ 10 ^ 4)
  have eC : ∀ D σ, SC n B p D σ → R_X4_grp N (d + 1) 2 (nI q) (0 : Int32) σ = clx (F_X4_number N σ) (fun _ σ10 => some ((1 : Int32), σ10)) := fun D σ hD => by
    rw [R4_op, G_X4_operand, C_next hn hD.1 hD.2.1 hp, clx_s, C_dg (Vs_C hB p), clx_s, f1, if10]
  have eM : ∀ L σ, SM n B p q L σ → G_X10_operand N self σ = clx (F_X10_figure N σ) (fun _ σ9 => some ((), σ9)) := fun L σ hL => by
    unfold G_X10_operand
    rw [M_looks hn hL.1 hL.2.1 hp, clx_s, M_nm (Vs_M hB p), clx_s, if_pos f5, nmx_s]
    rw [show (33 : Int32) = nI 33 from rfl, show (45 : Int32) = nI 45 from rfl, show (40 : Int32) = nI 40 from rfl, (Vs_M hB p).i (by decide), if_neg (by omega), (Vs_M hB p).i (by decide), if_neg (by omega), (Vs_M hB p).i (by decide), if_neg (by omega)]
  by_cases h5 : dgS (sy n B (p + fgN n B p)) = 1
  · refine Or.inr ⟨p + fgN n B p, by omega, hin, fun D σ hD hl => ?_, fun L σ hL hl => ?_⟩
    · obtain ⟨σ', g1, g2, g3⟩ := C_num hn hN hB hD hp (by omega)
      exact ⟨σ', g2, Or.inr ⟨h5, _, by rw [eC D σ hD, g1, clx_s], g3, by rw [List.length_append, List.length_singleton]; omega⟩⟩
    · obtain ⟨σ1, g1, g2, g3⟩ := M_fig hn hN hB hL hp
      rw [if_pos (Or.inr h5)] at g3
      obtain ⟨σ2, x1, x2, x3⟩ := M_fault g2
      obtain ⟨σ3, y1, y2, y3⟩ := M_addF (nI 1) (nI (dv n B p (fgN n B p))) x3 (by omega)
      exact ⟨σ3, L.length + 1, by rw [eM L σ hL, g3, x1, clx_s, y1, clx_s, clx_s], (g1.tr x2).tr y2, y3, by omega⟩
  · refine Or.inl ⟨p + fgN n B p, [(1, dv n B p (fgN n B p))], _, by omega, hin, by rw [List.length_singleton]; omega, Ex.num hval, fun D σ hD hl => ?_, fun L σ hL hl => ?_⟩
    · obtain ⟨σ', g1, g2, g3⟩ := C_num hn hN hB hD hp (by omega)
      exact ⟨σ', by rw [eC D σ hD, g1, clx_s], g2, g3⟩
    · obtain ⟨σ1, g1, g2, g3⟩ := M_fig hn hN hB hL hp
      rw [if_neg (fun z => z.elim (fun z => by omega) h5)] at g3
      obtain ⟨σ3, y1, y2, y3⟩ := M_add (x := dv n B p (fgN n B p)) g2 (show 1 < 128 by decide) (by omega)
      exact ⟨σ3, by rw [eM L σ hL, g3, y1, clx_s, clx_s], g1.tr y2, y3⟩
theorem J_nam {n : Nat} {B : Nat → Nat} {N q d p : Nat} (hn : n ≤ 120) (hB : ∀ j, j < n → B j < 256) (hp : p ≤ n) (self : Nat → Sx → Option (Unit × Sx)) (hd : nmS (sy n B p) = 1) : JJ n B q p (R_X4_grp N (d + 1) 2 (nI q) (0 : Int32)) (G_X10_operand N self) := by
  obtain ⟨f2, f3, f4, f5, f6⟩ : nmV (sy n B p) = nI (nmi (sy n B p)) ∧ nmi (sy n B p) < 6 ∧ nmC (nmi (sy n B p)) = sy n B p ∧ sy n B p < 128 ∧ dgS (sy n B p) = 0 := by
    rcases nm_facts _ (sy_lt n B p) with ⟨z, -⟩ | ⟨-, z⟩
    · rw [z] at hd
      exact absurd hd (by decide)
    · exact z
  have hpn : p < n := sy_in f5
  have hch : chC n B p = nI (sy n B p) := by
    rcases Vs_C hB p with ⟨-, z⟩ | ⟨z, -⟩
    · exact z
    · omega
  have ht : tC (2, nmi (sy n B p)) = nI (10000 + sy n B p) := by
    unfold tC
    rw [if_neg (show ¬ (2 : Nat) = 1 by decide), if_pos rfl, f4]
  refine Or.inl ⟨p + 1, [(2, nmi (sy n B p))], _, by omega, by omega, by rw [List.length_singleton]; omega, Ex.nam f3, fun D σ hD hl => ?_, fun L σ hL hl => ?_⟩
  · obtain ⟨c1, c2⟩ := C_at (p2 := p + 1) hD
    obtain ⟨σ9, g1, g2, g3⟩ := C_emit (nI (10000 + sy n B p)) c1 (by omega)
    refine ⟨σ9, ?_, c2.tr g2, ?_⟩
    · rw [R4_op, G_X4_operand, C_next hn hD.1 hD.2.1 hp, clx_s, C_dg (Vs_C hB p), clx_s, f6, if_pos rfl, C_nm (Vs_C hB p), clx_s, hd, if10, hD.2.1, nI_add1, pIx_s, hch, show (10000 : Int32) = nI 10000 from rfl, nI_add, g1, clx_s]
    · rw [List.map_cons, List.map_nil, ht]
      exact g3
  · obtain ⟨σ3, y1, y2, y3⟩ := M_add (x := nmi (sy n B p)) hL (show 2 < 128 by decide) (by omega)
    obtain ⟨c1, c2⟩ := M_at (p2 := p + 1) y3
    refine ⟨_, ?_, y2.tr c2, c1⟩
    unfold G_X10_operand
    rw [M_looks hn hL.1 hL.2.1 hp, clx_s, M_nm (Vs_M hB p), clx_s, f2, if_neg (nI_pos (by omega)), M_nm (Vs_M hB p), clx_s, f2, show (2 : Int32) = nI 2 from rfl, y1, clx_s, y3.2.1, nI_add1, pIx_s]
theorem J_none {n : Nat} {B : Nat → Nat} {N q d p : Nat} (hn : n ≤ 120) (hN : 130 < N) (hB : ∀ j, j < n → B j < 256) (hp : p ≤ n) (self : Nat → Sx → Option (Unit × Sx)) (hd : dgS (sy n B p) = 0) (hm : nmS (sy n B p) = 0) (h40 : sy n B p ≠ 40) (h33 : sy n B p ≠ 33) (h45 : sy n B p ≠ 45) : JJ n B q p (R_X4_grp N (d + 1) 2 (nI q) (0 : Int32)) (G_X10_operand N self) := by
  have f5 : nmV (sy n B p) < 0 := by
    rcases nm_facts _ (sy_lt n B p) with ⟨-, z⟩ | ⟨z, -⟩
    · exact z
    · rw [z] at hm
      exact absurd hm (by decide)
  have hz : fgN n B p = 0 := by
    rcases Nat.eq_zero_or_pos (fgN n B p) with z | z
    · exact z
    · have := fgN_dg z
      rw [Nat.add_zero, hd] at this
      exact absurd this (by decide)
  refine Or.inr ⟨p, Nat.le_refl _, hp, fun D σ hD hl => ⟨σ, Kp.rf, Or.inl ⟨?_, hD.2.1⟩⟩, fun L σ hL hl => ?_⟩
  · rw [R4_op, G_X4_operand, C_next hn hD.1 hD.2.1 hp, clx_s, C_dg (Vs_C hB p), clx_s, hd, if_pos rfl, C_nm (Vs_C hB p), clx_s, hm, if_pos rfl, nmx_s]
    rw [show (40 : Int32) = nI 40 from rfl, show (33 : Int32) = nI 33 from rfl, show (45 : Int32) = nI 45 from rfl, (Vs_C hB p).i (by decide), if_neg h40, (Vs_C hB p).i (by decide), if_neg h33, (Vs_C hB p).i (by decide), if_neg h45]
  · obtain ⟨σ1, g1, g2, g3⟩ := M_fig hn hN hB hL hp
    rw [if_pos (Or.inl hz)] at g3
    rw [hz, Nat.add_zero] at g2
    obtain ⟨σ2, x1, x2, x3⟩ := M_fault g2
    obtain ⟨σ3, y1, y2, y3⟩ := M_addF (nI 1) (nI (dv n B p (fgN n B p))) x3 (by omega)
    refine ⟨σ3, L.length + 1, ?_, (g1.tr x2).tr y2, y3, by omega⟩
    unfold G_X10_operand
    rw [M_looks hn hL.1 hL.2.1 hp, clx_s, M_nm (Vs_M hB p), clx_s, if_pos f5, nmx_s]
    rw [show (33 : Int32) = nI 33 from rfl, show (45 : Int32) = nI 45 from rfl, show (40 : Int32) = nI 40 from rfl, (Vs_M hB p).i (by decide), if_neg h33, (Vs_M hB p).i (by decide), if_neg h45, (Vs_M hB p).i (by decide), if_neg h40, g3, x1, clx_s, y1, clx_s, clx_s]
