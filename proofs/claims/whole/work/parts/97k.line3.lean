/-! THE TWO READERS OF A LAW: a line -/
theorem mkL.of {o : Nat} {Ls : List Ln} {σ σ2 : Sx} (h : mkL o Ls σ) (e : ∀ i, i < Ls.length → siI σ2 119 (o + i) = siI σ 119 (o + i) ∧ siI σ2 120 (o + i) = siI σ 120 (o + i)) : mkL o Ls σ2 := fun i hi => by
  rw [(e i hi).1, (e i hi).2]
  exact h i hi
theorem mkL_snoc {o : Nat} {Ls : List Ln} {l : Ln} {σ : Sx} (h : mkL o Ls σ) (h1 : siI σ 119 (o + Ls.length) = nI ((spL Ls).length + l.1.length)) (h2 : siI σ 120 (o + Ls.length) = nI ((spL Ls).length + (l.1.length + l.2.length))) : mkL o (Ls ++ [l]) σ := fun i hi => by
  rw [List.length_append, List.length_singleton] at hi
  by_cases e : i = Ls.length
  · subst e
    rw [getD_snoc2, if_pos rfl, List.take_append_of_le_length (Nat.le_refl _), List.take_length]
    exact ⟨h1, h2⟩
  · rw [getD_snoc2, if_neg e, List.take_append_of_le_length (by omega)]
    exact h i (by omega)
/-- the M reader within a line -/
def SY (n : Nat) (B : Nat → Nat) (p : Nat) (Ls : List Ln) (E : List Tk) (a : Nat) (σ : Sx) : Prop := SM n B p 0 (spL Ls ++ E) σ ∧ siI σ 118 1 = nI Ls.length ∧ mkL 61 Ls σ ∧ siI σ 119 (61 + Ls.length) = nI a
theorem SX_in {n : Nat} {B : Nat → Nat} {p : Nat} {Ls : List Ln} {σ : Sx} (h : SX n B p Ls σ) : SY n B p Ls [] (spL Ls).length (upI σ 119 (61 + Ls.length) (nI (spL Ls).length)) ∧ Kp rgPl σ (upI σ 119 (61 + Ls.length) (nI (spL Ls).length)) := by
  obtain ⟨h1, h2, h3⟩ := h
  have k : Kp rgPk σ (upI σ 119 (61 + Ls.length) (nI (spL Ls).length)) := Kp.rf.I (by unfold rgPk; omega)
  refine ⟨⟨?_, ?_, ?_, uI_s⟩, k.pk⟩
  · rw [List.append_nil]
    exact h1.kp k
  · rw [uI_i (by decide)]
    exact h2
  · exact h3.of (fun i hi => ⟨uI_j (by omega), uI_i (by decide)⟩)
theorem SY.mk2 {n : Nat} {B : Nat → Nat} {p a : Nat} {Ls : List Ln} {E : List Tk} {σ : Sx} (b : Nat) (h : SY n B p Ls E a σ) : SY n B p Ls E b (upI σ 119 (61 + Ls.length) (nI b)) ∧ Kp rgPl σ (upI σ 119 (61 + Ls.length) (nI b)) := by
  obtain ⟨h1, h2, h3, h4⟩ := h
  have k : Kp rgPk σ (upI σ 119 (61 + Ls.length) (nI b)) := Kp.rf.I (by unfold rgPk; omega)
  refine ⟨⟨h1.kp k, ?_, ?_, uI_s⟩, k.pk⟩
  · rw [uI_i (by decide)]
    exact h2
  · exact h3.of (fun i hi => ⟨uI_j (by omega), uI_i (by decide)⟩)
theorem SY.go {n : Nat} {B : Nat → Nat} {p p2 a : Nat} {Ls : List Ln} {E E2 : List Tk} {σ σ2 : Sx} (h : SY n B p Ls E a σ) (k : Kp rgPm σ σ2) (h2 : SM n B p2 0 ((spL Ls ++ E) ++ E2) σ2) : SY n B p2 Ls (E ++ E2) a σ2 := by
  refine ⟨?_, ?_, h.2.2.1.of (fun i hi => ⟨(k 119 _ (by unfold rgPm; omega)).1, (k 120 _ (by unfold rgPm; omega)).1⟩), ?_⟩
  · rw [← List.append_assoc]
    exact h2
  · rw [(k 118 1 (by unfold rgPm; omega)).1]
    exact h.2.1
  · rw [(k 119 _ (by unfold rgPm; omega)).1]
    exact h.2.2.2
theorem SY_end {n : Nat} {B : Nat → Nat} {p : Nat} {Ls : List Ln} {σ : Sx} {l : Ln} (h : SY n B p Ls (l.1 ++ l.2) ((spL Ls).length + l.1.length) σ) (hc : Ls.length < 61) (hk : (spL Ls).length + (l.1.length + l.2.length) < 256) : ∃ σ', endM (nI (61 + Ls.length)) σ = some ((), σ') ∧ Kp rgPl σ σ' ∧ SX n B p (Ls ++ [l]) σ' := by
  obtain ⟨h1, h2, h3, h4⟩ := h
  have h20 : siI σ 103 20 = nI ((spL Ls).length + (l.1.length + l.2.length)) := by
    rw [h1.2.2.2.2.1, List.length_append, List.length_append]
  have k : Kp rgPk σ (upI (upI σ 120 (61 + Ls.length) (nI ((spL Ls).length + (l.1.length + l.2.length)))) 118 1 (nI (Ls.length + 1))) := (Kp.rf.I (by unfold rgPk; omega)).I (by unfold rgPk; omega)
  refine ⟨_, endM_e hc h20 hk h2, k.pk, ?_, ?_, mkL_snoc (h3.of (fun i hi => ⟨?_, ?_⟩)) ?_ ?_⟩
  · rw [spL_snoc]
    exact h1.kp k
  · rw [uI_s, List.length_append, List.length_singleton]
  · rw [uI_i (by decide), uI_i (by decide)]
  · rw [uI_i (by decide), uI_j (by omega)]
  · rw [uI_i (by decide), uI_i (by decide)]
    exact h4
  · rw [uI_i (by decide), uI_s]
/-- at fault, a line being closed -/
def SFl (n : Nat) (B : Nat → Nat) (p : Nat) (σ : Sx) : Prop := TTm n B σ ∧ siI σ 103 18 = nI p
theorem SF_end {n : Nat} {B : Nat → Nat} {p k c : Nat} {σ : Sx} (h : SF n B p k σ) (hc : c < 61) (hk : k < 256) (h118 : siI σ 118 1 = nI c) : ∃ σ', endM (nI (61 + c)) σ = some ((), σ') ∧ Kp rgPl σ σ' ∧ SFl n B p σ' := by
  have kk : Kp rgPk σ (upI (upI σ 120 (61 + c) (nI k)) 118 1 (nI (c + 1))) := (Kp.rf.I (by unfold rgPk; omega)).I (by unfold rgPk; omega)
  have := h.kp kk
  exact ⟨_, endM_e hc h.2.2.2 hk h118, kk.pk, this.1, this.2.2.1⟩
theorem line_C {N : Nat} {σ : Sx} : F_X4_line N σ = clx (F_X4_chain N (0 : Int32) (0 : Int32) σ) (fun v1 σ1 => (if v1 = 0 then some ((0 : Int32), σ1) else clx (F_X4_next σ1) (fun v2 σ2 => (if v2 = (63 : Int32) then pIx 2 2 ((siI σ2 2 2) + (1 : Int32)) σ2 (fun σ5 => clx (F_X4_emit (10063 : Int32) σ5) (fun _ σ6 => clx (F_X4_chain N (0 : Int32) (0 : Int32) σ6) (fun v3 σ7 => (if v3 = 0 then some ((0 : Int32), σ7) else clx (F_X4_emit (10059 : Int32) σ7) (fun _ σ4 => some ((1 : Int32), σ4)))))) else clx (F_X4_emit (10059 : Int32) σ2) (fun _ σ4 => some ((1 : Int32), σ4)))))) := rfl
def bCl (n : Nat) (B : Nat → Nat) (p' : Nat) (o : Option (Int32 × Sx)) (σ : Sx) : Prop := ∃ σ', Kp rgPc σ σ' ∧ ((o = some (0, σ') ∧ siI σ' 2 2 = nI p') ∨ (dgS (sy n B p') = 1 ∧ ∃ D', o = some (1, σ') ∧ SC n B p' D' σ'))
def okLn (n : Nat) (B : Nat → Nat) (p p' : Nat) (l : Ln) (F : Sx → Option (Int32 × Sx)) (G : Sx → Option (Unit × Sx)) : Prop := (∀ D σ, SC n B p D σ → D.length ≤ p → ∃ σ', F σ = some (1, σ') ∧ Kp rgPc σ σ' ∧ SC n B p' (D ++ cLn l) σ') ∧ ∀ Ls σ, SX n B p Ls σ → (spL Ls).length ≤ p → 2 * Ls.length ≤ p → ∃ σ', G σ = some ((), σ') ∧ Kp rgPl σ σ' ∧ SX n B p' (Ls ++ [l]) σ'
def baLn (n : Nat) (B : Nat → Nat) (p p' : Nat) (F : Sx → Option (Int32 × Sx)) (G : Sx → Option (Unit × Sx)) : Prop := (∀ D σ, SC n B p D σ → D.length ≤ p → bCl n B p' (F σ) σ) ∧ ∀ Ls σ, SX n B p Ls σ → (spL Ls).length ≤ p → 2 * Ls.length ≤ p → ∃ σ', G σ = some ((), σ') ∧ Kp rgPl σ σ' ∧ SFl n B p' σ'
def LL (n : Nat) (B : Nat → Nat) (p : Nat) (F : Sx → Option (Int32 × Sx)) (G : Sx → Option (Unit × Sx)) : Prop := (∃ p' l, p < p' ∧ p' ≤ n ∧ (cLn l).length + p ≤ p' + 1 ∧ l.1.length + l.2.length + p ≤ p' ∧ okL l ∧ okLn n B p p' l F G) ∨ ∃ p', p ≤ p' ∧ p' ≤ n ∧ baLn n B p p' F G
theorem cLn_one (E : List Tk) : cLn ([], E) = E.map tC ++ [nI 10059] := rfl
theorem cLn_two {E : List Tk} (h : E ≠ []) (E2 : List Tk) : cLn (E, E2) = (E.map tC ++ [nI 10063]) ++ (E2.map tC ++ [nI 10059]) := by
  unfold cLn
  rw [if_neg h]
theorem LL_all {n : Nat} {B : Nat → Nat} {N : Nat} (hn : n ≤ 120) (hN : 130 < N) (hB : ∀ j, j < n → B j < 256) (p : Nat) (hp : p ≤ n) : LL n B p (F_X4_line N) (F_X10_line N) := by
  have e63 : (10063 : Int32) = nI 10063 := rfl
  have e59 : (10059 : Int32) = nI 10059 := rfl
  rcases J_all hn hN hB p hp with ⟨p1, E1, v1, a1, a2, a3, a4, a5, a6⟩ | ⟨p1, a1, a2, a3, a4⟩
  · have C1 : ∀ D σ, SC n B p D σ → D.length ≤ p → ∃ σ1, Kp rgPc σ σ1 ∧ SC n B p1 (D ++ E1.map tC) σ1 ∧ F_X4_line N σ = (if sy n B p1 = 63 then clx (F_X4_emit (nI 10063) (upI σ1 2 2 (nI (p1 + 1)))) (fun _ σ6 => clx (F_X4_chain N (0 : Int32) (0 : Int32) σ6) (fun v3 σ7 => (if v3 = 0 then some ((0 : Int32), σ7) else clx (F_X4_emit (nI 10059) σ7) (fun _ σ4 => some ((1 : Int32), σ4))))) else clx (F_X4_emit (nI 10059) σ1) (fun _ σ4 => some ((1 : Int32), σ4))) := fun D σ hD hl => by
      obtain ⟨σ1, b1, b2, b3⟩ := a5 D σ hD hl
      refine ⟨σ1, b2, b3, ?_⟩
      rw [line_C, b1, clx_s, if10, C_next hn b3.1 b3.2.1 a2, clx_s, b3.2.1, ifI (Vs_C hB p1).c63, nI_add1, pIx_s]
      rfl
    have M1 : ∀ Ls σ, SX n B p Ls σ → (spL Ls).length ≤ p → 2 * Ls.length ≤ p → ∃ σ1, Kp rgPl σ σ1 ∧ SY n B p1 Ls E1 (spL Ls).length σ1 ∧ F_X10_line N σ = (if sy n B p1 = 63 then clx (F_X10_either N (upI (upI σ1 103 17 (nI (p1 + 1))) 119 (61 + Ls.length) (nI ((spL Ls).length + E1.length)))) (fun _ σ9 => endM (nI (61 + Ls.length)) σ9) else endM (nI (61 + Ls.length)) σ1) := fun Ls σ h hl h2 => by
      obtain ⟨s1, s2⟩ := SX_in h
      have hc : Ls.length < 61 := by omega
      obtain ⟨σ1, b1, b2, b3⟩ := a6 (spL Ls ++ []) _ s1.1 (by rw [List.append_nil]; exact hl)
      have s3 := s1.go b2 b3
      rw [List.nil_append] at s3
      refine ⟨σ1, s2.tr b2.pm, s3, ?_⟩
      rw [line_M h.2.1 hc h.1.2.2.2.2.1 (by omega), b1, clx_s, s3.1.2.2.1, if_neg (by decide), M_looks hn s3.1.1 s3.1.2.1 a2, clx_s, ifI (Vs_M hB p1).c63, s3.1.2.1, nI_add1, pIx_s, uI_j (by decide), s3.1.2.2.2.2.1, List.length_append, nar_s, t16 _ (by omega), sIx_k (by omega) (by decide)]
    by_cases h63 : sy n B p1 = 63
    · have hp1 : p1 < n := sy_in (B := B) (by omega)
      have C2 : ∀ D σ, SC n B p D σ → D.length ≤ p → ∃ σ6, Kp rgPc σ σ6 ∧ SC n B (p1 + 1) ((D ++ E1.map tC) ++ [nI 10063]) σ6 ∧ ((D ++ E1.map tC) ++ [nI 10063]).length ≤ p1 + 1 ∧ F_X4_line N σ = clx (F_X4_chain N (0 : Int32) (0 : Int32) σ6) (fun v3 σ7 => (if v3 = 0 then some ((0 : Int32), σ7) else clx (F_X4_emit (nI 10059) σ7) (fun _ σ4 => some ((1 : Int32), σ4)))) := fun D σ hD hl => by
        obtain ⟨σ1, d1, d2, d3⟩ := C1 D σ hD hl
        obtain ⟨g1, g2⟩ := C_at (p2 := p1 + 1) d2
        obtain ⟨σ6, e1, e2, e3⟩ := C_emit (nI 10063) g1 (by rw [List.length_append, List.length_map]; omega)
        refine ⟨σ6, (d1.tr g2).tr e2, e3, ?_, ?_⟩
        · rw [List.length_append, List.length_append, List.length_map, List.length_singleton]
          omega
        · rw [d3, if_pos h63, e1, clx_s]
      have M2 : ∀ Ls σ, SX n B p Ls σ → (spL Ls).length ≤ p → 2 * Ls.length ≤ p → ∃ σ1, Kp rgPl σ σ1 ∧ SY n B (p1 + 1) Ls E1 ((spL Ls).length + E1.length) σ1 ∧ F_X10_line N σ = clx (F_X10_either N σ1) (fun _ σ9 => endM (nI (61 + Ls.length)) σ9) := fun Ls σ h hl h2 => by
        obtain ⟨σ1, s1, s2, s3⟩ := M1 Ls σ h hl h2
        obtain ⟨g1, g2⟩ := M_at (p2 := p1 + 1) s2.1
        have s4 : SY n B (p1 + 1) Ls (E1 ++ []) (spL Ls).length (upI σ1 103 17 (nI (p1 + 1))) := s2.go g2 (by rw [List.append_nil]; exact g1)
        rw [List.append_nil] at s4
        obtain ⟨s5, s6⟩ := s4.mk2 ((spL Ls).length + E1.length)
        exact ⟨_, (s1.tr g2.pm).tr s6, s5, by rw [s3, if_pos h63]⟩
      rcases J_all hn hN hB (p1 + 1) (by omega) with ⟨p2, E2, v2, c1, c2, c3, c4, c5, c6⟩ | ⟨p2, c1, c2, c3, c4⟩
      · refine Or.inl ⟨p2, (E1, E2), by omega, c2, ?_, ?_, ⟨Or.inr ⟨v1, a4⟩, v2, c4⟩, fun D σ hD hl => ?_, fun Ls σ h hl h2 => ?_⟩
        · rw [cLn_two a4.ne, List.length_append, List.length_append, List.length_append, List.length_map, List.length_map, List.length_singleton, List.length_singleton]
          omega
        · show E1.length + E2.length + p ≤ p2
          omega
        · obtain ⟨σ6, d1, d2, d3, d4⟩ := C2 D σ hD hl
          obtain ⟨σ7, f1, f2, f3⟩ := c5 _ σ6 d2 d3
          obtain ⟨σ8, i1, i2, i3⟩ := C_emit (nI 10059) f3 (by rw [List.length_append, List.length_map]; omega)
          refine ⟨σ8, ?_, (d1.tr f2).tr i2, ?_⟩
          · rw [d4, f1, clx_s, if10, i1, clx_s]
          · rw [cLn_two a4.ne, ← List.append_assoc, ← List.append_assoc, ← List.append_assoc]
            exact i3
        · obtain ⟨σ1, s1, s2, s3⟩ := M2 Ls σ h hl h2
          obtain ⟨σ2, f1, f2, f3⟩ := c6 _ σ1 s2.1 (by rw [List.length_append]; omega)
          obtain ⟨σ3, i1, i2, i3⟩ := SY_end (l := (E1, E2)) (s2.go f2 f3) (by omega) (by show _ + (E1.length + E2.length) < 256; omega)
          exact ⟨σ3, by rw [s3, f1, clx_s, i1], (s1.tr f2.pm).tr i2, i3⟩
      · refine Or.inr ⟨p2, by omega, c2, fun D σ hD hl => ?_, fun Ls σ h hl h2 => ?_⟩
        · obtain ⟨σ6, d1, d2, d3, d4⟩ := C2 D σ hD hl
          obtain ⟨σ7, f1, f2⟩ := c3 _ σ6 d2 d3
          rcases f2 with ⟨f2, f3⟩ | ⟨f2, D', f3, f4, f5⟩
          · exact ⟨σ7, d1.tr f1, Or.inl ⟨by rw [d4, f2, clx_s, if_pos rfl], f3⟩⟩
          · obtain ⟨σ8, i1, i2, i3⟩ := C_emit (nI 10059) f4 (by omega)
            exact ⟨σ8, (d1.tr f1).tr i2, Or.inr ⟨f2, _, by rw [d4, f3, clx_s, if10, i1, clx_s], i3⟩⟩
        · obtain ⟨σ1, s1, s2, s3⟩ := M2 Ls σ h hl h2
          obtain ⟨σ2, k, f1, f2, f3, f4⟩ := c4 _ σ1 s2.1 (by rw [List.length_append]; omega)
          rw [List.length_append] at f4
          obtain ⟨σ3, i1, i2, i3⟩ := SF_end f3 (show Ls.length < 61 by omega) (by omega) (by rw [(f2 118 1 (by unfold rgPm; omega)).1]; exact s2.2.1)
          exact ⟨σ3, by rw [s3, f1, clx_s, i1], (s1.tr f2.pm).tr i2, i3⟩
    · refine Or.inl ⟨p1, ([], E1), a1, a2, ?_, ?_, ⟨Or.inl rfl, v1, a4⟩, fun D σ hD hl => ?_, fun Ls σ h hl h2 => ?_⟩
      · rw [cLn_one, List.length_append, List.length_map, List.length_singleton]
        omega
      · show 0 + E1.length + p ≤ p1
        omega
      · obtain ⟨σ1, d1, d2, d3⟩ := C1 D σ hD hl
        obtain ⟨σ8, i1, i2, i3⟩ := C_emit (nI 10059) d2 (by rw [List.length_append, List.length_map]; omega)
        refine ⟨σ8, ?_, d1.tr i2, ?_⟩
        · rw [d3, if_neg h63, i1, clx_s]
        · rw [cLn_one, ← List.append_assoc]
          exact i3
      · obtain ⟨σ1, s1, s2, s3⟩ := M1 Ls σ h hl h2
        obtain ⟨σ3, i1, i2, i3⟩ := SY_end (l := ([], E1)) (p := p1) (σ := σ1) (by simpa using s2) (by omega) (by show _ + (0 + E1.length) < 256; omega)
        exact ⟨σ3, by rw [s3, if_neg h63, i1], s1.tr i2, i3⟩
  · refine Or.inr ⟨p1, a1, a2, fun D σ hD hl => ?_, fun Ls σ h hl h2 => ?_⟩
    · obtain ⟨σ1, d1, d2⟩ := a3 D σ hD hl
      rcases d2 with ⟨d2, d3⟩ | ⟨d2, D', d3, d4, d5⟩
      · exact ⟨σ1, d1, Or.inl ⟨by rw [line_C, d2, clx_s, if_pos rfl], d3⟩⟩
      · obtain ⟨σ8, i1, i2, i3⟩ := C_emit (nI 10059) d4 (by omega)
        refine ⟨σ8, d1.tr i2, Or.inr ⟨d2, _, ?_, i3⟩⟩
        rw [line_C, d3, clx_s, if10, C_next hn d4.1 d4.2.1 a2, clx_s, ifI (Vs_C hB p1).c63, if_neg (dg_rk _ (sy_lt n B p1) d2).2.1, e59, i1, clx_s]
    · obtain ⟨s1, s2⟩ := SX_in h
      have hc : Ls.length < 61 := by omega
      obtain ⟨σ1, k, b1, b2, b3, b4⟩ := a4 (spL Ls ++ []) _ s1.1 (by rw [List.append_nil]; exact hl)
      rw [List.append_nil] at b4
      obtain ⟨σ3, i1, i2, i3⟩ := SF_end b3 hc (by omega) (by rw [(b2 118 1 (by unfold rgPm; omega)).1]; exact s1.2.1)
      refine ⟨σ3, ?_, (s2.tr b2.pm).tr i2, i3⟩
      rw [line_M h.2.1 hc h.1.2.2.2.2.1 (by omega), b1, clx_s, b3.2.2.1, if_pos (show 0 ≤ nI p1 from nI_pos' (by omega)), i1]
