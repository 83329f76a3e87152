/-! THE TWO READERS OF A LAW: a text -/
theorem cdL_cons (l : Ln) (Ls : List Ln) : cdL (l :: Ls) = cLn l ++ cdL Ls := by
  unfold cdL
  rw [List.flatMap_cons]
theorem spL_cons (l : Ln) (Ls : List Ln) : spL (l :: Ls) = (l.1 ++ l.2) ++ spL Ls := by
  unfold spL
  rw [List.flatMap_cons]
theorem SX.at2 {n : Nat} {B : Nat → Nat} {p p2 : Nat} {Ls : List Ln} {σ : Sx} (h : SX n B p Ls σ) : SX n B p2 Ls (upI σ 103 17 (nI p2)) ∧ Kp rgPl σ (upI σ 103 17 (nI p2)) := by
  obtain ⟨h1, h2, h3⟩ := h
  obtain ⟨g1, g2⟩ := M_at (p2 := p2) h1
  refine ⟨⟨g1, ?_, h3.of (fun i hi => ⟨?_, ?_⟩)⟩, g2.pm⟩
  · rw [uI_i (by decide)]
    exact h2
  · rw [uI_i (by decide)]
  · rw [uI_i (by decide)]
def okTx (n : Nat) (B : Nat → Nat) (p : Nat) (F : Sx → Option (Int32 × Sx)) (G : Sx → Option (Int32 × Sx)) (j64 : Sx → Option (Int32 × Sx)) : Prop := ∃ Ks : List Ln, (∀ l, l ∈ Ks → okL l) ∧ (cdL Ks).length + p ≤ n + 1 ∧ (spL Ks).length + p ≤ n ∧ 2 * Ks.length + p ≤ n + 1 ∧ (∀ D σ, SC n B p D σ → D.length ≤ p → ∃ σ', F σ = some (1, σ') ∧ Kp rgPc σ σ' ∧ SC n B n (D ++ cdL Ks) σ') ∧ (∀ Ls σ, SX n B p Ls σ → (spL Ls).length ≤ p → 2 * Ls.length ≤ p → ∃ σ', G σ = j64 σ' ∧ Kp rgPl σ σ' ∧ SX n B n (Ls ++ Ks) σ')
def baTx (n : Nat) (B : Nat → Nat) (p : Nat) (F : Sx → Option (Int32 × Sx)) (G : Sx → Option (Int32 × Sx)) (j64 : Sx → Option (Int32 × Sx)) : Prop := ∃ p', p' ≤ n ∧ (∀ D σ, SC n B p D σ → D.length ≤ p → ∃ σ', F σ = some (0, σ') ∧ Kp rgPc σ σ' ∧ siI σ' 2 2 = nI p') ∧ (∀ Ls σ, SX n B p Ls σ → (spL Ls).length ≤ p → 2 * Ls.length ≤ p → ∃ σ', G σ = j64 σ' ∧ Kp rgPl σ σ' ∧ (SFl n B p' σ' ∨ (p' < n ∧ ∃ Ls', SX n B p' Ls' σ')))
theorem text_C {N Nc i : Nat} (hi : i < 120) (σ : Sx) : lpx1 (B_X4_text_L2 N) (Nc + 1) (nI i) σ = clx (F_X4_line N σ) (fun v1 σ2 => (if v1 = 0 then some ((0 : Int32), σ2) else (if (siI σ2 2 2) = (siI σ2 2 0) then some ((1 : Int32), σ2) else clx (F_X4_next σ2) (fun v2 σ3 => (if v2 = (59 : Int32) then pIx 2 2 ((siI σ3 2 2) + (1 : Int32)) σ3 (fun σ4 => lpx1 (B_X4_text_L2 N) Nc (nI (i + 1)) σ4) else some ((0 : Int32), σ3)))))) := by
  rw [lpx1_s, B_X4_text_L2, show (120 : Int32) = nI 120 from rfl, ite_le (by decide) (by omega), if_neg (by omega), nI_add1]
abbrev lnM (N Nm : Nat) (j64 : Sx → Option (Int32 × Sx)) (σ : Sx) : Option (Int32 × Sx) := clx (F_X10_line N σ) (fun _ σ6 => lpx0 (B_X10_readText_L31 N j64) Nm σ6)
theorem lpM_off {N Nm : Nat} {j64 : Sx → Option (Int32 × Sx)} {n : Nat} {B : Nat → Nat} {p : Nat} {Ls : List Ln} {σ : Sx} (hn : n ≤ 120) (hB : ∀ j, j < n → B j < 256) (h : SX n B p Ls σ) (hp : p ≤ n) (hs : sy n B p ≠ 59) : lpx0 (B_X10_readText_L31 N j64) (Nm + 1) σ = j64 σ := by
  rw [lpx0_s, B_X10_readText_L31, h.1.2.2.1, if_neg (by decide), M_looks hn h.1.1 h.1.2.1 hp, clx_s, ifI (Vs_M hB p).c59, if_neg hs]
theorem lpM_on {N Nm : Nat} {j64 : Sx → Option (Int32 × Sx)} {n : Nat} {B : Nat → Nat} {p : Nat} {Ls : List Ln} {σ : Sx} (hn : n ≤ 120) (hB : ∀ j, j < n → B j < 256) (h : SX n B p Ls σ) (hp : p ≤ n) (hs : sy n B p = 59) : lpx0 (B_X10_readText_L31 N j64) (Nm + 1) σ = lnM N Nm j64 (upI σ 103 17 (nI (p + 1))) := by
  rw [lpx0_s, B_X10_readText_L31, h.1.2.2.1, if_neg (by decide), M_looks hn h.1.1 h.1.2.1 hp, clx_s, ifI (Vs_M hB p).c59, if_pos hs, h.1.2.1, nI_add1, pIx_s]
theorem TT_bad {n : Nat} {B : Nat → Nat} {N p p' i Nc Nm : Nat} (hn : n ≤ 120) (hB : ∀ j, j < n → B j < 256) (hp : p ≤ n) (hi : 2 * i ≤ p) (hp' : p' ≤ n) (j64 : Sx → Option (Int32 × Sx)) (h : baLn n B p p' (F_X4_line N) (F_X10_line N)) : baTx n B p (lpx1 (B_X4_text_L2 N) (Nc + 1) (nI i)) (lnM N (Nm + 1) j64) j64 := by
  obtain ⟨h1, h2⟩ := h
  refine ⟨p', hp', fun D σ hD hl => ?_, fun Ls σ hS hl hl2 => ?_⟩
  · rw [text_C (by omega)]
    obtain ⟨σ1, d1, d2⟩ := h1 D σ hD hl
    refine ⟨σ1, ?_, d1, ?_⟩
    · rcases d2 with ⟨d2, d3⟩ | ⟨d2, D', d3, d4⟩
      · rw [d2, clx_s, if_pos rfl]
      · have f := dg_rk _ (sy_lt n B p') d2
        have := sy_in f.2.2.2.2
        rw [d3, clx_s, if10, d4.2.1, d4.1.1, ite_eq (by omega) (by omega), if_neg (by omega), C_next hn d4.1 d4.2.1 hp', clx_s, ifI (Vs_C hB p').c59, if_neg f.2.2.1]
    · rcases d2 with ⟨d2, d3⟩ | ⟨d2, D', d3, d4⟩
      · exact d3
      · exact d4.2.1
  · obtain ⟨σ1, d1, d2, d3⟩ := h2 Ls σ hS hl hl2
    refine ⟨σ1, ?_, d2, Or.inl d3⟩
    show clx (F_X10_line N σ) _ = _
    rw [d1, clx_s, lpx0_s, B_X10_readText_L31, d3.2, if_pos (nI_pos' (by omega))]
theorem TT_all {n : Nat} {B : Nat → Nat} {N : Nat} (hn : n ≤ 120) (hN : 130 < N) (hB : ∀ j, j < n → B j < 256) (j64 : Sx → Option (Int32 × Sx)) : ∀ k p i Nc Nm, n - p ≤ k → p ≤ n → 2 * i ≤ p → k < Nc → k < Nm → okTx n B p (lpx1 (B_X4_text_L2 N) Nc (nI i)) (lnM N Nm j64) j64 ∨ baTx n B p (lpx1 (B_X4_text_L2 N) Nc (nI i)) (lnM N Nm j64) j64 := by
  intro k
  induction k with
  | zero =>
    intro p i Nc Nm hk hp hi hNc hNm
    obtain ⟨Nc, rfl⟩ : ∃ x, Nc = x + 1 := ⟨Nc - 1, by omega⟩
    obtain ⟨Nm, rfl⟩ : ∃ x, Nm = x + 1 := ⟨Nm - 1, by omega⟩
    rcases LL_all hn hN hB p hp with ⟨p1, l, a1, a2, -⟩ | ⟨p1, a1, a2, a3⟩
    · omega
    · exact Or.inr (TT_bad hn hB hp hi a2 j64 a3)
  | succ k ih =>
    intro p i Nc Nm hk hp hi hNc hNm
    obtain ⟨Nc, rfl⟩ : ∃ x, Nc = x + 1 := ⟨Nc - 1, by omega⟩
    obtain ⟨Nm, rfl⟩ : ∃ x, Nm = x + 1 := ⟨Nm - 1, by omega⟩
    rcases LL_all hn hN hB p hp with ⟨p1, l, a1, a2, a3, a4, a5, a6, a7⟩ | ⟨p1, a1, a2, a3⟩
    · have hl2 : l.2 ≠ [] := by
        obtain ⟨v, hv⟩ := a5.2
        exact hv.ne
      have cl : ∀ D : List Int32, D.length ≤ p → (D ++ cLn l).length ≤ p1 + 1 := fun D hD => by
        rw [List.length_append]
        omega
      have sl : ∀ Ls : List Ln, (spL Ls).length ≤ p → (spL (Ls ++ [l])).length ≤ p1 := fun Ls hL => by
        rw [spL_snoc, List.length_append, List.length_append]
        omega
      by_cases e : p1 = n
      · left
        subst e
        have hs : sy p1 B p1 ≠ 59 := by
          unfold sy
          rw [if_neg (by omega)]
          decide
        refine ⟨[l], fun l2 q => ?_, ?_, ?_, ?_, fun D σ hD hl => ?_, fun Ls σ hS hl hl2 => ?_⟩
        · rw [List.mem_singleton] at q
          rw [q]
          exact a5
        · rw [cdL_cons, List.length_append]
          show _ + 0 + p ≤ _
          omega
        · rw [spL_cons, List.length_append, List.length_append]
          show _ + 0 + p ≤ _
          omega
        · show 2 * 1 + p ≤ _
          omega
        · obtain ⟨σ1, d1, d2, d3⟩ := a6 D σ hD hl
          refine ⟨σ1, ?_, d2, ?_⟩
          · rw [text_C (by omega), d1, clx_s, if10, d3.2.1, d3.1.1, if_pos rfl]
          · rw [cdL_cons, show cdL [] = [] from rfl, List.append_nil]
            exact d3
        · obtain ⟨σ1, d1, d2, d3⟩ := a7 Ls σ hS hl hl2
          refine ⟨σ1, ?_, d2, d3⟩
          show clx (F_X10_line N σ) _ = _
          rw [d1, clx_s, lpM_off hn hB d3 (Nat.le_refl _) hs]
      · have hlt : p1 < n := by omega
        by_cases hs : sy n B p1 = 59
        · have goC : ∀ D σ, SC n B p D σ → D.length ≤ p → ∃ σ9, lpx1 (B_X4_text_L2 N) (Nc + 1) (nI i) σ = lpx1 (B_X4_text_L2 N) Nc (nI (i + 1)) σ9 ∧ Kp rgPc σ σ9 ∧ SC n B (p1 + 1) (D ++ cLn l) σ9 := fun D σ hD hl => by
            obtain ⟨σ1, d1, d2, d3⟩ := a6 D σ hD hl
            obtain ⟨g1, g2⟩ := C_at (p2 := p1 + 1) d3
            refine ⟨_, ?_, d2.tr g2, g1⟩
            rw [text_C (by omega), d1, clx_s, if10, d3.2.1, d3.1.1, ite_eq (by omega) (by omega), if_neg (by omega), C_next hn d3.1 d3.2.1 a2, clx_s, ifI (Vs_C hB p1).c59, if_pos hs, d3.2.1, nI_add1, pIx_s]
          have goM : ∀ Ls σ, SX n B p Ls σ → (spL Ls).length ≤ p → 2 * Ls.length ≤ p → ∃ σ9, lnM N (Nm + 1) j64 σ = lnM N Nm j64 σ9 ∧ Kp rgPl σ σ9 ∧ SX n B (p1 + 1) (Ls ++ [l]) σ9 := fun Ls σ hS hl hl2 => by
            obtain ⟨σ1, d1, d2, d3⟩ := a7 Ls σ hS hl hl2
            obtain ⟨g1, g2⟩ := SX.at2 (p2 := p1 + 1) d3
            refine ⟨_, ?_, d2.tr g2, g1⟩
            show clx (F_X10_line N σ) _ = _
            rw [d1, clx_s, lpM_on hn hB d3 a2 hs]
          rcases ih (p1 + 1) (i + 1) Nc Nm (by omega) (by omega) (by omega) (by omega) (by omega) with ⟨Ks, b1, b2, b3, b4, b5, b6⟩ | ⟨p2, b1, b2, b3⟩
          · refine Or.inl ⟨l :: Ks, fun l2 q => ?_, ?_, ?_, ?_, fun D σ hD hl => ?_, fun Ls σ hS hl hl2 => ?_⟩
            · rcases List.mem_cons.mp q with rfl | q
              · exact a5
              · exact b1 l2 q
            · rw [cdL_cons, List.length_append]
              omega
            · rw [spL_cons, List.length_append, List.length_append]
              omega
            · rw [List.length_cons]
              omega
            · obtain ⟨σ9, x1, x2, x3⟩ := goC D σ hD hl
              obtain ⟨σ', y1, y2, y3⟩ := b5 _ σ9 x3 (cl D hl)
              refine ⟨σ', x1.trans y1, x2.tr y2, ?_⟩
              rw [cdL_cons, ← List.append_assoc]
              exact y3
            · obtain ⟨σ9, x1, x2, x3⟩ := goM Ls σ hS hl hl2
              obtain ⟨σ', y1, y2, y3⟩ := b6 _ σ9 x3 (by have := sl Ls hl; omega) (by rw [List.length_append, List.length_singleton]; omega)
              refine ⟨σ', x1.trans y1, x2.tr y2, ?_⟩
              rw [show l :: Ks = [l] ++ Ks from rfl, ← List.append_assoc]
              exact y3
          · refine Or.inr ⟨p2, b1, fun D σ hD hl => ?_, fun Ls σ hS hl hl2 => ?_⟩
            · obtain ⟨σ9, x1, x2, x3⟩ := goC D σ hD hl
              obtain ⟨σ', y1, y2, y3⟩ := b2 _ σ9 x3 (cl D hl)
              exact ⟨σ', x1.trans y1, x2.tr y2, y3⟩
            · obtain ⟨σ9, x1, x2, x3⟩ := goM Ls σ hS hl hl2
              obtain ⟨σ', y1, y2, y3⟩ := b3 _ σ9 x3 (by have := sl Ls hl; omega) (by rw [List.length_append, List.length_singleton]; omega)
              exact ⟨σ', x1.trans y1, x2.tr y2, y3⟩
        · refine Or.inr ⟨p1, a2, fun D σ hD hl => ?_, fun Ls σ hS hl hl2 => ?_⟩
          · obtain ⟨σ1, d1, d2, d3⟩ := a6 D σ hD hl
            refine ⟨σ1, ?_, d2, d3.2.1⟩
            rw [text_C (by omega), d1, clx_s, if10, d3.2.1, d3.1.1, ite_eq (by omega) (by omega), if_neg (by omega), C_next hn d3.1 d3.2.1 a2, clx_s, ifI (Vs_C hB p1).c59, if_neg hs]
          · obtain ⟨σ1, d1, d2, d3⟩ := a7 Ls σ hS hl hl2
            refine ⟨σ1, ?_, d2, Or.inr ⟨hlt, _, d3⟩⟩
            show clx (F_X10_line N σ) _ = _
            rw [d1, clx_s, lpM_off hn hB d3 a2 hs]
    · exact Or.inr (TT_bad hn hB hp hi a2 j64 a3)
