/-! THE TWO READERS OF A LAW: levels -/
def opV (o : Nat) (a b : Int32) : Int32 := if o = 38 then (if a = 0 then 0 else if b = 0 then 0 else 1) else if o = 42 then a * b else if o = 43 then a + b else if o = 45 then a - b else if o = 47 then (if b = 0 then 0 else a / b) else if o = 60 then (if b ≤ a then 0 else 1) else if o = 61 then (if a = b then 1 else 0) else if o = 62 then (if a ≤ b then 0 else 1) else if o = 124 then (if a = 0 then (if b = 0 then 0 else 1) else 1) else (if b = 0 then 0 else jrem a b)
def isOp (o : Nat) : Prop := o = 37 ∨ o = 38 ∨ o = 42 ∨ o = 43 ∨ o = 45 ∨ o = 47 ∨ o = 60 ∨ o = 61 ∨ o = 62 ∨ o = 124
/-- steps that work something out, and what -/
def Ex (E : List Tk) (v : (Nat → Int32) → Int32) : Prop := ∀ P : List Tk → ((Nat → Int32) → Int32) → Prop, (∀ x, x < 10000 → P [(1, x)] (fun _ => nI x)) → (∀ i, i < 6 → P [(2, i)] (fun e => e i)) → (∀ E v, P E v → P (E ++ [(3, 0)]) (fun e => if v e = 0 then 1 else 0)) → (∀ E v, P E v → P (E ++ [(4, 0)]) (fun e => -(v e))) → (∀ o E1 v1 E2 v2, isOp o → P E1 v1 → P E2 v2 → P (E1 ++ E2 ++ [(o, 0)]) (fun e => opV o (v1 e) (v2 e))) → P E v
theorem Ex.num {x : Nat} (h : x < 10000) : Ex [(1, x)] (fun _ => nI x) := fun _ h1 _ _ _ _ => h1 x h
theorem Ex.nam {i : Nat} (h : i < 6) : Ex [(2, i)] (fun e => e i) := fun _ _ h2 _ _ _ => h2 i h
theorem Ex.no {E : List Tk} {v : (Nat → Int32) → Int32} (h : Ex E v) : Ex (E ++ [(3, 0)]) (fun e => if v e = 0 then 1 else 0) := fun P h1 h2 h3 h4 h5 => h3 E v (h P h1 h2 h3 h4 h5)
theorem Ex.neg {E : List Tk} {v : (Nat → Int32) → Int32} (h : Ex E v) : Ex (E ++ [(4, 0)]) (fun e => -(v e)) := fun P h1 h2 h3 h4 h5 => h4 E v (h P h1 h2 h3 h4 h5)
theorem Ex.op {o : Nat} {E1 E2 : List Tk} {v1 v2 : (Nat → Int32) → Int32} (ho : isOp o) (h : Ex E1 v1) (h' : Ex E2 v2) : Ex (E1 ++ E2 ++ [(o, 0)]) (fun e => opV o (v1 e) (v2 e)) := fun P h1 h2 h3 h4 h5 => h5 o E1 v1 E2 v2 ho (h P h1 h2 h3 h4 h5) (h' P h1 h2 h3 h4 h5)
def okJ (n : Nat) (B : Nat → Nat) (q p p' : Nat) (E : List Tk) (F : Sx → Option (Int32 × Sx)) (G : Sx → Option (Unit × Sx)) : Prop := (∀ D σ, SC n B p D σ → D.length ≤ p → ∃ σ', F σ = some (1, σ') ∧ Kp rgPc σ σ' ∧ SC n B p' (D ++ E.map tC) σ') ∧ ∀ L σ, SM n B p q L σ → L.length ≤ p → ∃ σ', G σ = some ((), σ') ∧ Kp rgPm σ σ' ∧ SM n B p' q (L ++ E) σ'
/-- the C reader at fault; or before a digit too many, where it stops later -/
def bC (n : Nat) (B : Nat → Nat) (p p' : Nat) (D : List Int32) (o : Option (Int32 × Sx)) (σ : Sx) : Prop := ∃ σ', Kp rgPc σ σ' ∧ ((o = some (0, σ') ∧ siI σ' 2 2 = nI p') ∨ (dgS (sy n B p') = 1 ∧ ∃ D', o = some (1, σ') ∧ SC n B p' D' σ' ∧ D'.length + p ≤ D.length + p'))
def baJ (n : Nat) (B : Nat → Nat) (q p p' : Nat) (F : Sx → Option (Int32 × Sx)) (G : Sx → Option (Unit × Sx)) : Prop := (∀ D σ, SC n B p D σ → D.length ≤ p → bC n B p p' D (F σ) σ) ∧ ∀ L σ, SM n B p q L σ → L.length ≤ p → ∃ σ' k, G σ = some ((), σ') ∧ Kp rgPm σ σ' ∧ SF n B p' k σ' ∧ k + p ≤ L.length + p' + 1
def JJ (n : Nat) (B : Nat → Nat) (q p : Nat) (F : Sx → Option (Int32 × Sx)) (G : Sx → Option (Unit × Sx)) : Prop := (∃ p' E v, p < p' ∧ p' ≤ n ∧ E.length + p ≤ p' ∧ Ex E v ∧ okJ n B q p p' E F G) ∨ ∃ p', p ≤ p' ∧ p' ≤ n ∧ baJ n B q p p' F G
set_option maxRecDepth 100000 in
theorem rk_facts : ∀ s, s < 129 → (rkS s = 0 ↔ s = 124) ∧ (rkS s = 1 ↔ s = 38) ∧ (rkS s = 2 ↔ (s = 60 ∨ s = 61 ∨ s = 62)) ∧ (rkS s = 3 ↔ (s = 43 ∨ s = 45)) ∧ (rkS s = 4 ↔ (s = 37 ∨ s = 42 ∨ s = 47)) := by decide
theorem rk_op {s r : Nat} (hs : s < 129) (hr : r < 5) (h : rkS s = nI r) : isOp s ∧ s < 128 := by
  obtain ⟨f0, f1, f2, f3, f4⟩ := rk_facts s hs
  unfold isOp
  match r, hr with
  | 0, _ => have := f0.mp h; omega
  | 1, _ => have := f1.mp h; omega
  | 2, _ => have := f2.mp h; omega
  | 3, _ => have := f3.mp h; omega
  | 4, _ => have := f4.mp h; omega
theorem tC_op {s : Nat} (h : isOp s) : tC (s, 0) = nI (10000 + s) := by
  unfold isOp at h
  unfold tC
  rw [if_neg (by dsimp only; omega), if_neg (by dsimp only; omega), if_neg (by dsimp only; omega), if_neg (by dsimp only; omega)]
/-- the M reader's way round a level -/
def lvM (n : Nat) (B : Nat → Nat) (q r : Nat) (inner : Sx → Option (Unit × Sx)) (BM : (Sx → Option (Unit × Sx)) → Sx → Option (Unit × Sx)) : Prop :=
  (∀ rr p L σ, SM n B p q L σ → p ≤ n → ¬ rkS (sy n B p) = nI r → BM rr σ = some ((), σ)) ∧
  (∀ rr p L σ, SM n B p q L σ → p ≤ n → rkS (sy n B p) = nI r → BM rr σ = clx (inner (upI σ 103 17 (nI (p + 1)))) (fun _ σ5 => clx (F_X10_addStep (nI (sy n B p)) (nI 0) σ5) (fun _ σ6 => rr σ6))) ∧
  ∀ rr p k σ, SF n B p k σ → p ≤ n → BM rr σ = some ((), σ)
set_option maxRecDepth 100000 in
theorem dg_rk : ∀ s, s < 129 → dgS s = 1 → rkS s = -1 ∧ s ≠ 63 ∧ s ≠ 59 ∧ s ≠ 41 ∧ s < 128 := by decide
theorem dg_stop {n : Nat} {B : Nat → Nat} {N r q y p i : Nat} {D : List Int32} {σ : Sx} (hn : n ≤ 120) (hB : ∀ j, j < n → B j < 256) (hr : r < 5) (self : Nat → Int32 → Int32 → Sx → Option (Int32 × Sx)) {Nc : Nat} (hN : 0 < Nc) (h : SC n B p D σ) (hp : p ≤ n) (hd : dgS (sy n B p) = 1) : lpx1 (B_X4_chain_L39 N self (nI r) (nI q) (nI y)) Nc (nI i) σ = some (1, σ) := by
  obtain ⟨Nc, rfl⟩ : ∃ x, Nc = x + 1 := ⟨Nc - 1, by omega⟩
  rw [lpx1_s]
  unfold B_X4_chain_L39
  by_cases q1 : nI y ≤ nI i
  · rw [if_pos q1]
  · rw [if_neg q1, C_next hn h.1 h.2.1 hp, clx_s, C_rk (Vs_C hB p), clx_s, if_neg]
    rw [(dg_rk _ (sy_lt n B p) hd).1]
    exact fun z => ne_m1 (a := r) (by omega) z.symm
theorem J_loop {n : Nat} {B : Nat → Nat} {N q r : Nat} (hn : n ≤ 120) (hB : ∀ j, j < n → B j < 256) (hr : r < 5) {self : Nat → Int32 → Int32 → Sx → Option (Int32 × Sx)} {inner : Sx → Option (Unit × Sx)} {BM : (Sx → Option (Unit × Sx)) → Sx → Option (Unit × Sx)} (hi : ∀ p, p ≤ n → JJ n B q p (self 1 (nI (r + 1)) (nI q)) inner) (hM : lvM n B q r inner BM) : ∀ k p i Nc Nm E0 v0, n - p ≤ k → p ≤ n → i ≤ p → k < Nc → k < Nm → Ex E0 v0 → (∃ p' E v, p ≤ p' ∧ p' ≤ n ∧ E.length + p ≤ p' ∧ Ex (E0 ++ E) v ∧ okJ n B q p p' E (lpx1 (B_X4_chain_L39 N self (nI r) (nI q) (nI 120)) Nc (nI i)) (lpx0 BM Nm)) ∨ ∃ p', p ≤ p' ∧ p' ≤ n ∧ baJ n B q p p' (lpx1 (B_X4_chain_L39 N self (nI r) (nI q) (nI 120)) Nc (nI i)) (lpx0 BM Nm) := by
  obtain ⟨m1, m2, m3⟩ := hM
  intro k
  induction k with
  | zero =>
    intro p i Nc Nm E0 v0 hk hp hip hNc hNm h0
    have : p = n := by omega
    subst this
    obtain ⟨Nc, rfl⟩ : ∃ x, Nc = x + 1 := ⟨Nc - 1, by omega⟩
    obtain ⟨Nm, rfl⟩ : ∃ x, Nm = x + 1 := ⟨Nm - 1, by omega⟩
    have hs : sy p B p = 128 := by
      unfold sy
      rw [if_neg (by omega)]
    have hrk : ¬ rkS (sy p B p) = nI r := fun z => by
      have := rk_op (sy_lt p B p) hr z
      omega
    refine Or.inl ⟨p, [], v0, Nat.le_refl _, Nat.le_refl _, by simp, by rw [List.append_nil]; exact h0, fun D σ hD hl => ⟨σ, ?_, Kp.rf, by rw [List.map_nil, List.append_nil]; exact hD⟩, fun L σ hL hl => ⟨σ, ?_, Kp.rf, by rw [List.append_nil]; exact hL⟩⟩
    · rw [lpx1_s]
      unfold B_X4_chain_L39
      by_cases q1 : nI 120 ≤ nI i
      · rw [if_pos q1]
      · rw [if_neg q1, C_next hn hD.1 hD.2.1 (Nat.le_refl _), clx_s, C_rk (Vs_C hB p), clx_s, if_neg hrk]
    · rw [lpx0_s]
      exact m1 _ p L σ hL (Nat.le_refl _) hrk
  | succ k ih =>
    intro p i Nc Nm E0 v0 hk hp hip hNc hNm h0
    obtain ⟨Nc, rfl⟩ : ∃ x, Nc = x + 1 := ⟨Nc - 1, by omega⟩
    obtain ⟨Nm, rfl⟩ : ∃ x, Nm = x + 1 := ⟨Nm - 1, by omega⟩
    by_cases hrk : rkS (sy n B p) = nI r
    · obtain ⟨hop, h128⟩ := rk_op (sy_lt n B p) hr hrk
      have hpn : p < n := sy_in h128
      have hch : chC n B p = nI (sy n B p) := by
        rcases Vs_C hB p with ⟨-, h⟩ | ⟨h, -⟩
        · exact h
        · omega
      have eC : ∀ D σ, SC n B p D σ → lpx1 (B_X4_chain_L39 N self (nI r) (nI q) (nI 120)) (Nc + 1) (nI i) σ = clx (self 1 (nI (r + 1)) (nI q) (upI σ 2 2 (nI (p + 1)))) (fun v5 σ8 => (if v5 = 0 then some ((0 : Int32), σ8) else clx (F_X4_emit (nI (10000 + sy n B p)) σ8) (fun _ σ9 => lpx1 (B_X4_chain_L39 N self (nI r) (nI q) (nI 120)) Nc (nI (i + 1)) σ9))) := fun D σ hD => by
        rw [lpx1_s]
        rw [B_X4_chain_L39, ite_le (by decide) (by omega), if_neg (by omega), C_next hn hD.1 hD.2.1 hp, clx_s, C_rk (Vs_C hB p), clx_s, if_pos hrk, C_next hn hD.1 hD.2.1 hp, clx_s, hD.2.1, hch]
        simp only [nI_add1, pIx_s, show (10000 : Int32) = nI 10000 from rfl, nI_add]
      rcases hi (p + 1) (by omega) with ⟨p1, E1, v1, a1, a2, a3, a4, a5, a6⟩ | ⟨p1, a1, a2, a3, a4⟩
      · have hE : Ex (E0 ++ (E1 ++ [(sy n B p, 0)])) (fun e => opV (sy n B p) (v0 e) (v1 e)) := by
          rw [← List.append_assoc]
          exact Ex.op hop h0 a4
        have goC : ∀ D σ, SC n B p D σ → D.length ≤ p → ∃ σ9, lpx1 (B_X4_chain_L39 N self (nI r) (nI q) (nI 120)) (Nc + 1) (nI i) σ = lpx1 (B_X4_chain_L39 N self (nI r) (nI q) (nI 120)) Nc (nI (i + 1)) σ9 ∧ Kp rgPc σ σ9 ∧ SC n B p1 (D ++ (E1 ++ [(sy n B p, 0)]).map tC) σ9 ∧ (D ++ (E1 ++ [(sy n B p, 0)]).map tC).length ≤ p1 := fun D σ hD hl => by
          obtain ⟨c1, c2⟩ := C_at (p2 := p + 1) hD
          obtain ⟨σ8, d1, d2, d3⟩ := a5 D _ c1 (by omega)
          have hl8 : (D ++ E1.map tC).length < 121 := by
            rw [List.length_append, List.length_map]
            omega
          obtain ⟨σ9, g1, g2, g3⟩ := C_emit (nI (10000 + sy n B p)) d3 hl8
          refine ⟨σ9, ?_, (c2.tr d2).tr g2, ?_, ?_⟩
          · rw [eC D σ hD, d1, clx_s, if10, g1, clx_s]
          · rw [List.map_append, List.map_cons, List.map_nil, tC_op hop, ← List.append_assoc]
            exact g3
          · rw [List.length_append, List.length_map, List.length_append, List.length_singleton]
            omega
        have goM : ∀ L σ, SM n B p q L σ → L.length ≤ p → ∃ σ9, lpx0 BM (Nm + 1) σ = lpx0 BM Nm σ9 ∧ Kp rgPm σ σ9 ∧ SM n B p1 q (L ++ (E1 ++ [(sy n B p, 0)])) σ9 ∧ (L ++ (E1 ++ [(sy n B p, 0)])).length ≤ p1 := fun L σ hL hl => by
          obtain ⟨c1, c2⟩ := M_at (p2 := p + 1) hL
          obtain ⟨σ8, d1, d2, d3⟩ := a6 L _ c1 (by omega)
          have hl8 : (L ++ E1).length < 130 := by
            rw [List.length_append]
            omega
          obtain ⟨σ9, g1, g2, g3⟩ := M_add (x := 0) d3 h128 hl8
          refine ⟨σ9, ?_, (c2.tr d2).tr g2, ?_, ?_⟩
          · rw [lpx0_s, m2 _ p L σ hL hp hrk, d1, clx_s, g1, clx_s]
          · rw [← List.append_assoc]
            exact g3
          · rw [List.length_append, List.length_append, List.length_singleton]
            omega
        rcases ih p1 (i + 1) Nc Nm _ _ (by omega) a2 (by omega) (by omega) (by omega) hE with ⟨p2, E2, v2, b1, b2, b3, b4, b5, b6⟩ | ⟨p2, b1, b2, b3, b4⟩
        · refine Or.inl ⟨p2, (E1 ++ [(sy n B p, 0)]) ++ E2, v2, by omega, b2, ?_, by rw [← List.append_assoc]; exact b4, fun D σ hD hl => ?_, fun L σ hL hl => ?_⟩
          · rw [List.length_append, List.length_append, List.length_singleton]
            omega
          · obtain ⟨σ9, x1, x2, x3, x4⟩ := goC D σ hD hl
            obtain ⟨σ', y1, y2, y3⟩ := b5 _ σ9 x3 x4
            refine ⟨σ', x1.trans y1, x2.tr y2, ?_⟩
            rw [List.map_append, ← List.append_assoc]
            exact y3
          · obtain ⟨σ9, x1, x2, x3, x4⟩ := goM L σ hL hl
            obtain ⟨σ', y1, y2, y3⟩ := b6 _ σ9 x3 x4
            refine ⟨σ', x1.trans y1, x2.tr y2, ?_⟩
            rw [← List.append_assoc]
            exact y3
        · refine Or.inr ⟨p2, by omega, b2, fun D σ hD hl => ?_, fun L σ hL hl => ?_⟩
          · obtain ⟨σ9, x1, x2, x3, x4⟩ := goC D σ hD hl
            obtain ⟨σ', y2, y⟩ := b3 _ σ9 x3 x4
            refine ⟨σ', x2.tr y2, ?_⟩
            rw [x1]
            rcases y with ⟨y1, y3⟩ | ⟨z1, D', z2, z3, z4⟩
            · exact Or.inl ⟨y1, y3⟩
            · refine Or.inr ⟨z1, D', z2, z3, ?_⟩
              rw [List.length_append, List.length_map, List.length_append, List.length_singleton] at z4
              omega
          · obtain ⟨σ9, x1, x2, x3, x4⟩ := goM L σ hL hl
            obtain ⟨σ', kk, y1, y2, y3, y4⟩ := b4 _ σ9 x3 x4
            refine ⟨σ', kk, x1.trans y1, x2.tr y2, y3, ?_⟩
            rw [List.length_append, List.length_append, List.length_singleton] at y4
            omega
      · refine Or.inr ⟨p1, by omega, a2, fun D σ hD hl => ?_, fun L σ hL hl => ?_⟩
        · obtain ⟨c1, c2⟩ := C_at (p2 := p + 1) hD
          obtain ⟨σ8, d2, d⟩ := a3 D _ c1 (by omega)
          rcases d with ⟨d1, d3⟩ | ⟨z1, D', z2, z3, z4⟩
          · exact ⟨σ8, c2.tr d2, Or.inl ⟨by rw [eC D σ hD, d1, clx_s, if_pos rfl], d3⟩⟩
          · obtain ⟨σ9, g1, g2, g3⟩ := C_emit (nI (10000 + sy n B p)) z3 (by omega)
            refine ⟨σ9, (c2.tr d2).tr g2, Or.inr ⟨z1, _, ?_, g3, by rw [List.length_append, List.length_singleton]; omega⟩⟩
            rw [eC D σ hD, z2, clx_s, if10, g1, clx_s, dg_stop hn hB hr _ (by omega) g3 a2 z1]
        · obtain ⟨c1, c2⟩ := M_at (p2 := p + 1) hL
          obtain ⟨σ8, kk, d1, d2, d3, d4⟩ := a4 L _ c1 (by omega)
          obtain ⟨σ9, g1, g2, g3⟩ := M_addF (nI (sy n B p)) (nI 0) d3 (by omega)
          obtain ⟨Nm, rfl⟩ : ∃ x, Nm = x + 1 := ⟨Nm - 1, by omega⟩
          exact ⟨σ9, kk + 1, by rw [lpx0_s, m2 _ p L σ hL hp hrk, d1, clx_s, g1, clx_s, lpx0_s, m3 _ _ _ _ g3 a2], (c2.tr d2).tr g2, g3, by omega⟩
    · refine Or.inl ⟨p, [], v0, Nat.le_refl _, hp, by simp, by rw [List.append_nil]; exact h0, fun D σ hD hl => ⟨σ, ?_, Kp.rf, by rw [List.map_nil, List.append_nil]; exact hD⟩, fun L σ hL hl => ⟨σ, ?_, Kp.rf, by rw [List.append_nil]; exact hL⟩⟩
      · rw [lpx1_s]
        unfold B_X4_chain_L39
        by_cases q1 : nI 120 ≤ nI i
        · rw [if_pos q1]
        · rw [if_neg q1, C_next hn hD.1 hD.2.1 hp, clx_s, C_rk (Vs_C hB p), clx_s, if_neg hrk]
      · rw [lpx0_s]
        exact m1 _ p L σ hL hp hrk
