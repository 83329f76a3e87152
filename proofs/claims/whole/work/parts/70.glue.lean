theorem clx_s {α β : Type} (r : β) (σ : Sx) (K : β → Sx → Option α) : clx (some (r, σ)) K = K r σ := rfl
def OpI (Rel : Sx → Prop) (A : Option (Int32 × Sx)) (B : Sx → Option (Int32 × Sx)) : Prop := ∃ (r : Int32) (σ1 σ2 : Sx), A = some (r, σ1) ∧ B σ1 = some (r, σ2) ∧ Rel σ2
def OpL (Rel : Sx → Prop) (A : Option (Int64 × Sx)) (B : Sx → Option (Int64 × Sx)) : Prop := ∃ (r : Int64) (σ1 σ2 : Sx), A = some (r, σ1) ∧ B σ1 = some (r, σ2) ∧ Rel σ2
theorem op_goI {Rel : Sx → Prop} {A : Option (Int32 × Sx)} {B : Sx → Option (Int32 × Sx)} {J : Sx → Option (Int32 × Sx)} (h : OpI Rel A B) (hJ : ∀ σ2, Rel σ2 → ∃ σ', J σ2 = some (1, σ')) : ∃ σ', clx A (fun v σ3 => clx (B σ3) (fun v' σ4 => (if v = v' then J σ4 else some ((0 : Int32), σ4)))) = some (1, σ') := by
  obtain ⟨r, σ1, σ2, h1, h2, h3⟩ := h
  obtain ⟨σ', h4⟩ := hJ σ2 h3
  refine ⟨σ', ?_⟩
  rw [h1, clx_s, h2, clx_s, if_pos rfl, h4]
theorem lg_cmp_self (r : Int64) : lg_cmp r r = 0 := by
  unfold lg_cmp
  simp
theorem op_goL {Rel : Sx → Prop} {A : Option (Int64 × Sx)} {B : Sx → Option (Int64 × Sx)} {J : Sx → Option (Int32 × Sx)} (h : OpL Rel A B) (hJ : ∀ σ2, Rel σ2 → ∃ σ', J σ2 = some (1, σ')) : ∃ σ', clx A (fun v σ3 => clx (B σ3) (fun v' σ4 => (if lg_cmp v v' = 0 then J σ4 else some ((0 : Int32), σ4)))) = some (1, σ') := by
  obtain ⟨r, σ1, σ2, h1, h2, h3⟩ := h
  obtain ⟨σ', h4⟩ := hJ σ2 h3
  refine ⟨σ', ?_⟩
  rw [h1, clx_s, h2, clx_s, if_pos (lg_cmp_self r), h4]
theorem scx_at {α : Type} {xs : Nat → Int32} {L i k : Nat} {x : Int32} (K : Int32 → Option α) (hL : L < 2 ^ 31) (h : i + k < L) (hx : x = nI (i + k)) : scx xs L x K = K (xs (i + k)) := by
  subst hx
  unfold scx
  have h1 : 0 ≤ nI (i + k) := nI_pos' (by omega)
  have h2 : nI (i + k) < Int32.ofNat L := nI_lt h hL
  rw [if_pos ⟨h1, h2⟩, nI_clamp (by omega)]
set_option maxHeartbeats 8000000 in
set_option maxRecDepth 100000 in
theorem law_glue (Rel : Sx → Prop) (N : Nat) (hN : 600 ≤ N)
  (h_walker : ∀ (a0 : Int32) (a1 : Int32) (σ : Sx), Rel σ → OpI Rel (F_X9_walker N a0 a1 σ) (fun σ1 => F_X10_walker N a0 a1 σ1))
  (h_way : ∀ (a0 : Int32) (a1 : Int32) (a2 : Int32) (σ : Sx), Rel σ → OpI Rel (F_X9_way N a0 a1 a2 σ) (fun σ1 => F_X10_way N a0 a1 a2 σ1))
  (h_mend : ∀ (a0 : Int32) (a1 : Int32) (a2 : Int32) (σ : Sx), Rel σ → OpI Rel (F_X9_mend N a0 a1 a2 σ) (fun σ1 => F_X10_mend N a0 a1 a2 σ1))
  (h_of : ∀ (a0 : Int32) (a1 : Int32) (σ : Sx), Rel σ → OpI Rel (F_X9_of a0 a1 σ) (fun σ1 => F_X10_of a0 a1 σ1))
  (h_place : ∀ (a0 : Int32) (a1 : Int32) (σ : Sx), Rel σ → OpI Rel (F_X9_place a0 a1 σ) (fun σ1 => F_X10_place a0 a1 σ1))
  (h_feed : ∀ (a0 : Int32) (σ : Sx), Rel σ → OpI Rel (F_X9_feed a0 σ) (fun σ1 => F_X10_feed a0 σ1))
  (h_law : ∀ (σ : Sx), Rel σ → OpI Rel (F_X9_law N  σ) (fun σ1 => F_X10_law N  σ1))
  (h_holding : ∀ (a0 : Int32) (σ : Sx), Rel σ → OpI Rel (F_X9_holding N a0 σ) (fun σ1 => F_X10_holding N a0 σ1))
  (h_day : ∀ (a0 : Int32) (a1 : Int32) (σ : Sx), Rel σ → OpI Rel (F_X9_day N a0 a1 σ) (fun σ1 => F_X10_day N a0 a1 σ1))
  (h_where : ∀ (a0 : Int32) (a1 : Int32) (a2 : Int32) (σ : Sx), Rel σ → OpI Rel (F_X9_where N a0 a1 a2 σ) (fun σ1 => F_X10_where N a0 a1 a2 σ1))
  (h_sees : ∀ (a0 : Int32) (a1 : Int32) (a2 : Int32) (σ : Sx), Rel σ → OpI Rel (F_X9_sees N a0 a1 a2 σ) (fun σ1 => F_X10_sees N a0 a1 a2 σ1))
  (h_takes : ∀ (a0 : Int32) (a1 : Int32) (σ : Sx), Rel σ → OpI Rel (F_X9_takes N a0 a1 σ) (fun σ1 => F_X10_takes N a0 a1 σ1))
  (h_meet : ∀ (a0 : Int32) (a1 : Int32) (σ : Sx), Rel σ → OpI Rel (F_X9_meet N a0 a1 σ) (fun σ1 => F_X10_meet N a0 a1 σ1))
  (h_sure : ∀ (a0 : Int32) (a1 : Int32) (σ : Sx), Rel σ → OpI Rel (F_X9_sure N a0 a1 σ) (fun σ1 => F_X10_sure N a0 a1 σ1))
  (h_follow : ∀ (a0 : Int32) (a1 : Int32) (σ : Sx), Rel σ → OpI Rel (F_X9_follow N a0 a1 σ) (fun σ1 => F_X10_follow N a0 a1 σ1))
  (h_read : ∀ (a0 : Int32) (a1 : Int32) (σ : Sx), Rel σ → OpI Rel (F_X9_read N a0 a1 σ) (fun σ1 => F_X10_read N a0 a1 σ1))
  (h_look : ∀ (a0 : Int32) (σ : Sx), Rel σ → OpI Rel (F_X9_look N a0 σ) (fun σ1 => F_X10_look N a0 σ1))
  (h_cheapest : ∀ (a0 : Int32) (a1 : Int32) (a2 : Int32) (σ : Sx), Rel σ → OpI Rel (F_X9_cheapest N a0 a1 a2 σ) (fun σ1 => F_X10_cheapest N a0 a1 a2 σ1))
  (h_guard : ∀ (a0 : Int32) (a1 : Int32) (σ : Sx), Rel σ → OpI Rel (F_X9_guard N a0 a1 σ) (fun σ1 => F_X10_guard N a0 a1 σ1))
  (h_shoes : ∀ (a0 : Int32) (a1 : Int32) (σ : Sx), Rel σ → OpI Rel (F_X9_shoes N a0 a1 σ) (fun σ1 => F_X10_shoes N a0 a1 σ1))
  (h_feigned : ∀ (a0 : Int32) (a1 : Int32) (a2 : Int32) (σ : Sx), Rel σ → OpI Rel (F_X9_feigned N a0 a1 a2 σ) (fun σ1 => F_X10_feigned N a0 a1 a2 σ1))
  (h_flood : ∀ (a0 : Int32) (a1 : Int32) (a2 : Int32) (σ : Sx), Rel σ → OpI Rel (F_X9_flood N a0 a1 a2 σ) (fun σ1 => F_X10_flood N a0 a1 a2 σ1))
  (h_drawn : ∀ (a0 : Int32) (a1 : Int32) (a2 : Int32) (σ : Sx), Rel σ → OpI Rel (F_X9_drawn N a0 a1 a2 σ) (fun σ1 => F_X10_drawn N a0 a1 a2 σ1))
  (h_live : ∀ (a0 : Int32) (σ : Sx), Rel σ → OpI Rel (F_X9_live N a0 σ) (fun σ1 => F_X10_live N a0 σ1))
  (h_step : ∀ (a0 : Int32) (a1 : Int32) (σ : Sx), Rel σ → OpI Rel (F_X9_step N a0 a1 σ) (fun σ1 => F_X10_step N a0 a1 σ1))
  (h_led : ∀ (a0 : Int32) (σ : Sx), Rel σ → OpI Rel (F_X9_led a0 σ) (fun σ1 => F_X10_led a0 σ1))
  (h_image : ∀ (σ : Sx), Rel σ → OpI Rel (F_X9_image  σ) (fun σ1 => F_X10_image N  σ1))
  (h_back : ∀ (σ : Sx), Rel σ → OpI Rel (F_X9_back  σ) (fun σ1 => F_X10_back N  σ1))
  (h_undo : ∀ (σ : Sx), Rel σ → OpI Rel (F_X9_undo N  σ) (fun σ1 => F_X10_undo  σ1))
  (h_redo : ∀ (σ : Sx), Rel σ → OpI Rel (F_X9_redo N  σ) (fun σ1 => F_X10_redo  σ1))
  (h_body : ∀ (a0 : Int32) (σ : Sx), Rel σ → OpI Rel (F_X9_body a0 σ) (fun σ1 => F_X10_body a0 σ1))
  (h_act : ∀ (a0 : Int32) (a1 : Int32) (a2 : Int32) (σ : Sx), Rel σ → OpI Rel (F_X9_act N a0 a1 a2 σ) (fun σ1 => F_X10_act a0 a1 a2 σ1))
  (h_trace : ∀ (a0 : Int32) (σ : Sx), Rel σ → OpI Rel (F_X9_trace a0 σ) (fun σ1 => F_X10_trace a0 σ1))
  (h_keep : ∀ (a0 : Int32) (a1 : Int32) (σ : Sx), Rel σ → OpI Rel (F_X9_keep a0 a1 σ) (fun σ1 => F_X10_keep a0 a1 σ1))
  (h_row : ∀ (a0 : Int32) (a1 : Int32) (a2 : Int32) (σ : Sx), Rel σ → OpI Rel (F_X9_row N a0 a1 a2 σ) (fun σ1 => F_X10_row N a0 a1 a2 σ1))
  (h_put : ∀ (a0 : Int32) (a1 : Int32) (a2 : Int64) (σ : Sx), Rel σ → OpI Rel (F_X9_put a0 a1 a2 σ) (fun σ1 => F_X10_put a0 a1 a2 σ1))
  (h_element : ∀ (a0 : Int32) (a1 : Int32) (σ : Sx), Rel σ → OpL Rel (F_X9_element a0 a1 σ) (fun σ1 => F_X10_element a0 a1 σ1))
  (h_shift : ∀ (a0 : Int32) (a1 : Int32) (a2 : Int32) (a3 : Int32) (a4 : Int32) (σ : Sx), Rel σ → OpI Rel (F_X9_shift a0 a1 a2 a3 a4 σ) (fun σ1 => F_X10_shift N a0 a1 a2 a3 a4 σ1))
  (h_taken : ∀ (a0 : Int32) (a1 : Int32) (σ : Sx), Rel σ → OpI Rel (F_X9_taken N a0 a1 σ) (fun σ1 => F_X10_taken a0 a1 σ1))
  (h_count : ∀ (a0 : Int32) (σ : Sx), Rel σ → OpI Rel (F_X9_count N a0 σ) (fun σ1 => F_X10_count N a0 σ1))
  {L : Nat} {xs : Nat → Int32} (hL : L ≤ 3072) (σ0 : Sx) (h0 : Rel σ0) : ∃ σ : Sx, F_law N L xs σ0 = some (1, σ) := by
  have key : ∀ (d n i : Nat) (σ : Sx), L < i + 6 * d + 6 → d < n → i ≤ L + 6 → Rel σ → ∃ σ' : Sx, lpx1 (B_L_law_L18 N L xs) n (nI i) σ = some (1, σ') := by
    intro d
    induction d with
    | zero =>
      intro n i σ h1 h2 h3 hR
      obtain ⟨n, rfl⟩ : ∃ k, n = k + 1 := ⟨n - 1, by omega⟩
      refine ⟨σ, ?_⟩
      show B_L_law_L18 N L xs (lpx1 (B_L_law_L18 N L xs) n) (nI i) σ = _
      unfold B_L_law_L18
      rw [if_pos]
      by_cases h6 : 6 ≤ L
      · show nI L - nI 6 < nI i
        rw [pk_sub h6]
        exact nI_lt (by omega) (by omega)
      · show nI L - nI 6 < nI i
        have e := pk_sub_toInt (a := L) (b := 6) (by omega) (by omega)
        rw [Int32.lt_iff_toInt_lt, e, nI_toInt (by omega)]
        omega
    | succ d ih =>
      intro n i σ h1 h2 h3 hR
      obtain ⟨n, rfl⟩ : ∃ k, n = k + 1 := ⟨n - 1, by omega⟩
      show ∃ σ', B_L_law_L18 N L xs (lpx1 (B_L_law_L18 N L xs) n) (nI i) σ = some (1, σ')
      by_cases hi : i + 6 ≤ L
      · have hneg : ¬ ((Int32.ofNat L) - (6 : Int32)) < nI i := by
          show ¬ nI L - nI 6 < nI i
          rw [pk_sub (by omega)]
          exact nI_nlt (by omega) (by omega)
        have hJ : ∀ σ2, Rel σ2 → ∃ σ', (fun (σ2 : Sx) => lpx1 (B_L_law_L18 N L xs) n (nI i + (6 : Int32)) σ2) σ2 = some (1, σ') := fun σ2 h => by
          show ∃ σ', lpx1 (B_L_law_L18 N L xs) n (nI i + nI 6) σ2 = some (1, σ')
          rw [nI_add]
          exact ih n (i + 6) σ2 (by omega) (by omega) (by omega) h
        have s0 : ∀ {α : Type} (K : Int32 → Option α), scx xs L (nI i) K = K (xs (i + 0)) := fun K => scx_at (k := 0) K (by omega) (by omega) rfl
        have s1 : ∀ {α : Type} (K : Int32 → Option α), scx xs L (nI i + (1 : Int32)) K = K (xs (i + 1)) := fun K => scx_at (k := 1) K (by omega) (by omega) (nI_add i 1)
        have s2 : ∀ {α : Type} (K : Int32 → Option α), scx xs L (nI i + (2 : Int32)) K = K (xs (i + 2)) := fun K => scx_at (k := 2) K (by omega) (by omega) (nI_add i 2)
        have s3 : ∀ {α : Type} (K : Int32 → Option α), scx xs L (nI i + (3 : Int32)) K = K (xs (i + 3)) := fun K => scx_at (k := 3) K (by omega) (by omega) (nI_add i 3)
        have s4 : ∀ {α : Type} (K : Int32 → Option α), scx xs L (nI i + (4 : Int32)) K = K (xs (i + 4)) := fun K => scx_at (k := 4) K (by omega) (by omega) (nI_add i 4)
        have s5 : ∀ {α : Type} (K : Int32 → Option α), scx xs L (nI i + (5 : Int32)) K = K (xs (i + 5)) := fun K => scx_at (k := 5) K (by omega) (by omega) (nI_add i 5)
        unfold B_L_law_L18
        rw [if_neg hneg]
        simp only [s0, s1, s2, s3, s4, s5]
        show ∃ σ', nmx (fun (σ2 : Sx) => lpx1 (B_L_law_L18 N L xs) n (nI i + (6 : Int32)) σ2) _ = some (1, σ')
        generalize hj : (fun (σ2 : Sx) => lpx1 (B_L_law_L18 N L xs) n (nI i + (6 : Int32)) σ2) = j at hJ ⊢
        unfold nmx
        dsimp only
        generalize xs (i + 0) &&& 63 = v
        by_cases c0 : v = (0 : Int32)
        · rw [if_pos c0]
          exact op_goI (h_walker _ _ σ hR) hJ
        rw [if_neg c0]
        by_cases c1 : v = (1 : Int32)
        · rw [if_pos c1]
          exact op_goI (h_way _ _ _ σ hR) hJ
        rw [if_neg c1]
        by_cases c2 : v = (2 : Int32)
        · rw [if_pos c2]
          exact op_goI (h_mend _ _ _ σ hR) hJ
        rw [if_neg c2]
        by_cases c3 : v = (3 : Int32)
        · rw [if_pos c3]
          exact op_goI (h_of _ _ σ hR) hJ
        rw [if_neg c3]
        by_cases c4 : v = (4 : Int32)
        · rw [if_pos c4]
          exact op_goI (h_place _ _ σ hR) hJ
        rw [if_neg c4]
        by_cases c5 : v = (5 : Int32)
        · rw [if_pos c5]
          exact op_goI (h_feed _ σ hR) hJ
        rw [if_neg c5]
        by_cases c6 : v = (6 : Int32)
        · rw [if_pos c6]
          exact op_goI (h_law σ hR) hJ
        rw [if_neg c6]
        by_cases c7 : v = (7 : Int32)
        · rw [if_pos c7]
          exact op_goI (h_holding _ σ hR) hJ
        rw [if_neg c7]
        by_cases c8 : v = (8 : Int32)
        · rw [if_pos c8]
          exact op_goI (h_day _ _ σ hR) hJ
        rw [if_neg c8]
        by_cases c9 : v = (9 : Int32)
        · rw [if_pos c9]
          exact op_goI (h_where _ _ _ σ hR) hJ
        rw [if_neg c9]
        by_cases c10 : v = (10 : Int32)
        · rw [if_pos c10]
          exact op_goI (h_sees _ _ _ σ hR) hJ
        rw [if_neg c10]
        by_cases c11 : v = (11 : Int32)
        · rw [if_pos c11]
          exact op_goI (h_takes _ _ σ hR) hJ
        rw [if_neg c11]
        by_cases c12 : v = (12 : Int32)
        · rw [if_pos c12]
          exact op_goI (h_meet _ _ σ hR) hJ
        rw [if_neg c12]
        by_cases c13 : v = (13 : Int32)
        · rw [if_pos c13]
          exact op_goI (h_sure _ _ σ hR) hJ
        rw [if_neg c13]
        by_cases c14 : v = (14 : Int32)
        · rw [if_pos c14]
          exact op_goI (h_follow _ _ σ hR) hJ
        rw [if_neg c14]
        by_cases c15 : v = (15 : Int32)
        · rw [if_pos c15]
          exact op_goI (h_read _ _ σ hR) hJ
        rw [if_neg c15]
        by_cases c16 : v = (16 : Int32)
        · rw [if_pos c16]
          exact op_goI (h_look _ σ hR) hJ
        rw [if_neg c16]
        by_cases c17 : v = (17 : Int32)
        · rw [if_pos c17]
          exact op_goI (h_cheapest _ _ _ σ hR) hJ
        rw [if_neg c17]
        by_cases c18 : v = (18 : Int32)
        · rw [if_pos c18]
          exact op_goI (h_guard _ _ σ hR) hJ
        rw [if_neg c18]
        by_cases c19 : v = (19 : Int32)
        · rw [if_pos c19]
          exact op_goI (h_shoes _ _ σ hR) hJ
        rw [if_neg c19]
        by_cases c20 : v = (20 : Int32)
        · rw [if_pos c20]
          exact op_goI (h_feigned _ _ _ σ hR) hJ
        rw [if_neg c20]
        by_cases c21 : v = (21 : Int32)
        · rw [if_pos c21]
          exact op_goI (h_flood _ _ _ σ hR) hJ
        rw [if_neg c21]
        by_cases c22 : v = (22 : Int32)
        · rw [if_pos c22]
          exact op_goI (h_drawn _ _ _ σ hR) hJ
        rw [if_neg c22]
        by_cases c23 : v = (23 : Int32)
        · rw [if_pos c23]
          exact op_goI (h_live _ σ hR) hJ
        rw [if_neg c23]
        by_cases c24 : v = (24 : Int32)
        · rw [if_pos c24]
          exact op_goI (h_step _ _ σ hR) hJ
        rw [if_neg c24]
        by_cases c25 : v = (25 : Int32)
        · rw [if_pos c25]
          exact op_goI (h_led _ σ hR) hJ
        rw [if_neg c25]
        by_cases c26 : v = (26 : Int32)
        · rw [if_pos c26]
          exact op_goI (h_image σ hR) hJ
        rw [if_neg c26]
        by_cases c27 : v = (27 : Int32)
        · rw [if_pos c27]
          exact op_goI (h_back σ hR) hJ
        rw [if_neg c27]
        by_cases c28 : v = (28 : Int32)
        · rw [if_pos c28]
          exact op_goI (h_undo σ hR) hJ
        rw [if_neg c28]
        by_cases c29 : v = (29 : Int32)
        · rw [if_pos c29]
          exact op_goI (h_redo σ hR) hJ
        rw [if_neg c29]
        by_cases c30 : v = (30 : Int32)
        · rw [if_pos c30]
          exact op_goI (h_body _ σ hR) hJ
        rw [if_neg c30]
        by_cases c31 : v = (31 : Int32)
        · rw [if_pos c31]
          exact op_goI (h_act _ _ _ σ hR) hJ
        rw [if_neg c31]
        by_cases c32 : v = (32 : Int32)
        · rw [if_pos c32]
          exact op_goI (h_trace _ σ hR) hJ
        rw [if_neg c32]
        by_cases c33 : v = (33 : Int32)
        · rw [if_pos c33]
          exact op_goI (h_keep _ _ σ hR) hJ
        rw [if_neg c33]
        by_cases c34 : v = (34 : Int32)
        · rw [if_pos c34]
          exact op_goI (h_row _ _ _ σ hR) hJ
        rw [if_neg c34]
        by_cases c35 : v = (35 : Int32)
        · rw [if_pos c35]
          exact op_goI (h_put _ _ _ σ hR) hJ
        rw [if_neg c35]
        by_cases c36 : v = (36 : Int32)
        · rw [if_pos c36]
          exact op_goL (h_element _ _ σ hR) hJ
        rw [if_neg c36]
        by_cases c37 : v = (37 : Int32)
        · rw [if_pos c37]
          exact op_goI (h_shift _ _ _ _ _ σ hR) hJ
        rw [if_neg c37]
        by_cases c38 : v = (38 : Int32)
        · rw [if_pos c38]
          exact op_goI (h_taken _ _ σ hR) hJ
        rw [if_neg c38]
        by_cases c39 : v = (39 : Int32)
        · rw [if_pos c39]
          exact op_goI (h_count _ σ hR) hJ
        rw [if_neg c39]
        exact hJ σ hR
      · refine ⟨σ, ?_⟩
        unfold B_L_law_L18
        rw [if_pos]
        by_cases h6 : 6 ≤ L
        · show nI L - nI 6 < nI i
          rw [pk_sub h6]
          exact nI_lt (by omega) (by omega)
        · show nI L - nI 6 < nI i
          have e := pk_sub_toInt (a := L) (b := 6) (by omega) (by omega)
          rw [Int32.lt_iff_toInt_lt, e, nI_toInt (by omega)]
          omega
  exact key 513 N 0 σ0 (by omega) (by omega) (by omega) h0
