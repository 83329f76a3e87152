def F_X0_add (a0 : Int32) (σ0 : Sx) : Option (Int32 × Sx) := (if (siI σ0 8 0) < (50 : Int32) then sIx 101 50 (siI σ0 8 0) a0 σ0 (fun σ1 => pIx 8 0 ((siI σ1 8 0) + (1 : Int32)) σ1 (fun σ2 => some (((siI σ2 8 0) - (1 : Int32)), σ2))) else some ((-1 : Int32), σ0))
set_option maxRecDepth 100000 in
set_option maxHeartbeats 4000000 in
theorem mc_X0_add {D : va_G} {al : Nat → Nat} {cA : Nat → ClassId} {ba : Nat} (a0 : Int32) : MCx D al cA ba yX0_add cX0_add 2 (some .int) 0 0 rvI [.ref (al 8), .int a0] (F_X0_add a0) := by
  refine MCx_of (by decide +kernel) (Nat.le_of_ble_eq_true rfl) ?_
  intro p l e s m args below meth c σ0 g hrt
  unfold F_X0_add
  refine x_lv (lv' := [(0, .ref (al 8)), (1, .int a0)]) [0, 1] rfl ?_
  refine x_aload_n (pc := 0) g rfl 0 rfl dX0_add_0 ?_
  refine x_getI (pc := 1) g sh_8 fl_X0_18 rfl dX0_add_1 ?_
  refine x_bipush (pc := 4) (v := (50 : Int32)) g (by decide) dX0_add_4 ?_
  refine x_icmp_lt (pc := 6) (tgt := 11) g (by decide) dX0_add_6 ?_ ?_
  · refine x_aload_n (pc := 11) g rfl 0 rfl dX0_add_11 ?_
    refine x_getR (pc := 12) g sh_8 fl_X0_11 rfl dX0_add_12 ?_
    refine x_aload_n (pc := 15) g rfl 0 rfl dX0_add_15 ?_
    refine x_getI (pc := 16) g sh_8 fl_X0_18 rfl dX0_add_16 ?_
    refine x_iload_n (pc := 19) g rfl 1 rfl dX0_add_19 ?_
    refine x_iast (pc := 20) g sh_101 (by decide) dX0_add_20 (fun σ1 => ?_)
    refine x_aload_n (pc := 21) g rfl 0 rfl dX0_add_21 ?_
    refine x_dup (pc := 22) g rfl dX0_add_22 ?_
    refine x_getI (pc := 23) g sh_8 fl_X0_18 rfl dX0_add_23 ?_
    refine x_iconst (pc := 26) (v := (1 : Int32)) g (by decide) dX0_add_26 ?_
    refine x_iadd (pc := 27) g dX0_add_27 ?_
    refine x_putI (pc := 28) g sh_8 fl_X0_18 rfl dX0_add_28 (fun σ2 => ?_)
    refine x_aload_n (pc := 31) g rfl 0 rfl dX0_add_31 ?_
    refine x_getI (pc := 32) g sh_8 fl_X0_18 rfl dX0_add_32 ?_
    refine x_iconst (pc := 35) (v := (1 : Int32)) g (by decide) dX0_add_35 ?_
    refine x_isub (pc := 36) g dX0_add_36 ?_
    exact x_ireturn (pc := 37) g hrt dX0_add_37
  · refine x_iconst (pc := 9) (v := (-1 : Int32)) g (by decide) dX0_add_9 ?_
    exact x_ireturn (pc := 10) g hrt dX0_add_10
def F_X0_isThere (a0 : Int32) (σ0 : Sx) : Option (Int32 × Sx) := (if a0 < 0 then some ((0 : Int32), σ0) else (if (siI σ0 8 0) ≤ a0 then some ((0 : Int32), σ0) else some ((1 : Int32), σ0)))
set_option maxRecDepth 100000 in
set_option maxHeartbeats 4000000 in
theorem mc_X0_isThere {D : va_G} {al : Nat → Nat} {cA : Nat → ClassId} {ba : Nat} (a0 : Int32) : MCx D al cA ba yX0_isThere cX0_isThere 2 (some .boolean) 0 0 rvI [.ref (al 8), .int a0] (F_X0_isThere a0) := by
  refine MCx_of (by decide +kernel) (Nat.le_of_ble_eq_true rfl) ?_
  intro p l e s m args below meth c σ0 g hrt
  unfold F_X0_isThere
  refine x_lv (lv' := [(0, .ref (al 8)), (1, .int a0)]) [0, 1] rfl ?_
  refine x_iload_n (pc := 0) g rfl 1 rfl dX0_isThere_0 ?_
  refine x_if_lt (pc := 1) (tgt := 16) g (by decide) dX0_isThere_1 ?_ ?_
  · refine x_iconst (pc := 16) (v := (0 : Int32)) g (by decide) dX0_isThere_16 ?_
    exact x_zreturn (pc := 17) g hrt (by decide) dX0_isThere_17
  · refine x_iload_n (pc := 4) g rfl 1 rfl dX0_isThere_4 ?_
    refine x_aload_n (pc := 5) g rfl 0 rfl dX0_isThere_5 ?_
    refine x_getI (pc := 6) g sh_8 fl_X0_18 rfl dX0_isThere_6 ?_
    refine x_icmp_ge (pc := 9) (tgt := 16) g (by decide) dX0_isThere_9 ?_ ?_
    · refine x_iconst (pc := 16) (v := (0 : Int32)) g (by decide) dX0_isThere_16 ?_
      exact x_zreturn (pc := 17) g hrt (by decide) dX0_isThere_17
    · refine x_iconst (pc := 12) (v := (1 : Int32)) g (by decide) dX0_isThere_12 ?_
      refine x_goto (pc := 13) (tgt := 17) g (by decide) dX0_isThere_13 ?_
      exact x_zreturn (pc := 17) g hrt (by decide) dX0_isThere_17
def F_X0_kindOf (a0 : Int32) (σ0 : Sx) : Option (Int32 × Sx) := aIx 101 50 a0 σ0 (fun v1 => some (v1, σ0))
set_option maxRecDepth 100000 in
set_option maxHeartbeats 4000000 in
theorem mc_X0_kindOf {D : va_G} {al : Nat → Nat} {cA : Nat → ClassId} {ba : Nat} (a0 : Int32) : MCx D al cA ba yX0_kindOf cX0_kindOf 2 (some .int) 0 0 rvI [.ref (al 8), .int a0] (F_X0_kindOf a0) := by
  refine MCx_of (by decide +kernel) (Nat.le_of_ble_eq_true rfl) ?_
  intro p l e s m args below meth c σ0 g hrt
  unfold F_X0_kindOf
  refine x_lv (lv' := [(0, .ref (al 8)), (1, .int a0)]) [0, 1] rfl ?_
  refine x_aload_n (pc := 0) g rfl 0 rfl dX0_kindOf_0 ?_
  refine x_getR (pc := 1) g sh_8 fl_X0_11 rfl dX0_kindOf_1 ?_
  refine x_iload_n (pc := 4) g rfl 1 rfl dX0_kindOf_4 ?_
  refine x_iald (pc := 5) g sh_101 (by decide) dX0_kindOf_5 (fun v1 => ?_)
  exact x_ireturn (pc := 6) g hrt dX0_kindOf_6
def F_X0_above (a0 : Int32) (σ0 : Sx) : Option (Int32 × Sx) := (if a0 < 0 then some ((-1 : Int32), σ0) else (if (8 : Int32) ≤ a0 then some ((-1 : Int32), σ0) else aSx [-1, 0, 0, 2, 1, 3, 0, 6] a0 (fun v1 => some (v1, σ0))))
set_option maxRecDepth 100000 in
set_option maxHeartbeats 4000000 in
theorem mc_X0_above {D : va_G} {al : Nat → Nat} {cA : Nat → ClassId} {ba : Nat} (a0 : Int32) : MCx D al cA ba yX0_above cX0_above 1 (some .int) 0 0 rvI [.int a0] (F_X0_above a0) := by
  refine MCx_of (by decide +kernel) (Nat.le_of_ble_eq_true rfl) ?_
  intro p l e s m args below meth c σ0 g hrt
  unfold F_X0_above
  refine x_lv (lv' := [(0, .int a0)]) [0] rfl ?_
  refine x_iload_n (pc := 0) g rfl 0 rfl dX0_above_0 ?_
  refine x_if_lt (pc := 1) (tgt := 18) g (by decide) dX0_above_1 ?_ ?_
  · refine x_iconst (pc := 18) (v := (-1 : Int32)) g (by decide) dX0_above_18 ?_
    exact x_ireturn (pc := 19) g hrt dX0_above_19
  · refine x_iload_n (pc := 4) g rfl 0 rfl dX0_above_4 ?_
    refine x_bipush (pc := 5) (v := (8 : Int32)) g (by decide) dX0_above_5 ?_
    refine x_icmp_ge (pc := 7) (tgt := 18) g (by decide) dX0_above_7 ?_ ?_
    · refine x_iconst (pc := 18) (v := (-1 : Int32)) g (by decide) dX0_above_18 ?_
      exact x_ireturn (pc := 19) g hrt dX0_above_19
    · refine x_gets (pc := 10) (k := 2) g rfl gs_X0_26 dX0_above_10 (fun t1 ht1 => ?_)
      refine x_iload_n (pc := 13) g rfl 0 rfl dX0_above_13 ?_
      refine x_tald (pc := 14) (L := [-1, 0, 0, 2, 1, 3, 0, 6]) g ht1 (by decide) dX0_above_14 (fun v1 => ?_)
      refine x_goto (pc := 15) (tgt := 19) g (by decide) dX0_above_15 ?_
      exact x_ireturn (pc := 19) g hrt dX0_above_19
def B_X0_isUnder_L4 (N : Nat) (a1 : Int32) (j26 : Int32 → Sx → Option (Int32 × Sx)) (r4 : Int32 → Int32 → Sx → Option (Int32 × Sx)) (x2 : Int32) (x3 : Int32) (σ2 : Sx) : Option (Int32 × Sx) := (if (8 : Int32) ≤ x3 then j26 x2 σ2 else (if x2 = a1 then j26 x2 σ2 else clx (F_X0_above x2 σ2) (fun v1 σ3 => r4 v1 (x3 + (1 : Int32)) σ3)))
def F_X0_isUnder (N : Nat) (a0 : Int32) (a1 : Int32) (σ0 : Sx) : Option (Int32 × Sx) := nmx (fun (x1 : Int32) (σ1 : Sx) => (if x1 = a1 then some ((1 : Int32), σ1) else some ((0 : Int32), σ1))) (fun (j26 : Int32 → Sx → Option (Int32 × Sx)) => lpx2 (B_X0_isUnder_L4 N a1 j26) N a0 (0 : Int32) σ0)
set_option maxRecDepth 100000 in
set_option maxHeartbeats 4000000 in
theorem mc_X0_isUnder {D : va_G} {al : Nat → Nat} {cA : Nat → ClassId} {ba : Nat} (N : Nat) (a0 : Int32) (a1 : Int32) : MCx D al cA ba yX0_isUnder cX0_isUnder 4 (some .boolean) 1 20 rvI [.int a0, .int a1] (F_X0_isUnder N a0 a1) := by
  refine MCx_of (by decide +kernel) (Nat.le_of_ble_eq_true rfl) ?_
  intro p l e s m args below meth c σ0 g hrt
  unfold F_X0_isUnder
  refine x_lv (lv' := [(0, .int a0), (1, .int a1)]) [0, 1] rfl ?_
  refine x_iload_n (pc := 0) g rfl 0 rfl dX0_isUnder_0 ?_
  refine x_istore_n (pc := 1) (lv' := [(2, .int a0), (0, .int a0), (1, .int a1)]) g rfl (by decide) rfl dX0_isUnder_1 ?_
  refine x_iconst (pc := 2) (v := (0 : Int32)) g (by decide) dX0_isUnder_2 ?_
  refine x_istore_n (pc := 3) (lv' := [(3, .int (0 : Int32)), (2, .int a0), (0, .int a0), (1, .int a1)]) g rfl (by decide) rfl dX0_isUnder_3 ?_
  refine x_jn (fun (j26 : Int32 → Sx → Option (Int32 × Sx)) => ∀ (x1 : Int32) (σ1 : Sx), XTx p l e { frames := 1, cells := 0, slots := 0, locals := 20 } s m args below meth c D al cA ba 4 rvI 26 [(1, .int a1), (2, .int x1)] [] σ1 (j26 x1 σ1)) (fun x1 σ1 => ?_) (fun j26 hj26 => ?_)
  · refine x_iload_n (pc := 26) g rfl 1 rfl dX0_isUnder_26 ?_
    refine x_iload_n (pc := 27) g rfl 0 rfl dX0_isUnder_27 ?_
    refine x_icmp_ne (pc := 28) (tgt := 35) g (by decide) dX0_isUnder_28 ?_ ?_
    · refine x_iconst (pc := 35) (v := (0 : Int32)) g (by decide) dX0_isUnder_35 ?_
      exact x_zreturn (pc := 36) g hrt (by decide) dX0_isUnder_36
    · refine x_iconst (pc := 31) (v := (1 : Int32)) g (by decide) dX0_isUnder_31 ?_
      refine x_goto (pc := 32) (tgt := 36) g (by decide) dX0_isUnder_32 ?_
      exact x_zreturn (pc := 36) g hrt (by decide) dX0_isUnder_36
  · refine x_lv [3, 1, 0] rfl ?_
    refine lpx2_ind (fun (x2 : Int32) (x3 : Int32) (σ2 : Sx) (K : Option (Int32 × Sx)) => XTx p l e { frames := 1, cells := 0, slots := 0, locals := 20 } s m args below meth c D al cA ba 4 rvI 4 [(1, .int a1), (2, .int x2), (3, .int x3)] [] σ2 (K)) (fun _ _ _ => x_no) (fun r4 hr4 x2 x3 σ2 => ?_) N a0 (0 : Int32) σ0
    show XTx p l e { frames := 1, cells := 0, slots := 0, locals := 20 } s m args below meth c D al cA ba 4 rvI 4 [(1, .int a1), (2, .int x2), (3, .int x3)] [] σ2 (B_X0_isUnder_L4 N a1 j26 r4 x2 x3 σ2)
    unfold B_X0_isUnder_L4
    refine x_iload_n (pc := 4) g rfl 2 rfl dX0_isUnder_4 ?_
    refine x_bipush (pc := 5) (v := (8 : Int32)) g (by decide) dX0_isUnder_5 ?_
    refine x_icmp_ge (pc := 7) (tgt := 26) g (by decide) dX0_isUnder_7 ?_ ?_
    · refine x_lv [0, 1] rfl ?_
      exact hj26 x2 σ2
    · refine x_iload_n (pc := 10) g rfl 1 rfl dX0_isUnder_10 ?_
      refine x_iload_n (pc := 11) g rfl 0 rfl dX0_isUnder_11 ?_
      refine x_icmp_eq (pc := 12) (tgt := 26) g (by decide) dX0_isUnder_12 ?_ ?_
      · refine x_lv [0, 1] rfl ?_
        exact hj26 x2 σ2
      · refine x_iload_n (pc := 15) g rfl 1 rfl dX0_isUnder_15 ?_
        refine x_callSI (pc := 16) (As := [.int x2]) g (mc_X0_above x2) cw_X0_above lk_X0_22 rfl ⟨Nat.le_of_ble_eq_true rfl, Nat.le_of_ble_eq_true rfl⟩ rfl (Nat.le_of_ble_eq_true rfl) dX0_isUnder_16 (fun v1 σ3 => ?_)
        refine x_istore_n (pc := 19) (lv' := [(2, .int v1), (1, .int a1), (3, .int x3)]) g rfl (by decide) rfl dX0_isUnder_19 ?_
        refine x_iinc (pc := 20) (v := (x3 + (1 : Int32))) (lv' := [(3, .int (x3 + (1 : Int32))), (2, .int v1), (1, .int a1)]) g 2 rfl (by rfl) (by decide) rfl dX0_isUnder_20 ?_
        refine x_goto (pc := 23) (tgt := 4) g (by decide) dX0_isUnder_23 ?_
        refine x_lv [2, 1, 0] rfl ?_
        exact hr4 v1 (x3 + (1 : Int32)) σ3
def F_X0_ranAt (a0 : Int32) (σ0 : Sx) : Option (Int32 × Sx) := (if a0 < 0 then some ((-1 : Int32), σ0) else (if (siI σ0 8 2) ≤ a0 then some ((-1 : Int32), σ0) else (if (24 : Int32) ≤ a0 then some ((-1 : Int32), σ0) else aIx 102 24 a0 σ0 (fun v1 => some (v1, σ0)))))
set_option maxRecDepth 100000 in
set_option maxHeartbeats 4000000 in
theorem mc_X0_ranAt {D : va_G} {al : Nat → Nat} {cA : Nat → ClassId} {ba : Nat} (a0 : Int32) : MCx D al cA ba yX0_ranAt cX0_ranAt 2 (some .int) 0 0 rvI [.ref (al 8), .int a0] (F_X0_ranAt a0) := by
  refine MCx_of (by decide +kernel) (Nat.le_of_ble_eq_true rfl) ?_
  intro p l e s m args below meth c σ0 g hrt
  unfold F_X0_ranAt
  refine x_lv (lv' := [(0, .ref (al 8)), (1, .int a0)]) [0, 1] rfl ?_
  refine x_iload_n (pc := 0) g rfl 1 rfl dX0_ranAt_0 ?_
  refine x_if_lt (pc := 1) (tgt := 27) g (by decide) dX0_ranAt_1 ?_ ?_
  · refine x_iconst (pc := 27) (v := (-1 : Int32)) g (by decide) dX0_ranAt_27 ?_
    exact x_ireturn (pc := 28) g hrt dX0_ranAt_28
  · refine x_iload_n (pc := 4) g rfl 1 rfl dX0_ranAt_4 ?_
    refine x_aload_n (pc := 5) g rfl 0 rfl dX0_ranAt_5 ?_
    refine x_getI (pc := 6) g sh_8 fl_X0_29 rfl dX0_ranAt_6 ?_
    refine x_icmp_ge (pc := 9) (tgt := 27) g (by decide) dX0_ranAt_9 ?_ ?_
    · refine x_iconst (pc := 27) (v := (-1 : Int32)) g (by decide) dX0_ranAt_27 ?_
      exact x_ireturn (pc := 28) g hrt dX0_ranAt_28
    · refine x_iload_n (pc := 12) g rfl 1 rfl dX0_ranAt_12 ?_
      refine x_bipush (pc := 13) (v := (24 : Int32)) g (by decide) dX0_ranAt_13 ?_
      refine x_icmp_ge (pc := 15) (tgt := 27) g (by decide) dX0_ranAt_15 ?_ ?_
      · refine x_iconst (pc := 27) (v := (-1 : Int32)) g (by decide) dX0_ranAt_27 ?_
        exact x_ireturn (pc := 28) g hrt dX0_ranAt_28
      · refine x_aload_n (pc := 18) g rfl 0 rfl dX0_ranAt_18 ?_
        refine x_getR (pc := 19) g sh_8 fl_X0_15 rfl dX0_ranAt_19 ?_
        refine x_iload_n (pc := 22) g rfl 1 rfl dX0_ranAt_22 ?_
        refine x_iald (pc := 23) g sh_102 (by decide) dX0_ranAt_23 (fun v1 => ?_)
        refine x_goto (pc := 24) (tgt := 28) g (by decide) dX0_ranAt_24 ?_
        exact x_ireturn (pc := 28) g hrt dX0_ranAt_28
def F_X0_begin (a0 : Int32) (σ0 : Sx) : Option (Unit × Sx) := nmx (fun (σ1 : Sx) => pIx 8 2 ((siI σ1 8 2) + (1 : Int32)) σ1 (fun σ2 => some ((), σ2))) (fun (j19 : Sx → Option (Unit × Sx)) => (if (24 : Int32) ≤ (siI σ0 8 2) then j19 σ0 else sIx 102 24 (siI σ0 8 2) a0 σ0 (fun σ3 => j19 σ3)))
set_option maxRecDepth 100000 in
set_option maxHeartbeats 4000000 in
theorem mc_X0_begin {D : va_G} {al : Nat → Nat} {cA : Nat → ClassId} {ba : Nat} (a0 : Int32) : MCx D al cA ba yX0_begin cX0_begin 2 none 0 0 rvU [.ref (al 8), .int a0] (F_X0_begin a0) := by
  refine MCx_of (by decide +kernel) (Nat.le_of_ble_eq_true rfl) ?_
  intro p l e s m args below meth c σ0 g hrt
  unfold F_X0_begin
  refine x_lv (lv' := [(0, .ref (al 8)), (1, .int a0)]) [0, 1] rfl ?_
  refine x_aload_n (pc := 0) g rfl 0 rfl dX0_begin_0 ?_
  refine x_getI (pc := 1) g sh_8 fl_X0_29 rfl dX0_begin_1 ?_
  refine x_bipush (pc := 4) (v := (24 : Int32)) g (by decide) dX0_begin_4 ?_
  refine x_jn (fun (j19 : Sx → Option (Unit × Sx)) => ∀ (σ1 : Sx), XTx p l e { frames := 0, cells := 0, slots := 0, locals := 0 } s m args below meth c D al cA ba 2 rvU 19 [(0, .ref (al 8))] [] σ1 (j19 σ1)) (fun σ1 => ?_) (fun j19 hj19 => ?_)
  · refine x_aload_n (pc := 19) g rfl 0 rfl dX0_begin_19 ?_
    refine x_dup (pc := 20) g rfl dX0_begin_20 ?_
    refine x_getI (pc := 21) g sh_8 fl_X0_29 rfl dX0_begin_21 ?_
    refine x_iconst (pc := 24) (v := (1 : Int32)) g (by decide) dX0_begin_24 ?_
    refine x_iadd (pc := 25) g dX0_begin_25 ?_
    refine x_putI (pc := 26) g sh_8 fl_X0_29 rfl dX0_begin_26 (fun σ2 => ?_)
    exact x_return (pc := 29) g hrt dX0_begin_29
  · refine x_icmp_ge (pc := 6) (tgt := 19) g (by decide) dX0_begin_6 ?_ ?_
    · refine x_lv [0] rfl ?_
      exact hj19 σ0
    · refine x_aload_n (pc := 9) g rfl 0 rfl dX0_begin_9 ?_
      refine x_getR (pc := 10) g sh_8 fl_X0_15 rfl dX0_begin_10 ?_
      refine x_aload_n (pc := 13) g rfl 0 rfl dX0_begin_13 ?_
      refine x_getI (pc := 14) g sh_8 fl_X0_29 rfl dX0_begin_14 ?_
      refine x_iload_n (pc := 17) g rfl 1 rfl dX0_begin_17 ?_
      refine x_iast (pc := 18) g sh_102 (by decide) dX0_begin_18 (fun σ3 => ?_)
      refine x_lv [0] rfl ?_
      exact hj19 σ3
