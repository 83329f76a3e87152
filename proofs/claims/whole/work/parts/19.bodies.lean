def F_X0_add (a0 : Int32) (σ0 : Sx) : Option (Int32 × Sx) := (if (siI σ0 8 0) < (50 : Int32) then sIx 101 50 (siI σ0 8 0) a0 σ0 (fun σ1 => pIx 8 0 ((siI σ1 8 0) + (1 : Int32)) σ1 (fun σ2 => some (((siI σ2 8 0) - (1 : Int32)), σ2))) else some ((-1 : Int32), σ0))
set_option maxRecDepth 100000 in
set_option maxHeartbeats 4000000 in
theorem mc_X0_add {D : va_G} {al : Nat → Nat} {cA : Nat → ClassId} {ba : Nat} (a0 : Int32) : MCx D al cA ba yX0_add cX0_add 2 (some .int) 0 0 rvI [.ref (al 8), .int a0] (F_X0_add a0) := by
  refine MCx_of (by decide +kernel) (Nat.le_of_ble_eq_true rfl) ?_
  intro p l e s m args below meth c σ0 g hrt
  unfold F_X0_add
  refine x_lv (lv' := [(0, .ref (al 8)), (1, .int a0)]) [0, 1] rfl ?_
  refine x_aload_n (pc := 0) g rfl 0 rfl dX0_add_0 ?_
  refine x_getI (pc := 1) g sh_8 fl_X0_18 rfl dX0_add_1 ?_
  refine x_bipush (pc := 4) (v := (50 : Int32)) g (by decide) dX0_add_4 ?_
  refine x_icmp_lt (pc := 6) (tgt := 11) g (by decide) dX0_add_6 ?_ ?_
  · refine x_aload_n (pc := 11) g rfl 0 rfl dX0_add_11 ?_
    refine x_getR (pc := 12) g sh_8 fl_X0_11 rfl dX0_add_12 ?_
    refine x_aload_n (pc := 15) g rfl 0 rfl dX0_add_15 ?_
    refine x_getI (pc := 16) g sh_8 fl_X0_18 rfl dX0_add_16 ?_
    refine x_iload_n (pc := 19) g rfl 1 rfl dX0_add_19 ?_
    refine x_iast (pc := 20) g sh_101 (by decide) dX0_add_20 (fun σ1 => ?_)
    refine x_aload_n (pc := 21) g rfl 0 rfl dX0_add_21 ?_
    refine x_dup (pc := 22) g rfl dX0_add_22 ?_
    refine x_getI (pc := 23) g sh_8 fl_X0_18 rfl dX0_add_23 ?_
    refine x_iconst (pc := 26) (v := (1 : Int32)) g (by decide) dX0_add_26 ?_
    refine x_iadd (pc := 27) g dX0_add_27 ?_
    refine x_putI (pc := 28) g sh_8 fl_X0_18 rfl dX0_add_28 (fun σ2 => ?_)
    refine x_aload_n (pc := 31) g rfl 0 rfl dX0_add_31 ?_
    refine x_getI (pc := 32) g sh_8 fl_X0_18 rfl dX0_add_32 ?_
    refine x_iconst (pc := 35) (v := (1 : Int32)) g (by decide) dX0_add_35 ?_
    refine x_isub (pc := 36) g dX0_add_36 ?_
    exact x_ireturn (pc := 37) g hrt dX0_add_37
  · refine x_iconst (pc := 9) (v := (-1 : Int32)) g (by decide) dX0_add_9 ?_
    exact x_ireturn (pc := 10) g hrt dX0_add_10
def F_X0_isThere (a0 : Int32) (σ0 : Sx) : Option (Int32 × Sx) := (if a0 < 0 then some ((0 : Int32), σ0) else (if (siI σ0 8 0) ≤ a0 then some ((0 : Int32), σ0) else some ((1 : Int32), σ0)))
set_option maxRecDepth 100000 in
set_option maxHeartbeats 4000000 in
theorem mc_X0_isThere {D : va_G} {al : Nat → Nat} {cA : Nat → ClassId} {ba : Nat} (a0 : Int32) : MCx D al cA ba yX0_isThere cX0_isThere 2 (some .boolean) 0 0 rvI [.ref (al 8), .int a0] (F_X0_isThere a0) := by
  refine MCx_of (by decide +kernel) (Nat.le_of_ble_eq_true rfl) ?_
  intro p l e s m args below meth c σ0 g hrt
  unfold F_X0_isThere
  refine x_lv (lv' := [(0, .ref (al 8)), (1, .int a0)]) [0, 1] rfl ?_
  refine x_iload_n (pc := 0) g rfl 1 rfl dX0_isThere_0 ?_
  refine x_if_lt (pc := 1) (tgt := 16) g (by decide) dX0_isThere_1 ?_ ?_
  · refine x_iconst (pc := 16) (v := (0 : Int32)) g (by decide) dX0_isThere_16 ?_
    exact x_zreturn (pc := 17) g hrt (by decide) dX0_isThere_17
  · refine x_iload_n (pc := 4) g rfl 1 rfl dX0_isThere_4 ?_
    refine x_aload_n (pc := 5) g rfl 0 rfl dX0_isThere_5 ?_
    refine x_getI (pc := 6) g sh_8 fl_X0_18 rfl dX0_isThere_6 ?_
    refine x_icmp_ge (pc := 9) (tgt := 16) g (by decide) dX0_isThere_9 ?_ ?_
    · refine x_iconst (pc := 16) (v := (0 : Int32)) g (by decide) dX0_isThere_16 ?_
      exact x_zreturn (pc := 17) g hrt (by decide) dX0_isThere_17
    · refine x_iconst (pc := 12) (v := (1 : Int32)) g (by decide) dX0_isThere_12 ?_
      refine x_goto (pc := 13) (tgt := 17) g (by decide) dX0_isThere_13 ?_
      exact x_zreturn (pc := 17) g hrt (by decide) dX0_isThere_17
def F_X0_kindOf (a0 : Int32) (σ0 : Sx) : Option (Int32 × Sx) := aIx 101 50 a0 σ0 (fun v1 => some (v1, σ0))
set_option maxRecDepth 100000 in
set_option maxHeartbeats 4000000 in
theorem mc_X0_kindOf {D : va_G} {al : Nat → Nat} {cA : Nat → ClassId} {ba : Nat} (a0 : Int32) : MCx D al cA ba yX0_kindOf cX0_kindOf 2 (some .int) 0 0 rvI [.ref (al 8), .int a0] (F_X0_kindOf a0) := by
  refine MCx_of (by decide +kernel) (Nat.le_of_ble_eq_true rfl) ?_
  intro p l e s m args below meth c σ0 g hrt
  unfold F_X0_kindOf
  refine x_lv (lv' := [(0, .ref (al 8)), (1, .int a0)]) [0, 1] rfl ?_
  refine x_aload_n (pc := 0) g rfl 0 rfl dX0_kindOf_0 ?_
  refine x_getR (pc := 1) g sh_8 fl_X0_11 rfl dX0_kindOf_1 ?_
  refine x_iload_n (pc := 4) g rfl 1 rfl dX0_kindOf_4 ?_
  refine x_iald (pc := 5) g sh_101 (by decide) dX0_kindOf_5 (fun v1 => ?_)
  exact x_ireturn (pc := 6) g hrt dX0_kindOf_6
def F_X0_above (a0 : Int32) (σ0 : Sx) : Option (Int32 × Sx) := (if a0 < 0 then some ((-1 : Int32), σ0) else (if (8 : Int32) ≤ a0 then some ((-1 : Int32), σ0) else aSx [-1, 0, 0, 2, 1, 3, 0, 6] a0 (fun v1 => some (v1, σ0))))
set_option maxRecDepth 100000 in
set_option maxHeartbeats 4000000 in
theorem mc_X0_above {D : va_G} {al : Nat → Nat} {cA : Nat → ClassId} {ba : Nat} (a0 : Int32) : MCx D al cA ba yX0_above cX0_above 1 (some .int) 0 0 rvI [.int a0] (F_X0_above a0) := by
  refine MCx_of (by decide +kernel) (Nat.le_of_ble_eq_true rfl) ?_
  intro p l e s m args below meth c σ0 g hrt
  unfold F_X0_above
  refine x_lv (lv' := [(0, .int a0)]) [0] rfl ?_
  refine x_iload_n (pc := 0) g rfl 0 rfl dX0_above_0 ?_
  refine x_if_lt (pc := 1) (tgt := 18) g (by decide) dX0_above_1 ?_ ?_
  · refine x_iconst (pc := 18) (v := (-1 : Int32)) g (by decide) dX0_above_18 ?_
    exact x_ireturn (pc := 19) g hrt dX0_above_19
  · refine x_iload_n (pc := 4) g rfl 0 rfl dX0_above_4 ?_
    refine x_bipush (pc := 5) (v := (8 : Int32)) g (by decide) dX0_above_5 ?_
    refine x_icmp_ge (pc := 7) (tgt := 18) g (by decide) dX0_above_7 ?_ ?_
    · refine x_iconst (pc := 18) (v := (-1 : Int32)) g (by decide) dX0_above_18 ?_
      exact x_ireturn (pc := 19) g hrt dX0_above_19
    · refine x_gets (pc := 10) (k := 2) g rfl gs_X0_26 dX0_above_10 (fun t1 ht1 => ?_)
      refine x_iload_n (pc := 13) g rfl 0 rfl dX0_above_13 ?_
      refine x_tald (pc := 14) (L := [-1, 0, 0, 2, 1, 3, 0, 6]) g ht1 (by decide) dX0_above_14 (fun v1 => ?_)
      refine x_goto (pc := 15) (tgt := 19) g (by decide) dX0_above_15 ?_
      exact x_ireturn (pc := 19) g hrt dX0_above_19
def B_X0_isUnder_L4 (N : Nat) (a1 : Int32) (j26 : Int32 → Sx → Option (Int32 × Sx)) (r4 : Int32 → Int32 → Sx → Option (Int32 × Sx)) (x2 : Int32) (x3 : Int32) (σ2 : Sx) : Option (Int32 × Sx) := (if (8 : Int32) ≤ x3 then j26 x2 σ2 else (if x2 = a1 then j26 x2 σ2 else clx (F_X0_above x2 σ2) (fun v1 σ3 => r4 v1 (x3 + (1 : Int32)) σ3)))
def F_X0_isUnder (N : Nat) (a0 : Int32) (a1 : Int32) (σ0 : Sx) : Option (Int32 × Sx) := nmx (fun (x1 : Int32) (σ1 : Sx) => (if x1 = a1 then some ((1 : Int32), σ1) else some ((0 : Int32), σ1))) (fun (j26 : Int32 → Sx → Option (Int32 × Sx)) => lpx2 (B_X0_isUnder_L4 N a1 j26) N a0 (0 : Int32) σ0)
set_option maxRecDepth 100000 in
set_option maxHeartbeats 4000000 in
theorem mc_X0_isUnder {D : va_G} {al : Nat → Nat} {cA : Nat → ClassId} {ba : Nat} (N : Nat) (a0 : Int32) (a1 : Int32) : MCx D al cA ba yX0_isUnder cX0_isUnder 4 (some .boolean) 1 20 rvI [.int a0, .int a1] (F_X0_isUnder N a0 a1) := by
  refine MCx_of (by decide +kernel) (Nat.le_of_ble_eq_true rfl) ?_
  intro p l e s m args below meth c σ0 g hrt
  unfold F_X0_isUnder
  refine x_lv (lv' := [(0, .int a0), (1, .int a1)]) [0, 1] rfl ?_
  refine x_iload_n (pc := 0) g rfl 0 rfl dX0_isUnder_0 ?_
  refine x_istore_n (pc := 1) (lv' := [(2, .int a0), (0, .int a0), (1, .int a1)]) g rfl (by decide) rfl dX0_isUnder_1 ?_
  refine x_iconst (pc := 2) (v := (0 : Int32)) g (by decide) dX0_isUnder_2 ?_
  refine x_istore_n (pc := 3) (lv' := [(3, .int (0 : Int32)), (2, .int a0), (0, .int a0), (1, .int a1)]) g rfl (by decide) rfl dX0_isUnder_3 ?_
  refine x_jn (fun (j26 : Int32 → Sx → Option (Int32 × Sx)) => ∀ (x1 : Int32) (σ1 : Sx), XTx p l e { frames := 1, cells := 0, slots := 0, locals := 20 } s m args below meth c D al cA ba 4 (MQx rvI D al cA ba below args s) 0 0 26 [(1, .int a1), (2, .int x1)] [] σ1 (j26 x1 σ1)) (fun x1 σ1 => ?_) (fun j26 hj26 => ?_)
  · refine x_iload_n (pc := 26) g rfl 1 rfl dX0_isUnder_26 ?_
    refine x_iload_n (pc := 27) g rfl 0 rfl dX0_isUnder_27 ?_
    refine x_icmp_ne (pc := 28) (tgt := 35) g (by decide) dX0_isUnder_28 ?_ ?_
    · refine x_iconst (pc := 35) (v := (0 : Int32)) g (by decide) dX0_isUnder_35 ?_
      exact x_zreturn (pc := 36) g hrt (by decide) dX0_isUnder_36
    · refine x_iconst (pc := 31) (v := (1 : Int32)) g (by decide) dX0_isUnder_31 ?_
      refine x_goto (pc := 32) (tgt := 36) g (by decide) dX0_isUnder_32 ?_
      exact x_zreturn (pc := 36) g hrt (by decide) dX0_isUnder_36
  · refine x_lv [3, 1, 0] rfl ?_
    refine lpx2_ind (fun (x2 : Int32) (x3 : Int32) (σ2 : Sx) (K : Option (Int32 × Sx)) => XTx p l e { frames := 1, cells := 0, slots := 0, locals := 20 } s m args below meth c D al cA ba 4 (MQx rvI D al cA ba below args s) 0 0 4 [(1, .int a1), (2, .int x2), (3, .int x3)] [] σ2 (K)) (fun _ _ _ => x_no) (fun r4 hr4 x2 x3 σ2 => ?_) N a0 (0 : Int32) σ0
    show XTx p l e { frames := 1, cells := 0, slots := 0, locals := 20 } s m args below meth c D al cA ba 4 (MQx rvI D al cA ba below args s) 0 0 4 [(1, .int a1), (2, .int x2), (3, .int x3)] [] σ2 (B_X0_isUnder_L4 N a1 j26 r4 x2 x3 σ2)
    unfold B_X0_isUnder_L4
    refine x_iload_n (pc := 4) g rfl 2 rfl dX0_isUnder_4 ?_
    refine x_bipush (pc := 5) (v := (8 : Int32)) g (by decide) dX0_isUnder_5 ?_
    refine x_icmp_ge (pc := 7) (tgt := 26) g (by decide) dX0_isUnder_7 ?_ ?_
    · refine x_lv [0, 1] rfl ?_
      exact hj26 x2 σ2
    · refine x_iload_n (pc := 10) g rfl 1 rfl dX0_isUnder_10 ?_
      refine x_iload_n (pc := 11) g rfl 0 rfl dX0_isUnder_11 ?_
      refine x_icmp_eq (pc := 12) (tgt := 26) g (by decide) dX0_isUnder_12 ?_ ?_
      · refine x_lv [0, 1] rfl ?_
        exact hj26 x2 σ2
      · refine x_iload_n (pc := 15) g rfl 1 rfl dX0_isUnder_15 ?_
        refine x_callSI (pc := 16) (As := [.int x2]) g (mc_X0_above x2) cw_X0_above lk_X0_22 rfl ⟨Nat.le_of_ble_eq_true rfl, Nat.le_of_ble_eq_true rfl⟩ rfl (Nat.le_of_ble_eq_true rfl) dX0_isUnder_16 (fun v1 σ3 => ?_)
        refine x_istore_n (pc := 19) (lv' := [(2, .int v1), (1, .int a1), (3, .int x3)]) g rfl (by decide) rfl dX0_isUnder_19 ?_
        refine x_iinc (pc := 20) (v := (x3 + (1 : Int32))) (lv' := [(3, .int (x3 + (1 : Int32))), (2, .int v1), (1, .int a1)]) g 2 rfl (by rfl) (by decide) rfl dX0_isUnder_20 ?_
        refine x_goto (pc := 23) (tgt := 4) g (by decide) dX0_isUnder_23 ?_
        refine x_lv [2, 1, 0] rfl ?_
        exact hr4 v1 (x3 + (1 : Int32)) σ3
def F_X0_ranAt (a0 : Int32) (σ0 : Sx) : Option (Int32 × Sx) := (if a0 < 0 then some ((-1 : Int32), σ0) else (if (siI σ0 8 2) ≤ a0 then some ((-1 : Int32), σ0) else (if (24 : Int32) ≤ a0 then some ((-1 : Int32), σ0) else aIx 102 24 a0 σ0 (fun v1 => some (v1, σ0)))))
set_option maxRecDepth 100000 in
set_option maxHeartbeats 4000000 in
theorem mc_X0_ranAt {D : va_G} {al : Nat → Nat} {cA : Nat → ClassId} {ba : Nat} (a0 : Int32) : MCx D al cA ba yX0_ranAt cX0_ranAt 2 (some .int) 0 0 rvI [.ref (al 8), .int a0] (F_X0_ranAt a0) := by
  refine MCx_of (by decide +kernel) (Nat.le_of_ble_eq_true rfl) ?_
  intro p l e s m args below meth c σ0 g hrt
  unfold F_X0_ranAt
  refine x_lv (lv' := [(0, .ref (al 8)), (1, .int a0)]) [0, 1] rfl ?_
  refine x_iload_n (pc := 0) g rfl 1 rfl dX0_ranAt_0 ?_
  refine x_if_lt (pc := 1) (tgt := 27) g (by decide) dX0_ranAt_1 ?_ ?_
  · refine x_iconst (pc := 27) (v := (-1 : Int32)) g (by decide) dX0_ranAt_27 ?_
    exact x_ireturn (pc := 28) g hrt dX0_ranAt_28
  · refine x_iload_n (pc := 4) g rfl 1 rfl dX0_ranAt_4 ?_
    refine x_aload_n (pc := 5) g rfl 0 rfl dX0_ranAt_5 ?_
    refine x_getI (pc := 6) g sh_8 fl_X0_29 rfl dX0_ranAt_6 ?_
    refine x_icmp_ge (pc := 9) (tgt := 27) g (by decide) dX0_ranAt_9 ?_ ?_
    · refine x_iconst (pc := 27) (v := (-1 : Int32)) g (by decide) dX0_ranAt_27 ?_
      exact x_ireturn (pc := 28) g hrt dX0_ranAt_28
    · refine x_iload_n (pc := 12) g rfl 1 rfl dX0_ranAt_12 ?_
      refine x_bipush (pc := 13) (v := (24 : Int32)) g (by decide) dX0_ranAt_13 ?_
      refine x_icmp_ge (pc := 15) (tgt := 27) g (by decide) dX0_ranAt_15 ?_ ?_
      · refine x_iconst (pc := 27) (v := (-1 : Int32)) g (by decide) dX0_ranAt_27 ?_
        exact x_ireturn (pc := 28) g hrt dX0_ranAt_28
      · refine x_aload_n (pc := 18) g rfl 0 rfl dX0_ranAt_18 ?_
        refine x_getR (pc := 19) g sh_8 fl_X0_15 rfl dX0_ranAt_19 ?_
        refine x_iload_n (pc := 22) g rfl 1 rfl dX0_ranAt_22 ?_
        refine x_iald (pc := 23) g sh_102 (by decide) dX0_ranAt_23 (fun v1 => ?_)
        refine x_goto (pc := 24) (tgt := 28) g (by decide) dX0_ranAt_24 ?_
        exact x_ireturn (pc := 28) g hrt dX0_ranAt_28
def F_X0_begin (a0 : Int32) (σ0 : Sx) : Option (Unit × Sx) := nmx (fun (σ1 : Sx) => pIx 8 2 ((siI σ1 8 2) + (1 : Int32)) σ1 (fun σ2 => some ((), σ2))) (fun (j19 : Sx → Option (Unit × Sx)) => (if (24 : Int32) ≤ (siI σ0 8 2) then j19 σ0 else sIx 102 24 (siI σ0 8 2) a0 σ0 (fun σ3 => j19 σ3)))
set_option maxRecDepth 100000 in
set_option maxHeartbeats 4000000 in
theorem mc_X0_begin {D : va_G} {al : Nat → Nat} {cA : Nat → ClassId} {ba : Nat} (a0 : Int32) : MCx D al cA ba yX0_begin cX0_begin 2 none 0 0 rvU [.ref (al 8), .int a0] (F_X0_begin a0) := by
  refine MCx_of (by decide +kernel) (Nat.le_of_ble_eq_true rfl) ?_
  intro p l e s m args below meth c σ0 g hrt
  unfold F_X0_begin
  refine x_lv (lv' := [(0, .ref (al 8)), (1, .int a0)]) [0, 1] rfl ?_
  refine x_aload_n (pc := 0) g rfl 0 rfl dX0_begin_0 ?_
  refine x_getI (pc := 1) g sh_8 fl_X0_29 rfl dX0_begin_1 ?_
  refine x_bipush (pc := 4) (v := (24 : Int32)) g (by decide) dX0_begin_4 ?_
  refine x_jn (fun (j19 : Sx → Option (Unit × Sx)) => ∀ (σ1 : Sx), XTx p l e { frames := 0, cells := 0, slots := 0, locals := 0 } s m args below meth c D al cA ba 2 (MQx rvU D al cA ba below args s) 0 0 19 [(0, .ref (al 8))] [] σ1 (j19 σ1)) (fun σ1 => ?_) (fun j19 hj19 => ?_)
  · refine x_aload_n (pc := 19) g rfl 0 rfl dX0_begin_19 ?_
    refine x_dup (pc := 20) g rfl dX0_begin_20 ?_
    refine x_getI (pc := 21) g sh_8 fl_X0_29 rfl dX0_begin_21 ?_
    refine x_iconst (pc := 24) (v := (1 : Int32)) g (by decide) dX0_begin_24 ?_
    refine x_iadd (pc := 25) g dX0_begin_25 ?_
    refine x_putI (pc := 26) g sh_8 fl_X0_29 rfl dX0_begin_26 (fun σ2 => ?_)
    exact x_return (pc := 29) g hrt dX0_begin_29
  · refine x_icmp_ge (pc := 6) (tgt := 19) g (by decide) dX0_begin_6 ?_ ?_
    · refine x_lv [0] rfl ?_
      exact hj19 σ0
    · refine x_aload_n (pc := 9) g rfl 0 rfl dX0_begin_9 ?_
      refine x_getR (pc := 10) g sh_8 fl_X0_15 rfl dX0_begin_10 ?_
      refine x_aload_n (pc := 13) g rfl 0 rfl dX0_begin_13 ?_
      refine x_getI (pc := 14) g sh_8 fl_X0_29 rfl dX0_begin_14 ?_
      refine x_iload_n (pc := 17) g rfl 1 rfl dX0_begin_17 ?_
      refine x_iast (pc := 18) g sh_102 (by decide) dX0_begin_18 (fun σ3 => ?_)
      refine x_lv [0] rfl ?_
      exact hj19 σ3
def G_X0_leads (N : Nat) (self : Nat → Int32 → Int32 → Int32 → Sx → Option (Int32 × Sx)) (a0 : Int32) (a1 : Int32) (a2 : Int32) (σ0 : Sx) : Option (Int32 × Sx) := (if a2 ≤ (40 : Int32) then nmx (fun (σ1 : Sx) => clx (F_X0_above a0 σ1) (fun v1 σ2 => clx (self 0 v1 a1 (a2 + (1 : Int32)) σ2) (fun v2 σ3 => some (v2, σ3)))) (fun (j123 : Sx → Option (Int32 × Sx)) => (if a0 = (0 : Int32) then clx (F_X0_begin (1 : Int32) σ0) (fun _ σ4 => some ((a1 + (siI σ4 8 4)), σ4)) else (if a0 = (1 : Int32) then clx (F_X0_begin (20 : Int32) σ0) (fun _ σ5 => clx (self 0 (0 : Int32) a1 (a2 + (1 : Int32)) σ5) (fun v3 σ6 => some ((v3 + (3 : Int32)), σ6))) else (if a0 = (2 : Int32) then j123 σ0 else (if a0 = (3 : Int32) then j123 σ0 else (if a0 = (4 : Int32) then j123 σ0 else (if a0 = (5 : Int32) then j123 σ0 else (if a0 = (6 : Int32) then clx (F_X0_begin (70 : Int32) σ0) (fun _ σ7 => clx (self 0 (0 : Int32) a1 (a2 + (1 : Int32)) σ7) (fun v4 σ8 => some ((v4 * (2 : Int32)), σ8))) else (if a0 = (7 : Int32) then clx (F_X0_begin (81 : Int32) σ0) (fun _ σ9 => clx (self 0 (6 : Int32) a1 (a2 + (1 : Int32)) σ9) (fun v5 σ10 => some ((v5 - (1 : Int32)), σ10))) else j123 σ0))))))))) else some ((0 : Int32), σ0))
def R_X0_leads (N : Nat) : Nat → Nat → Int32 → Int32 → Int32 → Sx → Option (Int32 × Sx)
  | 0 => fun _ _ _ _ _ => none
  | d + 1 => fun sel x0 x1 x2 σ => G_X0_leads N (R_X0_leads N d) x0 x1 x2 σ
set_option maxRecDepth 100000 in
set_option maxHeartbeats 8000000 in
theorem rc_X0_leads {D : va_G} {al : Nat → Nat} {cA : Nat → ClassId} {ba : Nat} (N : Nat) : ∀ d : Nat, (∀ (a0 : Int32) (a1 : Int32) (a2 : Int32), MCx D al cA ba yX0_leads cX0_leads 4 (some .int) (d + 1) (d * 23 + 21) rvI [.ref (al 8), .int a0, .int a1, .int a2] (R_X0_leads N d 0 a0 a1 a2)) := by
  intro d
  induction d with
  | zero => exact (fun _ _ _ l σ out ho => nomatch (show (none : Option (Int32 × Sx)) = some out from ho))
  | succ d ih =>
    have ih0 := ih
    intro a0 a1 a2
    show MCx D al cA ba yX0_leads cX0_leads 4 (some .int) (d + 1 + 1) ((d + 1) * 23 + 21) rvI [.ref (al 8), .int a0, .int a1, .int a2] (G_X0_leads N (R_X0_leads N d) a0 a1 a2)
    refine MCx_of (by decide +kernel) (Nat.le_of_ble_eq_true rfl) ?_
    intro p l e s m args below meth c σ0 g hrt
    unfold G_X0_leads
    refine x_lv (lv' := [(0, .ref (al 8)), (1, .int a0), (2, .int a1), (3, .int a2)]) [0, 1, 2, 3] rfl ?_
    refine x_iload_n (pc := 0) g rfl 3 rfl dX0_leads_0 ?_
    refine x_bipush (pc := 1) (v := (40 : Int32)) g (by decide) dX0_leads_1 ?_
    refine x_icmp_le (pc := 3) (tgt := 8) g (by decide) dX0_leads_3 ?_ ?_
    · refine x_iload_n (pc := 8) g rfl 1 rfl dX0_leads_8 ?_
      refine x_jn (fun (j123 : Sx → Option (Int32 × Sx)) => ∀ (σ1 : Sx), XTx p l e { frames := d + 1 + 1, cells := 0, slots := 0, locals := (d + 1) * 23 + 21 } s m args below meth c D al cA ba 4 (MQx rvI D al cA ba below args s) 0 0 123 [(0, .ref (al 8)), (1, .int a0), (2, .int a1), (3, .int a2)] [] σ1 (j123 σ1)) (fun σ1 => ?_) (fun j123 hj123 => ?_)
      · refine x_aload_n (pc := 123) g rfl 0 rfl dX0_leads_123 ?_
        refine x_iload_n (pc := 124) g rfl 1 rfl dX0_leads_124 ?_
        refine x_callSI (pc := 125) (As := [.int a0]) g (mc_X0_above a0) cw_X0_above lk_X0_22 rfl ⟨by show 0 + 1 ≤ d + 1 + 1; omega, by show 8 + (1 + 11) + 0 ≤ (d + 1) * 23 + 21; omega⟩ rfl (Nat.le_of_ble_eq_true rfl) dX0_leads_125 (fun v1 σ2 => ?_)
        refine x_iload_n (pc := 128) g rfl 2 rfl dX0_leads_128 ?_
        refine x_iload_n (pc := 129) g rfl 3 rfl dX0_leads_129 ?_
        refine x_iconst (pc := 130) (v := (1 : Int32)) g (by decide) dX0_leads_130 ?_
        refine x_iadd (pc := 131) g dX0_leads_131 ?_
        refine x_callVI (pc := 132) (As := [.int v1, .int a1, .int (a2 + (1 : Int32))]) g sh_8 (ih0 v1 a1 (a2 + (1 : Int32))) cw_X0_leads lk_X0_42 rfl ⟨by show d + 1 + 1 ≤ d + 1 + 1; omega, by show 8 + (4 + 11) + (d * 23 + 21) ≤ (d + 1) * 23 + 21; omega⟩ rfl (Nat.le_of_ble_eq_true rfl) dX0_leads_132 (fun v2 σ3 => ?_)
        exact x_ireturn (pc := 135) g hrt dX0_leads_135
      · refine x_eqs ?_ (fun hs1 => ?_)
        · refine x_tabIn (pc := 9) (tgt := 56) (off := 47) g (by decide) (by decide) dX0_leads_9 ?_
          refine x_aload_n (pc := 56) g rfl 0 rfl dX0_leads_56 ?_
          refine x_iconst (pc := 57) (v := (1 : Int32)) g (by decide) dX0_leads_57 ?_
          refine x_callVU (pc := 58) (As := [.int (1 : Int32)]) g sh_8 (mc_X0_begin (1 : Int32)) cw_X0_begin lk_X0_55 rfl ⟨by show 0 + 1 ≤ d + 1 + 1; omega, by show 8 + (2 + 11) + 0 ≤ (d + 1) * 23 + 21; omega⟩ rfl (Nat.le_of_ble_eq_true rfl) dX0_leads_58 (fun _ σ4 => ?_)
          refine x_iload_n (pc := 61) g rfl 2 rfl dX0_leads_61 ?_
          refine x_aload_n (pc := 62) g rfl 0 rfl dX0_leads_62 ?_
          refine x_getI (pc := 63) g sh_8 fl_X0_36 rfl dX0_leads_63 ?_
          refine x_iadd (pc := 66) g dX0_leads_66 ?_
          exact x_ireturn (pc := 67) g hrt dX0_leads_67
        refine x_eqs ?_ (fun hs2 => ?_)
        · refine x_tabIn (pc := 9) (tgt := 68) (off := 59) g (by decide) (by decide) dX0_leads_9 ?_
          refine x_aload_n (pc := 68) g rfl 0 rfl dX0_leads_68 ?_
          refine x_bipush (pc := 69) (v := (20 : Int32)) g (by decide) dX0_leads_69 ?_
          refine x_callVU (pc := 71) (As := [.int (20 : Int32)]) g sh_8 (mc_X0_begin (20 : Int32)) cw_X0_begin lk_X0_55 rfl ⟨by show 0 + 1 ≤ d + 1 + 1; omega, by show 8 + (2 + 11) + 0 ≤ (d + 1) * 23 + 21; omega⟩ rfl (Nat.le_of_ble_eq_true rfl) dX0_leads_71 (fun _ σ5 => ?_)
          refine x_aload_n (pc := 74) g rfl 0 rfl dX0_leads_74 ?_
          refine x_iconst (pc := 75) (v := (0 : Int32)) g (by decide) dX0_leads_75 ?_
          refine x_iload_n (pc := 76) g rfl 2 rfl dX0_leads_76 ?_
          refine x_iload_n (pc := 77) g rfl 3 rfl dX0_leads_77 ?_
          refine x_iconst (pc := 78) (v := (1 : Int32)) g (by decide) dX0_leads_78 ?_
          refine x_iadd (pc := 79) g dX0_leads_79 ?_
          refine x_callVI (pc := 80) (As := [.int (0 : Int32), .int a1, .int (a2 + (1 : Int32))]) g sh_8 (ih0 (0 : Int32) a1 (a2 + (1 : Int32))) cw_X0_leads lk_X0_42 rfl ⟨by show d + 1 + 1 ≤ d + 1 + 1; omega, by show 8 + (4 + 11) + (d * 23 + 21) ≤ (d + 1) * 23 + 21; omega⟩ rfl (Nat.le_of_ble_eq_true rfl) dX0_leads_80 (fun v3 σ6 => ?_)
          refine x_iconst (pc := 83) (v := (3 : Int32)) g (by decide) dX0_leads_83 ?_
          refine x_iadd (pc := 84) g dX0_leads_84 ?_
          exact x_ireturn (pc := 85) g hrt dX0_leads_85
        refine x_eqs ?_ (fun hs3 => ?_)
        · refine x_tabIn (pc := 9) (tgt := 123) (off := 114) g (by decide) (by decide) dX0_leads_9 ?_
          exact hj123 σ0
        refine x_eqs ?_ (fun hs4 => ?_)
        · refine x_tabIn (pc := 9) (tgt := 123) (off := 114) g (by decide) (by decide) dX0_leads_9 ?_
          exact hj123 σ0
        refine x_eqs ?_ (fun hs5 => ?_)
        · refine x_tabIn (pc := 9) (tgt := 123) (off := 114) g (by decide) (by decide) dX0_leads_9 ?_
          exact hj123 σ0
        refine x_eqs ?_ (fun hs6 => ?_)
        · refine x_tabIn (pc := 9) (tgt := 123) (off := 114) g (by decide) (by decide) dX0_leads_9 ?_
          exact hj123 σ0
        refine x_eqs ?_ (fun hs7 => ?_)
        · refine x_tabIn (pc := 9) (tgt := 86) (off := 77) g (by decide) (by decide) dX0_leads_9 ?_
          refine x_aload_n (pc := 86) g rfl 0 rfl dX0_leads_86 ?_
          refine x_bipush (pc := 87) (v := (70 : Int32)) g (by decide) dX0_leads_87 ?_
          refine x_callVU (pc := 89) (As := [.int (70 : Int32)]) g sh_8 (mc_X0_begin (70 : Int32)) cw_X0_begin lk_X0_55 rfl ⟨by show 0 + 1 ≤ d + 1 + 1; omega, by show 8 + (2 + 11) + 0 ≤ (d + 1) * 23 + 21; omega⟩ rfl (Nat.le_of_ble_eq_true rfl) dX0_leads_89 (fun _ σ7 => ?_)
          refine x_aload_n (pc := 92) g rfl 0 rfl dX0_leads_92 ?_
          refine x_iconst (pc := 93) (v := (0 : Int32)) g (by decide) dX0_leads_93 ?_
          refine x_iload_n (pc := 94) g rfl 2 rfl dX0_leads_94 ?_
          refine x_iload_n (pc := 95) g rfl 3 rfl dX0_leads_95 ?_
          refine x_iconst (pc := 96) (v := (1 : Int32)) g (by decide) dX0_leads_96 ?_
          refine x_iadd (pc := 97) g dX0_leads_97 ?_
          refine x_callVI (pc := 98) (As := [.int (0 : Int32), .int a1, .int (a2 + (1 : Int32))]) g sh_8 (ih0 (0 : Int32) a1 (a2 + (1 : Int32))) cw_X0_leads lk_X0_42 rfl ⟨by show d + 1 + 1 ≤ d + 1 + 1; omega, by show 8 + (4 + 11) + (d * 23 + 21) ≤ (d + 1) * 23 + 21; omega⟩ rfl (Nat.le_of_ble_eq_true rfl) dX0_leads_98 (fun v4 σ8 => ?_)
          refine x_iconst (pc := 101) (v := (2 : Int32)) g (by decide) dX0_leads_101 ?_
          refine x_imul (pc := 102) g dX0_leads_102 ?_
          exact x_ireturn (pc := 103) g hrt dX0_leads_103
        refine x_eqs ?_ (fun hs8 => ?_)
        · refine x_tabIn (pc := 9) (tgt := 104) (off := 95) g (by decide) (by decide) dX0_leads_9 ?_
          refine x_aload_n (pc := 104) g rfl 0 rfl dX0_leads_104 ?_
          refine x_bipush (pc := 105) (v := (81 : Int32)) g (by decide) dX0_leads_105 ?_
          refine x_callVU (pc := 107) (As := [.int (81 : Int32)]) g sh_8 (mc_X0_begin (81 : Int32)) cw_X0_begin lk_X0_55 rfl ⟨by show 0 + 1 ≤ d + 1 + 1; omega, by show 8 + (2 + 11) + 0 ≤ (d + 1) * 23 + 21; omega⟩ rfl (Nat.le_of_ble_eq_true rfl) dX0_leads_107 (fun _ σ9 => ?_)
          refine x_aload_n (pc := 110) g rfl 0 rfl dX0_leads_110 ?_
          refine x_bipush (pc := 111) (v := (6 : Int32)) g (by decide) dX0_leads_111 ?_
          refine x_iload_n (pc := 113) g rfl 2 rfl dX0_leads_113 ?_
          refine x_iload_n (pc := 114) g rfl 3 rfl dX0_leads_114 ?_
          refine x_iconst (pc := 115) (v := (1 : Int32)) g (by decide) dX0_leads_115 ?_
          refine x_iadd (pc := 116) g dX0_leads_116 ?_
          refine x_callVI (pc := 117) (As := [.int (6 : Int32), .int a1, .int (a2 + (1 : Int32))]) g sh_8 (ih0 (6 : Int32) a1 (a2 + (1 : Int32))) cw_X0_leads lk_X0_42 rfl ⟨by show d + 1 + 1 ≤ d + 1 + 1; omega, by show 8 + (4 + 11) + (d * 23 + 21) ≤ (d + 1) * 23 + 21; omega⟩ rfl (Nat.le_of_ble_eq_true rfl) dX0_leads_117 (fun v5 σ10 => ?_)
          refine x_iconst (pc := 120) (v := (1 : Int32)) g (by decide) dX0_leads_120 ?_
          refine x_isub (pc := 121) g dX0_leads_121 ?_
          exact x_ireturn (pc := 122) g hrt dX0_leads_122
        refine x_tabOut (pc := 9) (tgt := 123) g (fun i h1 h2 => ?_) (by decide) dX0_leads_9 ?_
        · rcases (show i = 0 ∨ i = 1 ∨ i = 2 ∨ i = 3 ∨ i = 4 ∨ i = 5 ∨ i = 6 ∨ i = 7 by omega) with rfl | rfl | rfl | rfl | rfl | rfl | rfl | rfl
          · exact hs1
          · exact hs2
          · exact hs3
          · exact hs4
          · exact hs5
          · exact hs6
          · exact hs7
          · exact hs8
        · exact hj123 σ0
    · refine x_iconst (pc := 6) (v := (0 : Int32)) g (by decide) dX0_leads_6 ?_
      exact x_ireturn (pc := 7) g hrt dX0_leads_7
def F_X0_leads (N : Nat) (a0 : Int32) (a1 : Int32) (a2 : Int32) (σ0 : Sx) : Option (Int32 × Sx) := R_X0_leads N 64 0 a0 a1 a2 σ0
theorem mc_X0_leads {D : va_G} {al : Nat → Nat} {cA : Nat → ClassId} {ba : Nat} (N : Nat) (a0 : Int32) (a1 : Int32) (a2 : Int32) : MCx D al cA ba yX0_leads cX0_leads 4 (some .int) 65 1493 rvI [.ref (al 8), .int a0, .int a1, .int a2] (F_X0_leads N a0 a1 a2) := (rc_X0_leads N 64) a0 a1 a2
def G_X0_reads (N : Nat) (self : Nat → Int32 → Int32 → Int32 → Sx → Option (Int32 × Sx)) (a0 : Int32) (a1 : Int32) (a2 : Int32) (σ0 : Sx) : Option (Int32 × Sx) := (if a2 ≤ (40 : Int32) then (if a0 = (0 : Int32) then clx (F_X0_begin (11 : Int32) σ0) (fun _ σ1 => some ((a1 ^^^ (siI σ1 8 4)), σ1)) else (if a0 = (3 : Int32) then clx (F_X0_begin (40 : Int32) σ0) (fun _ σ2 => clx (self 0 (2 : Int32) a1 (a2 + (1 : Int32)) σ2) (fun v1 σ3 => some ((v1 * (3 : Int32)), σ3))) else (if a0 = (5 : Int32) then clx (F_X0_begin (60 : Int32) σ0) (fun _ σ4 => clx (self 0 (3 : Int32) a1 (a2 + (1 : Int32)) σ4) (fun v2 σ5 => clx (F_X0_leads N (siI σ5 8 5) (2 : Int32) (a2 + (1 : Int32)) σ5) (fun v3 σ6 => some ((v2 - v3), σ6)))) else clx (F_X0_above a0 σ0) (fun v4 σ7 => clx (self 0 v4 a1 (a2 + (1 : Int32)) σ7) (fun v5 σ8 => some (v5, σ8)))))) else some ((0 : Int32), σ0))
def R_X0_reads (N : Nat) : Nat → Nat → Int32 → Int32 → Int32 → Sx → Option (Int32 × Sx)
  | 0 => fun _ _ _ _ _ => none
  | d + 1 => fun sel x0 x1 x2 σ => G_X0_reads N (R_X0_reads N d) x0 x1 x2 σ
set_option maxRecDepth 100000 in
set_option maxHeartbeats 8000000 in
theorem rc_X0_reads {D : va_G} {al : Nat → Nat} {cA : Nat → ClassId} {ba : Nat} (N : Nat) : ∀ d : Nat, (∀ (a0 : Int32) (a1 : Int32) (a2 : Int32), MCx D al cA ba yX0_reads cX0_reads 5 (some .int) (d + 66) (d * 24 + 1516) rvI [.ref (al 8), .int a0, .int a1, .int a2] (R_X0_reads N d 0 a0 a1 a2)) := by
  intro d
  induction d with
  | zero => exact (fun _ _ _ l σ out ho => nomatch (show (none : Option (Int32 × Sx)) = some out from ho))
  | succ d ih =>
    have ih0 := ih
    intro a0 a1 a2
    show MCx D al cA ba yX0_reads cX0_reads 5 (some .int) (d + 1 + 66) ((d + 1) * 24 + 1516) rvI [.ref (al 8), .int a0, .int a1, .int a2] (G_X0_reads N (R_X0_reads N d) a0 a1 a2)
    refine MCx_of (by decide +kernel) (Nat.le_of_ble_eq_true rfl) ?_
    intro p l e s m args below meth c σ0 g hrt
    unfold G_X0_reads
    refine x_lv (lv' := [(0, .ref (al 8)), (1, .int a0), (2, .int a1), (3, .int a2)]) [0, 1, 2, 3] rfl ?_
    refine x_iload_n (pc := 0) g rfl 3 rfl dX0_reads_0 ?_
    refine x_bipush (pc := 1) (v := (40 : Int32)) g (by decide) dX0_reads_1 ?_
    refine x_icmp_le (pc := 3) (tgt := 8) g (by decide) dX0_reads_3 ?_ ?_
    · refine x_iload_n (pc := 8) g rfl 1 rfl dX0_reads_8 ?_
      refine x_eqs ?_ (fun hs1 => ?_)
      · refine x_look (pc := 9) (tgt := 44) (off := 35) g (by decide) (by decide) (by decide) dX0_reads_9 ?_
        refine x_aload_n (pc := 44) g rfl 0 rfl dX0_reads_44 ?_
        refine x_bipush (pc := 45) (v := (11 : Int32)) g (by decide) dX0_reads_45 ?_
        refine x_callVU (pc := 47) (As := [.int (11 : Int32)]) g sh_8 (mc_X0_begin (11 : Int32)) cw_X0_begin lk_X0_55 rfl ⟨by show 0 + 1 ≤ d + 1 + 66; omega, by show 8 + (2 + 11) + 0 ≤ (d + 1) * 24 + 1516; omega⟩ rfl (Nat.le_of_ble_eq_true rfl) dX0_reads_47 (fun _ σ1 => ?_)
        refine x_iload_n (pc := 50) g rfl 2 rfl dX0_reads_50 ?_
        refine x_aload_n (pc := 51) g rfl 0 rfl dX0_reads_51 ?_
        refine x_getI (pc := 52) g sh_8 fl_X0_36 rfl dX0_reads_52 ?_
        refine x_ixor (pc := 55) g dX0_reads_55 ?_
        exact x_ireturn (pc := 56) g hrt dX0_reads_56
      refine x_eqs ?_ (fun hs2 => ?_)
      · refine x_look (pc := 9) (tgt := 57) (off := 48) g (by decide) (by decide) (by decide) dX0_reads_9 ?_
        refine x_aload_n (pc := 57) g rfl 0 rfl dX0_reads_57 ?_
        refine x_bipush (pc := 58) (v := (40 : Int32)) g (by decide) dX0_reads_58 ?_
        refine x_callVU (pc := 60) (As := [.int (40 : Int32)]) g sh_8 (mc_X0_begin (40 : Int32)) cw_X0_begin lk_X0_55 rfl ⟨by show 0 + 1 ≤ d + 1 + 66; omega, by show 8 + (2 + 11) + 0 ≤ (d + 1) * 24 + 1516; omega⟩ rfl (Nat.le_of_ble_eq_true rfl) dX0_reads_60 (fun _ σ2 => ?_)
        refine x_aload_n (pc := 63) g rfl 0 rfl dX0_reads_63 ?_
        refine x_iconst (pc := 64) (v := (2 : Int32)) g (by decide) dX0_reads_64 ?_
        refine x_iload_n (pc := 65) g rfl 2 rfl dX0_reads_65 ?_
        refine x_iload_n (pc := 66) g rfl 3 rfl dX0_reads_66 ?_
        refine x_iconst (pc := 67) (v := (1 : Int32)) g (by decide) dX0_reads_67 ?_
        refine x_iadd (pc := 68) g dX0_reads_68 ?_
        refine x_callVI (pc := 69) (As := [.int (2 : Int32), .int a1, .int (a2 + (1 : Int32))]) g sh_8 (ih0 (2 : Int32) a1 (a2 + (1 : Int32))) cw_X0_reads lk_X0_49 rfl ⟨by show d + 66 + 1 ≤ d + 1 + 66; omega, by show 8 + (5 + 11) + (d * 24 + 1516) ≤ (d + 1) * 24 + 1516; omega⟩ rfl (Nat.le_of_ble_eq_true rfl) dX0_reads_69 (fun v1 σ3 => ?_)
        refine x_iconst (pc := 72) (v := (3 : Int32)) g (by decide) dX0_reads_72 ?_
        refine x_imul (pc := 73) g dX0_reads_73 ?_
        exact x_ireturn (pc := 74) g hrt dX0_reads_74
      refine x_eqs ?_ (fun hs3 => ?_)
      · refine x_look (pc := 9) (tgt := 75) (off := 66) g (by decide) (by decide) (by decide) dX0_reads_9 ?_
        refine x_aload_n (pc := 75) g rfl 0 rfl dX0_reads_75 ?_
        refine x_bipush (pc := 76) (v := (60 : Int32)) g (by decide) dX0_reads_76 ?_
        refine x_callVU (pc := 78) (As := [.int (60 : Int32)]) g sh_8 (mc_X0_begin (60 : Int32)) cw_X0_begin lk_X0_55 rfl ⟨by show 0 + 1 ≤ d + 1 + 66; omega, by show 8 + (2 + 11) + 0 ≤ (d + 1) * 24 + 1516; omega⟩ rfl (Nat.le_of_ble_eq_true rfl) dX0_reads_78 (fun _ σ4 => ?_)
        refine x_aload_n (pc := 81) g rfl 0 rfl dX0_reads_81 ?_
        refine x_iconst (pc := 82) (v := (3 : Int32)) g (by decide) dX0_reads_82 ?_
        refine x_iload_n (pc := 83) g rfl 2 rfl dX0_reads_83 ?_
        refine x_iload_n (pc := 84) g rfl 3 rfl dX0_reads_84 ?_
        refine x_iconst (pc := 85) (v := (1 : Int32)) g (by decide) dX0_reads_85 ?_
        refine x_iadd (pc := 86) g dX0_reads_86 ?_
        refine x_callVI (pc := 87) (As := [.int (3 : Int32), .int a1, .int (a2 + (1 : Int32))]) g sh_8 (ih0 (3 : Int32) a1 (a2 + (1 : Int32))) cw_X0_reads lk_X0_49 rfl ⟨by show d + 66 + 1 ≤ d + 1 + 66; omega, by show 8 + (5 + 11) + (d * 24 + 1516) ≤ (d + 1) * 24 + 1516; omega⟩ rfl (Nat.le_of_ble_eq_true rfl) dX0_reads_87 (fun v2 σ5 => ?_)
        refine x_istore (pc := 90) (lv' := [(4, .int v2), (0, .ref (al 8)), (1, .int a0), (2, .int a1), (3, .int a2)]) g (by decide) rfl dX0_reads_90 ?_
        refine x_iload (pc := 92) g 0 rfl dX0_reads_92 ?_
        refine x_aload_n (pc := 94) g rfl 1 rfl dX0_reads_94 ?_
        refine x_aload_n (pc := 95) g rfl 1 rfl dX0_reads_95 ?_
        refine x_getI (pc := 96) g sh_8 fl_X0_39 rfl dX0_reads_96 ?_
        refine x_iconst (pc := 99) (v := (2 : Int32)) g (by decide) dX0_reads_99 ?_
        refine x_iload_n (pc := 100) g rfl 4 rfl dX0_reads_100 ?_
        refine x_iconst (pc := 101) (v := (1 : Int32)) g (by decide) dX0_reads_101 ?_
        refine x_iadd (pc := 102) g dX0_reads_102 ?_
        refine x_callVI (pc := 103) (As := [.int (siI σ5 8 5), .int (2 : Int32), .int (a2 + (1 : Int32))]) g sh_8 (mc_X0_leads N (siI σ5 8 5) (2 : Int32) (a2 + (1 : Int32))) cw_X0_leads lk_X0_42 rfl ⟨by show 65 + 1 ≤ d + 1 + 66; omega, by show 8 + (4 + 11) + 1493 ≤ (d + 1) * 24 + 1516; omega⟩ rfl (Nat.le_of_ble_eq_true rfl) dX0_reads_103 (fun v3 σ6 => ?_)
        refine x_isub (pc := 106) g dX0_reads_106 ?_
        exact x_ireturn (pc := 107) g hrt dX0_reads_107
      refine x_look (pc := 9) (tgt := 108) g (by decide) (lk_dflt (fun q hq => ?_)) (by decide) dX0_reads_9 ?_
      · simp only [List.mem_cons, List.not_mem_nil, or_false] at hq
        rcases hq with rfl | rfl | rfl
        · exact lk_ne (k := 0) hs1 (by decide)
        · exact lk_ne (k := 3) hs2 (by decide)
        · exact lk_ne (k := 5) hs3 (by decide)
      · refine x_aload_n (pc := 108) g rfl 0 rfl dX0_reads_108 ?_
        refine x_iload_n (pc := 109) g rfl 1 rfl dX0_reads_109 ?_
        refine x_callSI (pc := 110) (As := [.int a0]) g (mc_X0_above a0) cw_X0_above lk_X0_22 rfl ⟨by show 0 + 1 ≤ d + 1 + 66; omega, by show 8 + (1 + 11) + 0 ≤ (d + 1) * 24 + 1516; omega⟩ rfl (Nat.le_of_ble_eq_true rfl) dX0_reads_110 (fun v4 σ7 => ?_)
        refine x_iload_n (pc := 113) g rfl 2 rfl dX0_reads_113 ?_
        refine x_iload_n (pc := 114) g rfl 3 rfl dX0_reads_114 ?_
        refine x_iconst (pc := 115) (v := (1 : Int32)) g (by decide) dX0_reads_115 ?_
        refine x_iadd (pc := 116) g dX0_reads_116 ?_
        refine x_callVI (pc := 117) (As := [.int v4, .int a1, .int (a2 + (1 : Int32))]) g sh_8 (ih0 v4 a1 (a2 + (1 : Int32))) cw_X0_reads lk_X0_49 rfl ⟨by show d + 66 + 1 ≤ d + 1 + 66; omega, by show 8 + (5 + 11) + (d * 24 + 1516) ≤ (d + 1) * 24 + 1516; omega⟩ rfl (Nat.le_of_ble_eq_true rfl) dX0_reads_117 (fun v5 σ8 => ?_)
        exact x_ireturn (pc := 120) g hrt dX0_reads_120
    · refine x_iconst (pc := 6) (v := (0 : Int32)) g (by decide) dX0_reads_6 ?_
      exact x_ireturn (pc := 7) g hrt dX0_reads_7
def F_X0_reads (N : Nat) (a0 : Int32) (a1 : Int32) (a2 : Int32) (σ0 : Sx) : Option (Int32 × Sx) := R_X0_reads N 64 0 a0 a1 a2 σ0
theorem mc_X0_reads {D : va_G} {al : Nat → Nat} {cA : Nat → ClassId} {ba : Nat} (N : Nat) (a0 : Int32) (a1 : Int32) (a2 : Int32) : MCx D al cA ba yX0_reads cX0_reads 5 (some .int) 130 3052 rvI [.ref (al 8), .int a0, .int a1, .int a2] (F_X0_reads N a0 a1 a2) := (rc_X0_reads N 64) a0 a1 a2
def G_X0_treads (N : Nat) (self : Nat → Int32 → Int32 → Int32 → Sx → Option (Int32 × Sx)) (a0 : Int32) (a1 : Int32) (a2 : Int32) (σ0 : Sx) : Option (Int32 × Sx) := (if a2 ≤ (40 : Int32) then nmx (fun (σ1 : Sx) => clx (F_X0_above a0 σ1) (fun v1 σ2 => clx (self 0 v1 a1 (a2 + (1 : Int32)) σ2) (fun v2 σ3 => some (v2, σ3)))) (fun (j146 : Sx → Option (Int32 × Sx)) => (if a0 = (0 : Int32) then clx (F_X0_begin (10 : Int32) σ0) (fun _ σ4 => clx (F_X0_leads N (siI σ4 8 5) a1 (a2 + (1 : Int32)) σ4) (fun v3 σ5 => some ((v3 * (2 : Int32)), σ5))) else (if a0 = (1 : Int32) then j146 σ0 else (if a0 = (2 : Int32) then clx (F_X0_begin (30 : Int32) σ0) (fun _ σ6 => clx (self 0 (0 : Int32) a1 (a2 + (1 : Int32)) σ6) (fun v4 σ7 => some ((-v4), σ7))) else (if a0 = (3 : Int32) then clx (F_X0_begin (41 : Int32) σ0) (fun _ σ8 => clx (self 0 (2 : Int32) (a1 + (1 : Int32)) (a2 + (1 : Int32)) σ8) (fun v5 σ9 => some (v5, σ9))) else (if a0 = (4 : Int32) then j146 σ0 else (if a0 = (5 : Int32) then j146 σ0 else (if a0 = (6 : Int32) then j146 σ0 else (if a0 = (7 : Int32) then clx (F_X0_begin (80 : Int32) σ0) (fun _ σ10 => clx (self 0 (6 : Int32) a1 (a2 + (1 : Int32)) σ10) (fun v6 σ11 => clx (F_X0_reads N (siI σ11 8 5) (2 : Int32) (a2 + (1 : Int32)) σ11) (fun v7 σ12 => some ((v6 + v7), σ12)))) else j146 σ0))))))))) else some ((0 : Int32), σ0))
def R_X0_treads (N : Nat) : Nat → Nat → Int32 → Int32 → Int32 → Sx → Option (Int32 × Sx)
  | 0 => fun _ _ _ _ _ => none
  | d + 1 => fun sel x0 x1 x2 σ => G_X0_treads N (R_X0_treads N d) x0 x1 x2 σ
set_option maxRecDepth 100000 in
set_option maxHeartbeats 8000000 in
theorem rc_X0_treads {D : va_G} {al : Nat → Nat} {cA : Nat → ClassId} {ba : Nat} (N : Nat) : ∀ d : Nat, (∀ (a0 : Int32) (a1 : Int32) (a2 : Int32), MCx D al cA ba yX0_treads cX0_treads 5 (some .int) (d + 131) (d * 24 + 3076) rvI [.ref (al 8), .int a0, .int a1, .int a2] (R_X0_treads N d 0 a0 a1 a2)) := by
  intro d
  induction d with
  | zero => exact (fun _ _ _ l σ out ho => nomatch (show (none : Option (Int32 × Sx)) = some out from ho))
  | succ d ih =>
    have ih0 := ih
    intro a0 a1 a2
    show MCx D al cA ba yX0_treads cX0_treads 5 (some .int) (d + 1 + 131) ((d + 1) * 24 + 3076) rvI [.ref (al 8), .int a0, .int a1, .int a2] (G_X0_treads N (R_X0_treads N d) a0 a1 a2)
    refine MCx_of (by decide +kernel) (Nat.le_of_ble_eq_true rfl) ?_
    intro p l e s m args below meth c σ0 g hrt
    unfold G_X0_treads
    refine x_lv (lv' := [(0, .ref (al 8)), (1, .int a0), (2, .int a1), (3, .int a2)]) [0, 1, 2, 3] rfl ?_
    refine x_iload_n (pc := 0) g rfl 3 rfl dX0_treads_0 ?_
    refine x_bipush (pc := 1) (v := (40 : Int32)) g (by decide) dX0_treads_1 ?_
    refine x_icmp_le (pc := 3) (tgt := 8) g (by decide) dX0_treads_3 ?_ ?_
    · refine x_iload_n (pc := 8) g rfl 1 rfl dX0_treads_8 ?_
      refine x_jn (fun (j146 : Sx → Option (Int32 × Sx)) => ∀ (σ1 : Sx), XTx p l e { frames := d + 1 + 131, cells := 0, slots := 0, locals := (d + 1) * 24 + 3076 } s m args below meth c D al cA ba 5 (MQx rvI D al cA ba below args s) 0 0 146 [(0, .ref (al 8)), (1, .int a0), (2, .int a1), (3, .int a2)] [] σ1 (j146 σ1)) (fun σ1 => ?_) (fun j146 hj146 => ?_)
      · refine x_aload_n (pc := 146) g rfl 0 rfl dX0_treads_146 ?_
        refine x_iload_n (pc := 147) g rfl 1 rfl dX0_treads_147 ?_
        refine x_callSI (pc := 148) (As := [.int a0]) g (mc_X0_above a0) cw_X0_above lk_X0_22 rfl ⟨by show 0 + 1 ≤ d + 1 + 131; omega, by show 8 + (1 + 11) + 0 ≤ (d + 1) * 24 + 3076; omega⟩ rfl (Nat.le_of_ble_eq_true rfl) dX0_treads_148 (fun v1 σ2 => ?_)
        refine x_iload_n (pc := 151) g rfl 2 rfl dX0_treads_151 ?_
        refine x_iload_n (pc := 152) g rfl 3 rfl dX0_treads_152 ?_
        refine x_iconst (pc := 153) (v := (1 : Int32)) g (by decide) dX0_treads_153 ?_
        refine x_iadd (pc := 154) g dX0_treads_154 ?_
        refine x_callVI (pc := 155) (As := [.int v1, .int a1, .int (a2 + (1 : Int32))]) g sh_8 (ih0 v1 a1 (a2 + (1 : Int32))) cw_X0_treads lk_X0_46 rfl ⟨by show d + 131 + 1 ≤ d + 1 + 131; omega, by show 8 + (5 + 11) + (d * 24 + 3076) ≤ (d + 1) * 24 + 3076; omega⟩ rfl (Nat.le_of_ble_eq_true rfl) dX0_treads_155 (fun v2 σ3 => ?_)
        exact x_ireturn (pc := 158) g hrt dX0_treads_158
      · refine x_eqs ?_ (fun hs1 => ?_)
        · refine x_tabIn (pc := 9) (tgt := 56) (off := 47) g (by decide) (by decide) dX0_treads_9 ?_
          refine x_aload_n (pc := 56) g rfl 0 rfl dX0_treads_56 ?_
          refine x_bipush (pc := 57) (v := (10 : Int32)) g (by decide) dX0_treads_57 ?_
          refine x_callVU (pc := 59) (As := [.int (10 : Int32)]) g sh_8 (mc_X0_begin (10 : Int32)) cw_X0_begin lk_X0_55 rfl ⟨by show 0 + 1 ≤ d + 1 + 131; omega, by show 8 + (2 + 11) + 0 ≤ (d + 1) * 24 + 3076; omega⟩ rfl (Nat.le_of_ble_eq_true rfl) dX0_treads_59 (fun _ σ4 => ?_)
          refine x_aload_n (pc := 62) g rfl 0 rfl dX0_treads_62 ?_
          refine x_aload_n (pc := 63) g rfl 0 rfl dX0_treads_63 ?_
          refine x_getI (pc := 64) g sh_8 fl_X0_39 rfl dX0_treads_64 ?_
          refine x_iload_n (pc := 67) g rfl 2 rfl dX0_treads_67 ?_
          refine x_iload_n (pc := 68) g rfl 3 rfl dX0_treads_68 ?_
          refine x_iconst (pc := 69) (v := (1 : Int32)) g (by decide) dX0_treads_69 ?_
          refine x_iadd (pc := 70) g dX0_treads_70 ?_
          refine x_callVI (pc := 71) (As := [.int (siI σ4 8 5), .int a1, .int (a2 + (1 : Int32))]) g sh_8 (mc_X0_leads N (siI σ4 8 5) a1 (a2 + (1 : Int32))) cw_X0_leads lk_X0_42 rfl ⟨by show 65 + 1 ≤ d + 1 + 131; omega, by show 8 + (4 + 11) + 1493 ≤ (d + 1) * 24 + 3076; omega⟩ rfl (Nat.le_of_ble_eq_true rfl) dX0_treads_71 (fun v3 σ5 => ?_)
          refine x_iconst (pc := 74) (v := (2 : Int32)) g (by decide) dX0_treads_74 ?_
          refine x_imul (pc := 75) g dX0_treads_75 ?_
          exact x_ireturn (pc := 76) g hrt dX0_treads_76
        refine x_eqs ?_ (fun hs2 => ?_)
        · refine x_tabIn (pc := 9) (tgt := 146) (off := 137) g (by decide) (by decide) dX0_treads_9 ?_
          exact hj146 σ0
        refine x_eqs ?_ (fun hs3 => ?_)
        · refine x_tabIn (pc := 9) (tgt := 77) (off := 68) g (by decide) (by decide) dX0_treads_9 ?_
          refine x_aload_n (pc := 77) g rfl 0 rfl dX0_treads_77 ?_
          refine x_bipush (pc := 78) (v := (30 : Int32)) g (by decide) dX0_treads_78 ?_
          refine x_callVU (pc := 80) (As := [.int (30 : Int32)]) g sh_8 (mc_X0_begin (30 : Int32)) cw_X0_begin lk_X0_55 rfl ⟨by show 0 + 1 ≤ d + 1 + 131; omega, by show 8 + (2 + 11) + 0 ≤ (d + 1) * 24 + 3076; omega⟩ rfl (Nat.le_of_ble_eq_true rfl) dX0_treads_80 (fun _ σ6 => ?_)
          refine x_aload_n (pc := 83) g rfl 0 rfl dX0_treads_83 ?_
          refine x_iconst (pc := 84) (v := (0 : Int32)) g (by decide) dX0_treads_84 ?_
          refine x_iload_n (pc := 85) g rfl 2 rfl dX0_treads_85 ?_
          refine x_iload_n (pc := 86) g rfl 3 rfl dX0_treads_86 ?_
          refine x_iconst (pc := 87) (v := (1 : Int32)) g (by decide) dX0_treads_87 ?_
          refine x_iadd (pc := 88) g dX0_treads_88 ?_
          refine x_callVI (pc := 89) (As := [.int (0 : Int32), .int a1, .int (a2 + (1 : Int32))]) g sh_8 (ih0 (0 : Int32) a1 (a2 + (1 : Int32))) cw_X0_treads lk_X0_46 rfl ⟨by show d + 131 + 1 ≤ d + 1 + 131; omega, by show 8 + (5 + 11) + (d * 24 + 3076) ≤ (d + 1) * 24 + 3076; omega⟩ rfl (Nat.le_of_ble_eq_true rfl) dX0_treads_89 (fun v4 σ7 => ?_)
          refine x_ineg (pc := 92) g dX0_treads_92 ?_
          exact x_ireturn (pc := 93) g hrt dX0_treads_93
        refine x_eqs ?_ (fun hs4 => ?_)
        · refine x_tabIn (pc := 9) (tgt := 94) (off := 85) g (by decide) (by decide) dX0_treads_9 ?_
          refine x_aload_n (pc := 94) g rfl 0 rfl dX0_treads_94 ?_
          refine x_bipush (pc := 95) (v := (41 : Int32)) g (by decide) dX0_treads_95 ?_
          refine x_callVU (pc := 97) (As := [.int (41 : Int32)]) g sh_8 (mc_X0_begin (41 : Int32)) cw_X0_begin lk_X0_55 rfl ⟨by show 0 + 1 ≤ d + 1 + 131; omega, by show 8 + (2 + 11) + 0 ≤ (d + 1) * 24 + 3076; omega⟩ rfl (Nat.le_of_ble_eq_true rfl) dX0_treads_97 (fun _ σ8 => ?_)
          refine x_aload_n (pc := 100) g rfl 0 rfl dX0_treads_100 ?_
          refine x_iconst (pc := 101) (v := (2 : Int32)) g (by decide) dX0_treads_101 ?_
          refine x_iload_n (pc := 102) g rfl 2 rfl dX0_treads_102 ?_
          refine x_iconst (pc := 103) (v := (1 : Int32)) g (by decide) dX0_treads_103 ?_
          refine x_iadd (pc := 104) g dX0_treads_104 ?_
          refine x_iload_n (pc := 105) g rfl 3 rfl dX0_treads_105 ?_
          refine x_iconst (pc := 106) (v := (1 : Int32)) g (by decide) dX0_treads_106 ?_
          refine x_iadd (pc := 107) g dX0_treads_107 ?_
          refine x_callVI (pc := 108) (As := [.int (2 : Int32), .int (a1 + (1 : Int32)), .int (a2 + (1 : Int32))]) g sh_8 (ih0 (2 : Int32) (a1 + (1 : Int32)) (a2 + (1 : Int32))) cw_X0_treads lk_X0_46 rfl ⟨by show d + 131 + 1 ≤ d + 1 + 131; omega, by show 8 + (5 + 11) + (d * 24 + 3076) ≤ (d + 1) * 24 + 3076; omega⟩ rfl (Nat.le_of_ble_eq_true rfl) dX0_treads_108 (fun v5 σ9 => ?_)
          exact x_ireturn (pc := 111) g hrt dX0_treads_111
        refine x_eqs ?_ (fun hs5 => ?_)
        · refine x_tabIn (pc := 9) (tgt := 146) (off := 137) g (by decide) (by decide) dX0_treads_9 ?_
          exact hj146 σ0
        refine x_eqs ?_ (fun hs6 => ?_)
        · refine x_tabIn (pc := 9) (tgt := 146) (off := 137) g (by decide) (by decide) dX0_treads_9 ?_
          exact hj146 σ0
        refine x_eqs ?_ (fun hs7 => ?_)
        · refine x_tabIn (pc := 9) (tgt := 146) (off := 137) g (by decide) (by decide) dX0_treads_9 ?_
          exact hj146 σ0
        refine x_eqs ?_ (fun hs8 => ?_)
        · refine x_tabIn (pc := 9) (tgt := 112) (off := 103) g (by decide) (by decide) dX0_treads_9 ?_
          refine x_aload_n (pc := 112) g rfl 0 rfl dX0_treads_112 ?_
          refine x_bipush (pc := 113) (v := (80 : Int32)) g (by decide) dX0_treads_113 ?_
          refine x_callVU (pc := 115) (As := [.int (80 : Int32)]) g sh_8 (mc_X0_begin (80 : Int32)) cw_X0_begin lk_X0_55 rfl ⟨by show 0 + 1 ≤ d + 1 + 131; omega, by show 8 + (2 + 11) + 0 ≤ (d + 1) * 24 + 3076; omega⟩ rfl (Nat.le_of_ble_eq_true rfl) dX0_treads_115 (fun _ σ10 => ?_)
          refine x_aload_n (pc := 118) g rfl 0 rfl dX0_treads_118 ?_
          refine x_bipush (pc := 119) (v := (6 : Int32)) g (by decide) dX0_treads_119 ?_
          refine x_iload_n (pc := 121) g rfl 2 rfl dX0_treads_121 ?_
          refine x_iload_n (pc := 122) g rfl 3 rfl dX0_treads_122 ?_
          refine x_iconst (pc := 123) (v := (1 : Int32)) g (by decide) dX0_treads_123 ?_
          refine x_iadd (pc := 124) g dX0_treads_124 ?_
          refine x_callVI (pc := 125) (As := [.int (6 : Int32), .int a1, .int (a2 + (1 : Int32))]) g sh_8 (ih0 (6 : Int32) a1 (a2 + (1 : Int32))) cw_X0_treads lk_X0_46 rfl ⟨by show d + 131 + 1 ≤ d + 1 + 131; omega, by show 8 + (5 + 11) + (d * 24 + 3076) ≤ (d + 1) * 24 + 3076; omega⟩ rfl (Nat.le_of_ble_eq_true rfl) dX0_treads_125 (fun v6 σ11 => ?_)
          refine x_istore (pc := 128) (lv' := [(4, .int v6), (0, .ref (al 8)), (1, .int a0), (2, .int a1), (3, .int a2)]) g (by decide) rfl dX0_treads_128 ?_
          refine x_iload (pc := 130) g 0 rfl dX0_treads_130 ?_
          refine x_aload_n (pc := 132) g rfl 1 rfl dX0_treads_132 ?_
          refine x_aload_n (pc := 133) g rfl 1 rfl dX0_treads_133 ?_
          refine x_getI (pc := 134) g sh_8 fl_X0_39 rfl dX0_treads_134 ?_
          refine x_iconst (pc := 137) (v := (2 : Int32)) g (by decide) dX0_treads_137 ?_
          refine x_iload_n (pc := 138) g rfl 4 rfl dX0_treads_138 ?_
          refine x_iconst (pc := 139) (v := (1 : Int32)) g (by decide) dX0_treads_139 ?_
          refine x_iadd (pc := 140) g dX0_treads_140 ?_
          refine x_callVI (pc := 141) (As := [.int (siI σ11 8 5), .int (2 : Int32), .int (a2 + (1 : Int32))]) g sh_8 (mc_X0_reads N (siI σ11 8 5) (2 : Int32) (a2 + (1 : Int32))) cw_X0_reads lk_X0_49 rfl ⟨by show 130 + 1 ≤ d + 1 + 131; omega, by show 8 + (5 + 11) + 3052 ≤ (d + 1) * 24 + 3076; omega⟩ rfl (Nat.le_of_ble_eq_true rfl) dX0_treads_141 (fun v7 σ12 => ?_)
          refine x_iadd (pc := 144) g dX0_treads_144 ?_
          exact x_ireturn (pc := 145) g hrt dX0_treads_145
        refine x_tabOut (pc := 9) (tgt := 146) g (fun i h1 h2 => ?_) (by decide) dX0_treads_9 ?_
        · rcases (show i = 0 ∨ i = 1 ∨ i = 2 ∨ i = 3 ∨ i = 4 ∨ i = 5 ∨ i = 6 ∨ i = 7 by omega) with rfl | rfl | rfl | rfl | rfl | rfl | rfl | rfl
          · exact hs1
          · exact hs2
          · exact hs3
          · exact hs4
          · exact hs5
          · exact hs6
          · exact hs7
          · exact hs8
        · exact hj146 σ0
    · refine x_iconst (pc := 6) (v := (0 : Int32)) g (by decide) dX0_treads_6 ?_
      exact x_ireturn (pc := 7) g hrt dX0_treads_7
def F_X0_treads (N : Nat) (a0 : Int32) (a1 : Int32) (a2 : Int32) (σ0 : Sx) : Option (Int32 × Sx) := R_X0_treads N 64 0 a0 a1 a2 σ0
theorem mc_X0_treads {D : va_G} {al : Nat → Nat} {cA : Nat → ClassId} {ba : Nat} (N : Nat) (a0 : Int32) (a1 : Int32) (a2 : Int32) : MCx D al cA ba yX0_treads cX0_treads 5 (some .int) 195 4612 rvI [.ref (al 8), .int a0, .int a1, .int a2] (F_X0_treads N a0 a1 a2) := (rc_X0_treads N 64) a0 a1 a2
def G_X0_tells (N : Nat) (self : Nat → Int32 → Int32 → Int32 → Sx → Option (Int32 × Sx)) (a0 : Int32) (a1 : Int32) (a2 : Int32) (σ0 : Sx) : Option (Int32 × Sx) := (if a2 ≤ (40 : Int32) then (if a0 = (0 : Int32) then clx (F_X0_begin (2 : Int32) σ0) (fun _ σ1 => clx (F_X0_treads N (siI σ1 8 5) a1 (a2 + (1 : Int32)) σ1) (fun v1 σ2 => clx (F_X0_reads N (siI σ2 8 5) (1 : Int32) (a2 + (1 : Int32)) σ2) (fun v2 σ3 => some ((v1 - v2), σ3)))) else (if a0 = (4 : Int32) then clx (F_X0_begin (50 : Int32) σ0) (fun _ σ4 => clx (self 0 (1 : Int32) a1 (a2 + (1 : Int32)) σ4) (fun v3 σ5 => some ((v3 ^^^ (5 : Int32)), σ5))) else (if a0 = (5 : Int32) then clx (F_X0_begin (61 : Int32) σ0) (fun _ σ6 => clx (self 0 (3 : Int32) a1 (a2 + (1 : Int32)) σ6) (fun v4 σ7 => some ((v4 + (1 : Int32)), σ7))) else clx (F_X0_above a0 σ0) (fun v5 σ8 => clx (self 0 v5 a1 (a2 + (1 : Int32)) σ8) (fun v6 σ9 => some (v6, σ9)))))) else some ((0 : Int32), σ0))
def R_X0_tells (N : Nat) : Nat → Nat → Int32 → Int32 → Int32 → Sx → Option (Int32 × Sx)
  | 0 => fun _ _ _ _ _ => none
  | d + 1 => fun sel x0 x1 x2 σ => G_X0_tells N (R_X0_tells N d) x0 x1 x2 σ
set_option maxRecDepth 100000 in
set_option maxHeartbeats 8000000 in
theorem rc_X0_tells {D : va_G} {al : Nat → Nat} {cA : Nat → ClassId} {ba : Nat} (N : Nat) : ∀ d : Nat, (∀ (a0 : Int32) (a1 : Int32) (a2 : Int32), MCx D al cA ba yX0_tells cX0_tells 5 (some .int) (d + 196) (d * 24 + 4636) rvI [.ref (al 8), .int a0, .int a1, .int a2] (R_X0_tells N d 0 a0 a1 a2)) := by
  intro d
  induction d with
  | zero => exact (fun _ _ _ l σ out ho => nomatch (show (none : Option (Int32 × Sx)) = some out from ho))
  | succ d ih =>
    have ih0 := ih
    intro a0 a1 a2
    show MCx D al cA ba yX0_tells cX0_tells 5 (some .int) (d + 1 + 196) ((d + 1) * 24 + 4636) rvI [.ref (al 8), .int a0, .int a1, .int a2] (G_X0_tells N (R_X0_tells N d) a0 a1 a2)
    refine MCx_of (by decide +kernel) (Nat.le_of_ble_eq_true rfl) ?_
    intro p l e s m args below meth c σ0 g hrt
    unfold G_X0_tells
    refine x_lv (lv' := [(0, .ref (al 8)), (1, .int a0), (2, .int a1), (3, .int a2)]) [0, 1, 2, 3] rfl ?_
    refine x_iload_n (pc := 0) g rfl 3 rfl dX0_tells_0 ?_
    refine x_bipush (pc := 1) (v := (40 : Int32)) g (by decide) dX0_tells_1 ?_
    refine x_icmp_le (pc := 3) (tgt := 8) g (by decide) dX0_tells_3 ?_ ?_
    · refine x_iload_n (pc := 8) g rfl 1 rfl dX0_tells_8 ?_
      refine x_eqs ?_ (fun hs1 => ?_)
      · refine x_look (pc := 9) (tgt := 44) (off := 35) g (by decide) (by decide) (by decide) dX0_tells_9 ?_
        refine x_aload_n (pc := 44) g rfl 0 rfl dX0_tells_44 ?_
        refine x_iconst (pc := 45) (v := (2 : Int32)) g (by decide) dX0_tells_45 ?_
        refine x_callVU (pc := 46) (As := [.int (2 : Int32)]) g sh_8 (mc_X0_begin (2 : Int32)) cw_X0_begin lk_X0_55 rfl ⟨by show 0 + 1 ≤ d + 1 + 196; omega, by show 8 + (2 + 11) + 0 ≤ (d + 1) * 24 + 4636; omega⟩ rfl (Nat.le_of_ble_eq_true rfl) dX0_tells_46 (fun _ σ1 => ?_)
        refine x_aload_n (pc := 49) g rfl 0 rfl dX0_tells_49 ?_
        refine x_aload_n (pc := 50) g rfl 0 rfl dX0_tells_50 ?_
        refine x_getI (pc := 51) g sh_8 fl_X0_39 rfl dX0_tells_51 ?_
        refine x_iload_n (pc := 54) g rfl 2 rfl dX0_tells_54 ?_
        refine x_iload_n (pc := 55) g rfl 3 rfl dX0_tells_55 ?_
        refine x_iconst (pc := 56) (v := (1 : Int32)) g (by decide) dX0_tells_56 ?_
        refine x_iadd (pc := 57) g dX0_tells_57 ?_
        refine x_callVI (pc := 58) (As := [.int (siI σ1 8 5), .int a1, .int (a2 + (1 : Int32))]) g sh_8 (mc_X0_treads N (siI σ1 8 5) a1 (a2 + (1 : Int32))) cw_X0_treads lk_X0_46 rfl ⟨by show 195 + 1 ≤ d + 1 + 196; omega, by show 8 + (5 + 11) + 4612 ≤ (d + 1) * 24 + 4636; omega⟩ rfl (Nat.le_of_ble_eq_true rfl) dX0_tells_58 (fun v1 σ2 => ?_)
        refine x_istore (pc := 61) (lv' := [(4, .int v1), (0, .ref (al 8)), (1, .int a0), (2, .int a1), (3, .int a2)]) g (by decide) rfl dX0_tells_61 ?_
        refine x_iload (pc := 63) g 0 rfl dX0_tells_63 ?_
        refine x_aload_n (pc := 65) g rfl 1 rfl dX0_tells_65 ?_
        refine x_aload_n (pc := 66) g rfl 1 rfl dX0_tells_66 ?_
        refine x_getI (pc := 67) g sh_8 fl_X0_39 rfl dX0_tells_67 ?_
        refine x_iconst (pc := 70) (v := (1 : Int32)) g (by decide) dX0_tells_70 ?_
        refine x_iload_n (pc := 71) g rfl 4 rfl dX0_tells_71 ?_
        refine x_iconst (pc := 72) (v := (1 : Int32)) g (by decide) dX0_tells_72 ?_
        refine x_iadd (pc := 73) g dX0_tells_73 ?_
        refine x_callVI (pc := 74) (As := [.int (siI σ2 8 5), .int (1 : Int32), .int (a2 + (1 : Int32))]) g sh_8 (mc_X0_reads N (siI σ2 8 5) (1 : Int32) (a2 + (1 : Int32))) cw_X0_reads lk_X0_49 rfl ⟨by show 130 + 1 ≤ d + 1 + 196; omega, by show 8 + (5 + 11) + 3052 ≤ (d + 1) * 24 + 4636; omega⟩ rfl (Nat.le_of_ble_eq_true rfl) dX0_tells_74 (fun v2 σ3 => ?_)
        refine x_isub (pc := 77) g dX0_tells_77 ?_
        exact x_ireturn (pc := 78) g hrt dX0_tells_78
      refine x_eqs ?_ (fun hs2 => ?_)
      · refine x_look (pc := 9) (tgt := 79) (off := 70) g (by decide) (by decide) (by decide) dX0_tells_9 ?_
        refine x_aload_n (pc := 79) g rfl 0 rfl dX0_tells_79 ?_
        refine x_bipush (pc := 80) (v := (50 : Int32)) g (by decide) dX0_tells_80 ?_
        refine x_callVU (pc := 82) (As := [.int (50 : Int32)]) g sh_8 (mc_X0_begin (50 : Int32)) cw_X0_begin lk_X0_55 rfl ⟨by show 0 + 1 ≤ d + 1 + 196; omega, by show 8 + (2 + 11) + 0 ≤ (d + 1) * 24 + 4636; omega⟩ rfl (Nat.le_of_ble_eq_true rfl) dX0_tells_82 (fun _ σ4 => ?_)
        refine x_aload_n (pc := 85) g rfl 0 rfl dX0_tells_85 ?_
        refine x_iconst (pc := 86) (v := (1 : Int32)) g (by decide) dX0_tells_86 ?_
        refine x_iload_n (pc := 87) g rfl 2 rfl dX0_tells_87 ?_
        refine x_iload_n (pc := 88) g rfl 3 rfl dX0_tells_88 ?_
        refine x_iconst (pc := 89) (v := (1 : Int32)) g (by decide) dX0_tells_89 ?_
        refine x_iadd (pc := 90) g dX0_tells_90 ?_
        refine x_callVI (pc := 91) (As := [.int (1 : Int32), .int a1, .int (a2 + (1 : Int32))]) g sh_8 (ih0 (1 : Int32) a1 (a2 + (1 : Int32))) cw_X0_tells lk_X0_52 rfl ⟨by show d + 196 + 1 ≤ d + 1 + 196; omega, by show 8 + (5 + 11) + (d * 24 + 4636) ≤ (d + 1) * 24 + 4636; omega⟩ rfl (Nat.le_of_ble_eq_true rfl) dX0_tells_91 (fun v3 σ5 => ?_)
        refine x_iconst (pc := 94) (v := (5 : Int32)) g (by decide) dX0_tells_94 ?_
        refine x_ixor (pc := 95) g dX0_tells_95 ?_
        exact x_ireturn (pc := 96) g hrt dX0_tells_96
      refine x_eqs ?_ (fun hs3 => ?_)
      · refine x_look (pc := 9) (tgt := 97) (off := 88) g (by decide) (by decide) (by decide) dX0_tells_9 ?_
        refine x_aload_n (pc := 97) g rfl 0 rfl dX0_tells_97 ?_
        refine x_bipush (pc := 98) (v := (61 : Int32)) g (by decide) dX0_tells_98 ?_
        refine x_callVU (pc := 100) (As := [.int (61 : Int32)]) g sh_8 (mc_X0_begin (61 : Int32)) cw_X0_begin lk_X0_55 rfl ⟨by show 0 + 1 ≤ d + 1 + 196; omega, by show 8 + (2 + 11) + 0 ≤ (d + 1) * 24 + 4636; omega⟩ rfl (Nat.le_of_ble_eq_true rfl) dX0_tells_100 (fun _ σ6 => ?_)
        refine x_aload_n (pc := 103) g rfl 0 rfl dX0_tells_103 ?_
        refine x_iconst (pc := 104) (v := (3 : Int32)) g (by decide) dX0_tells_104 ?_
        refine x_iload_n (pc := 105) g rfl 2 rfl dX0_tells_105 ?_
        refine x_iload_n (pc := 106) g rfl 3 rfl dX0_tells_106 ?_
        refine x_iconst (pc := 107) (v := (1 : Int32)) g (by decide) dX0_tells_107 ?_
        refine x_iadd (pc := 108) g dX0_tells_108 ?_
        refine x_callVI (pc := 109) (As := [.int (3 : Int32), .int a1, .int (a2 + (1 : Int32))]) g sh_8 (ih0 (3 : Int32) a1 (a2 + (1 : Int32))) cw_X0_tells lk_X0_52 rfl ⟨by show d + 196 + 1 ≤ d + 1 + 196; omega, by show 8 + (5 + 11) + (d * 24 + 4636) ≤ (d + 1) * 24 + 4636; omega⟩ rfl (Nat.le_of_ble_eq_true rfl) dX0_tells_109 (fun v4 σ7 => ?_)
        refine x_iconst (pc := 112) (v := (1 : Int32)) g (by decide) dX0_tells_112 ?_
        refine x_iadd (pc := 113) g dX0_tells_113 ?_
        exact x_ireturn (pc := 114) g hrt dX0_tells_114
      refine x_look (pc := 9) (tgt := 115) g (by decide) (lk_dflt (fun q hq => ?_)) (by decide) dX0_tells_9 ?_
      · simp only [List.mem_cons, List.not_mem_nil, or_false] at hq
        rcases hq with rfl | rfl | rfl
        · exact lk_ne (k := 0) hs1 (by decide)
        · exact lk_ne (k := 4) hs2 (by decide)
        · exact lk_ne (k := 5) hs3 (by decide)
      · refine x_aload_n (pc := 115) g rfl 0 rfl dX0_tells_115 ?_
        refine x_iload_n (pc := 116) g rfl 1 rfl dX0_tells_116 ?_
        refine x_callSI (pc := 117) (As := [.int a0]) g (mc_X0_above a0) cw_X0_above lk_X0_22 rfl ⟨by show 0 + 1 ≤ d + 1 + 196; omega, by show 8 + (1 + 11) + 0 ≤ (d + 1) * 24 + 4636; omega⟩ rfl (Nat.le_of_ble_eq_true rfl) dX0_tells_117 (fun v5 σ8 => ?_)
        refine x_iload_n (pc := 120) g rfl 2 rfl dX0_tells_120 ?_
        refine x_iload_n (pc := 121) g rfl 3 rfl dX0_tells_121 ?_
        refine x_iconst (pc := 122) (v := (1 : Int32)) g (by decide) dX0_tells_122 ?_
        refine x_iadd (pc := 123) g dX0_tells_123 ?_
        refine x_callVI (pc := 124) (As := [.int v5, .int a1, .int (a2 + (1 : Int32))]) g sh_8 (ih0 v5 a1 (a2 + (1 : Int32))) cw_X0_tells lk_X0_52 rfl ⟨by show d + 196 + 1 ≤ d + 1 + 196; omega, by show 8 + (5 + 11) + (d * 24 + 4636) ≤ (d + 1) * 24 + 4636; omega⟩ rfl (Nat.le_of_ble_eq_true rfl) dX0_tells_124 (fun v6 σ9 => ?_)
        exact x_ireturn (pc := 127) g hrt dX0_tells_127
    · refine x_iconst (pc := 6) (v := (0 : Int32)) g (by decide) dX0_tells_6 ?_
      exact x_ireturn (pc := 7) g hrt dX0_tells_7
def F_X0_tells (N : Nat) (a0 : Int32) (a1 : Int32) (a2 : Int32) (σ0 : Sx) : Option (Int32 × Sx) := R_X0_tells N 64 0 a0 a1 a2 σ0
theorem mc_X0_tells {D : va_G} {al : Nat → Nat} {cA : Nat → ClassId} {ba : Nat} (N : Nat) (a0 : Int32) (a1 : Int32) (a2 : Int32) : MCx D al cA ba yX0_tells cX0_tells 5 (some .int) 260 6172 rvI [.ref (al 8), .int a0, .int a1, .int a2] (F_X0_tells N a0 a1 a2) := (rc_X0_tells N 64) a0 a1 a2
def F_X0_perform (N : Nat) (a0 : Int32) (a1 : Int32) (a2 : Int32) (σ0 : Sx) : Option (Int32 × Sx) := pIx 8 2 (0 : Int32) σ0 (fun σ1 => clx (F_X0_isThere a0 σ1) (fun v1 σ2 => (if v1 = 0 then some ((0 : Int32), σ2) else pIx 8 4 a0 σ2 (fun σ3 => aIx 101 50 a0 σ3 (fun v2 => pIx 8 5 v2 σ3 (fun σ4 => (if a1 = (0 : Int32) then clx (F_X0_leads N (siI σ4 8 5) a2 (0 : Int32) σ4) (fun v3 σ5 => some (v3, σ5)) else (if a1 = (1 : Int32) then clx (F_X0_treads N (siI σ4 8 5) a2 (0 : Int32) σ4) (fun v4 σ6 => some (v4, σ6)) else (if a1 = (2 : Int32) then clx (F_X0_reads N (siI σ4 8 5) a2 (0 : Int32) σ4) (fun v5 σ7 => some (v5, σ7)) else (if a1 = (3 : Int32) then clx (F_X0_tells N (siI σ4 8 5) a2 (0 : Int32) σ4) (fun v6 σ8 => some (v6, σ8)) else some ((0 : Int32), σ4)))))))))))
set_option maxRecDepth 100000 in
set_option maxHeartbeats 4000000 in
theorem mc_X0_perform {D : va_G} {al : Nat → Nat} {cA : Nat → ClassId} {ba : Nat} (N : Nat) (a0 : Int32) (a1 : Int32) (a2 : Int32) : MCx D al cA ba yX0_perform cX0_perform 4 (some .int) 261 6196 rvI [.ref (al 8), .int a0, .int a1, .int a2] (F_X0_perform N a0 a1 a2) := by
  refine MCx_of (by decide +kernel) (Nat.le_of_ble_eq_true rfl) ?_
  intro p l e s m args below meth c σ0 g hrt
  unfold F_X0_perform
  refine x_lv (lv' := [(0, .ref (al 8)), (1, .int a0), (2, .int a1), (3, .int a2)]) [0, 1, 2, 3] rfl ?_
  refine x_aload_n (pc := 0) g rfl 0 rfl dX0_perform_0 ?_
  refine x_iconst (pc := 1) (v := (0 : Int32)) g (by decide) dX0_perform_1 ?_
  refine x_putI (pc := 2) g sh_8 fl_X0_29 rfl dX0_perform_2 (fun σ1 => ?_)
  refine x_aload_n (pc := 5) g rfl 0 rfl dX0_perform_5 ?_
  refine x_iload_n (pc := 6) g rfl 1 rfl dX0_perform_6 ?_
  refine x_callVI (pc := 7) (As := [.int a0]) g sh_8 (mc_X0_isThere a0) cw_X0_isThere lk_X0_32 rfl ⟨Nat.le_of_ble_eq_true rfl, Nat.le_of_ble_eq_true rfl⟩ rfl (Nat.le_of_ble_eq_true rfl) dX0_perform_7 (fun v1 σ2 => ?_)
  refine x_if_ne (pc := 10) (tgt := 15) g (by decide) dX0_perform_10 ?_ ?_
  · refine x_aload_n (pc := 15) g rfl 0 rfl dX0_perform_15 ?_
    refine x_iload_n (pc := 16) g rfl 1 rfl dX0_perform_16 ?_
    refine x_putI (pc := 17) g sh_8 fl_X0_36 rfl dX0_perform_17 (fun σ3 => ?_)
    refine x_aload_n (pc := 20) g rfl 0 rfl dX0_perform_20 ?_
    refine x_aload_n (pc := 21) g rfl 0 rfl dX0_perform_21 ?_
    refine x_getR (pc := 22) g sh_8 fl_X0_11 rfl dX0_perform_22 ?_
    refine x_iload_n (pc := 25) g rfl 1 rfl dX0_perform_25 ?_
    refine x_iald (pc := 26) g sh_101 (by decide) dX0_perform_26 (fun v2 => ?_)
    refine x_putI (pc := 27) g sh_8 fl_X0_39 rfl dX0_perform_27 (fun σ4 => ?_)
    refine x_iload_n (pc := 30) g rfl 2 rfl dX0_perform_30 ?_
    refine x_eqs ?_ (fun hs1 => ?_)
    · refine x_tabIn (pc := 31) (tgt := 60) (off := 29) g (by decide) (by decide) dX0_perform_31 ?_
      refine x_aload_n (pc := 60) g rfl 0 rfl dX0_perform_60 ?_
      refine x_aload_n (pc := 61) g rfl 0 rfl dX0_perform_61 ?_
      refine x_getI (pc := 62) g sh_8 fl_X0_39 rfl dX0_perform_62 ?_
      refine x_iload_n (pc := 65) g rfl 3 rfl dX0_perform_65 ?_
      refine x_iconst (pc := 66) (v := (0 : Int32)) g (by decide) dX0_perform_66 ?_
      refine x_callVI (pc := 67) (As := [.int (siI σ4 8 5), .int a2, .int (0 : Int32)]) g sh_8 (mc_X0_leads N (siI σ4 8 5) a2 (0 : Int32)) cw_X0_leads lk_X0_42 rfl ⟨Nat.le_of_ble_eq_true rfl, Nat.le_of_ble_eq_true rfl⟩ rfl (Nat.le_of_ble_eq_true rfl) dX0_perform_67 (fun v3 σ5 => ?_)
      exact x_ireturn (pc := 70) g hrt dX0_perform_70
    refine x_eqs ?_ (fun hs2 => ?_)
    · refine x_tabIn (pc := 31) (tgt := 71) (off := 40) g (by decide) (by decide) dX0_perform_31 ?_
      refine x_aload_n (pc := 71) g rfl 0 rfl dX0_perform_71 ?_
      refine x_aload_n (pc := 72) g rfl 0 rfl dX0_perform_72 ?_
      refine x_getI (pc := 73) g sh_8 fl_X0_39 rfl dX0_perform_73 ?_
      refine x_iload_n (pc := 76) g rfl 3 rfl dX0_perform_76 ?_
      refine x_iconst (pc := 77) (v := (0 : Int32)) g (by decide) dX0_perform_77 ?_
      refine x_callVI (pc := 78) (As := [.int (siI σ4 8 5), .int a2, .int (0 : Int32)]) g sh_8 (mc_X0_treads N (siI σ4 8 5) a2 (0 : Int32)) cw_X0_treads lk_X0_46 rfl ⟨Nat.le_of_ble_eq_true rfl, Nat.le_of_ble_eq_true rfl⟩ rfl (Nat.le_of_ble_eq_true rfl) dX0_perform_78 (fun v4 σ6 => ?_)
      exact x_ireturn (pc := 81) g hrt dX0_perform_81
    refine x_eqs ?_ (fun hs3 => ?_)
    · refine x_tabIn (pc := 31) (tgt := 82) (off := 51) g (by decide) (by decide) dX0_perform_31 ?_
      refine x_aload_n (pc := 82) g rfl 0 rfl dX0_perform_82 ?_
      refine x_aload_n (pc := 83) g rfl 0 rfl dX0_perform_83 ?_
      refine x_getI (pc := 84) g sh_8 fl_X0_39 rfl dX0_perform_84 ?_
      refine x_iload_n (pc := 87) g rfl 3 rfl dX0_perform_87 ?_
      refine x_iconst (pc := 88) (v := (0 : Int32)) g (by decide) dX0_perform_88 ?_
      refine x_callVI (pc := 89) (As := [.int (siI σ4 8 5), .int a2, .int (0 : Int32)]) g sh_8 (mc_X0_reads N (siI σ4 8 5) a2 (0 : Int32)) cw_X0_reads lk_X0_49 rfl ⟨Nat.le_of_ble_eq_true rfl, Nat.le_of_ble_eq_true rfl⟩ rfl (Nat.le_of_ble_eq_true rfl) dX0_perform_89 (fun v5 σ7 => ?_)
      exact x_ireturn (pc := 92) g hrt dX0_perform_92
    refine x_eqs ?_ (fun hs4 => ?_)
    · refine x_tabIn (pc := 31) (tgt := 93) (off := 62) g (by decide) (by decide) dX0_perform_31 ?_
      refine x_aload_n (pc := 93) g rfl 0 rfl dX0_perform_93 ?_
      refine x_aload_n (pc := 94) g rfl 0 rfl dX0_perform_94 ?_
      refine x_getI (pc := 95) g sh_8 fl_X0_39 rfl dX0_perform_95 ?_
      refine x_iload_n (pc := 98) g rfl 3 rfl dX0_perform_98 ?_
      refine x_iconst (pc := 99) (v := (0 : Int32)) g (by decide) dX0_perform_99 ?_
      refine x_callVI (pc := 100) (As := [.int (siI σ4 8 5), .int a2, .int (0 : Int32)]) g sh_8 (mc_X0_tells N (siI σ4 8 5) a2 (0 : Int32)) cw_X0_tells lk_X0_52 rfl ⟨Nat.le_of_ble_eq_true rfl, Nat.le_of_ble_eq_true rfl⟩ rfl (Nat.le_of_ble_eq_true rfl) dX0_perform_100 (fun v6 σ8 => ?_)
      exact x_ireturn (pc := 103) g hrt dX0_perform_103
    refine x_tabOut (pc := 31) (tgt := 104) g (fun i h1 h2 => ?_) (by decide) dX0_perform_31 ?_
    · rcases (show i = 0 ∨ i = 1 ∨ i = 2 ∨ i = 3 by omega) with rfl | rfl | rfl | rfl
      · exact hs1
      · exact hs2
      · exact hs3
      · exact hs4
    · refine x_iconst (pc := 104) (v := (0 : Int32)) g (by decide) dX0_perform_104 ?_
      exact x_ireturn (pc := 105) g hrt dX0_perform_105
  · refine x_iconst (pc := 13) (v := (0 : Int32)) g (by decide) dX0_perform_13 ?_
    exact x_ireturn (pc := 14) g hrt dX0_perform_14
