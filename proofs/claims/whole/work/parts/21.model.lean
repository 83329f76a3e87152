def F_X10_in (a0 : Int32) (a1 : Int32) (a2 : Int32) (σ0 : Sx) : Option (Int32 × Sx) := (if a0 < a1 then some ((0 : Int32), σ0) else (if a2 < a0 then some ((0 : Int32), σ0) else some ((1 : Int32), σ0)))
set_option maxRecDepth 100000 in
set_option maxHeartbeats 4000000 in
theorem mc_X10_in {D : va_G} {al : Nat → Nat} {cA : Nat → ClassId} {ba : Nat} (a0 : Int32) (a1 : Int32) (a2 : Int32) : MCx D al cA ba yX10_in cX10_in 3 (some .boolean) 0 0 rvI [.int a0, .int a1, .int a2] (F_X10_in a0 a1 a2) := by
  refine MCx_of (by decide +kernel) (Nat.le_of_ble_eq_true rfl) ?_
  intro p l e s m args below meth c σ0 g hrt
  unfold F_X10_in
  refine x_lv (lv' := [(0, .int a0), (1, .int a1), (2, .int a2)]) [0, 1, 2] rfl ?_
  refine x_iload_n (pc := 0) g rfl 0 rfl dX10_in_0 ?_
  refine x_iload_n (pc := 1) g rfl 1 rfl dX10_in_1 ?_
  refine x_icmp_lt (pc := 2) (tgt := 14) g (by decide) dX10_in_2 ?_ ?_
  · refine x_iconst (pc := 14) (v := (0 : Int32)) g (by decide) dX10_in_14 ?_
    exact x_zreturn (pc := 15) g hrt (by decide) dX10_in_15
  · refine x_iload_n (pc := 5) g rfl 0 rfl dX10_in_5 ?_
    refine x_iload_n (pc := 6) g rfl 2 rfl dX10_in_6 ?_
    refine x_icmp_gt (pc := 7) (tgt := 14) g (by decide) dX10_in_7 ?_ ?_
    · refine x_iconst (pc := 14) (v := (0 : Int32)) g (by decide) dX10_in_14 ?_
      exact x_zreturn (pc := 15) g hrt (by decide) dX10_in_15
    · refine x_iconst (pc := 10) (v := (1 : Int32)) g (by decide) dX10_in_10 ?_
      refine x_goto (pc := 11) (tgt := 15) g (by decide) dX10_in_11 ?_
      exact x_zreturn (pc := 15) g hrt (by decide) dX10_in_15
def B_X10_bitsOf_L4 (N : Nat) (r4 : Int32 → Int32 → Sx → Option (Int32 × Sx)) (x1 : Int32) (x2 : Int32) (σ1 : Sx) : Option (Int32 × Sx) := (if x2 = 0 then some (x1, σ1) else nmx ((x2 &&& (x2 - (1 : Int32)))) (fun v1 => r4 (x1 + (1 : Int32)) v1 σ1))
def F_X10_bitsOf (N : Nat) (a0 : Int32) (σ0 : Sx) : Option (Int32 × Sx) := lpx2 (B_X10_bitsOf_L4 N) N (0 : Int32) a0 σ0
set_option maxRecDepth 100000 in
set_option maxHeartbeats 4000000 in
theorem mc_X10_bitsOf {D : va_G} {al : Nat → Nat} {cA : Nat → ClassId} {ba : Nat} (N : Nat) (a0 : Int32) : MCx D al cA ba yX10_bitsOf cX10_bitsOf 3 (some .int) 0 0 rvI [.int a0] (F_X10_bitsOf N a0) := by
  refine MCx_of (by decide +kernel) (Nat.le_of_ble_eq_true rfl) ?_
  intro p l e s m args below meth c σ0 g hrt
  unfold F_X10_bitsOf
  refine x_lv (lv' := [(0, .int a0)]) [0] rfl ?_
  refine x_iconst (pc := 0) (v := (0 : Int32)) g (by decide) dX10_bitsOf_0 ?_
  refine x_istore_n (pc := 1) (lv' := [(1, .int (0 : Int32)), (0, .int a0)]) g rfl (by decide) rfl dX10_bitsOf_1 ?_
  refine x_iload_n (pc := 2) g rfl 1 rfl dX10_bitsOf_2 ?_
  refine x_istore_n (pc := 3) (lv' := [(2, .int a0), (1, .int (0 : Int32)), (0, .int a0)]) g rfl (by decide) rfl dX10_bitsOf_3 ?_
  refine x_lv [1, 0] rfl ?_
  refine lpx2_ind (fun (x1 : Int32) (x2 : Int32) (σ1 : Sx) (K : Option (Int32 × Sx)) => XTx p l e { frames := 0, cells := 0, slots := 0, locals := 0 } s m args below meth c D al cA ba 3 (MQx rvI D al cA ba below args s) 0 0 4 [(1, .int x1), (2, .int x2)] [] σ1 (K)) (fun _ _ _ => x_no) (fun r4 hr4 x1 x2 σ1 => ?_) N (0 : Int32) a0 σ0
  show XTx p l e { frames := 0, cells := 0, slots := 0, locals := 0 } s m args below meth c D al cA ba 3 (MQx rvI D al cA ba below args s) 0 0 4 [(1, .int x1), (2, .int x2)] [] σ1 (B_X10_bitsOf_L4 N r4 x1 x2 σ1)
  unfold B_X10_bitsOf_L4
  refine x_iload_n (pc := 4) g rfl 1 rfl dX10_bitsOf_4 ?_
  refine x_if_eq (pc := 5) (tgt := 20) g (by decide) dX10_bitsOf_5 ?_ ?_
  · refine x_iload_n (pc := 20) g rfl 0 rfl dX10_bitsOf_20 ?_
    exact x_ireturn (pc := 21) g hrt dX10_bitsOf_21
  · refine x_iinc (pc := 8) (v := (x1 + (1 : Int32))) (lv' := [(1, .int (x1 + (1 : Int32))), (2, .int x2)]) g 0 rfl (by rfl) (by decide) rfl dX10_bitsOf_8 ?_
    refine x_iload_n (pc := 11) g rfl 1 rfl dX10_bitsOf_11 ?_
    refine x_iload_n (pc := 12) g rfl 1 rfl dX10_bitsOf_12 ?_
    refine x_iconst (pc := 13) (v := (1 : Int32)) g (by decide) dX10_bitsOf_13 ?_
    refine x_isub (pc := 14) g dX10_bitsOf_14 ?_
    refine x_iand (pc := 15) g dX10_bitsOf_15 ?_
    refine x_nm (fun v1 => ?_)
    refine x_istore_n (pc := 16) (lv' := [(2, .int v1), (1, .int (x1 + (1 : Int32)))]) g rfl (by decide) rfl dX10_bitsOf_16 ?_
    refine x_goto (pc := 17) (tgt := 4) g (by decide) dX10_bitsOf_17 ?_
    refine x_lv [1, 0] rfl ?_
    exact hr4 (x1 + (1 : Int32)) v1 σ1
def F_X10_isWalker (a0 : Int32) (σ0 : Sx) : Option (Int32 × Sx) := clx (F_X10_in a0 (0 : Int32) ((siI σ0 103 1) - (1 : Int32)) σ0) (fun v1 σ1 => rZx v1 σ1)
set_option maxRecDepth 100000 in
set_option maxHeartbeats 4000000 in
theorem mc_X10_isWalker {D : va_G} {al : Nat → Nat} {cA : Nat → ClassId} {ba : Nat} (a0 : Int32) : MCx D al cA ba yX10_isWalker cX10_isWalker 2 (some .boolean) 1 22 rvI [.ref (al 103), .int a0] (F_X10_isWalker a0) := by
  refine MCx_of (by decide +kernel) (Nat.le_of_ble_eq_true rfl) ?_
  intro p l e s m args below meth c σ0 g hrt
  unfold F_X10_isWalker
  refine x_lv (lv' := [(0, .ref (al 103)), (1, .int a0)]) [0, 1] rfl ?_
  refine x_iload_n (pc := 0) g rfl 1 rfl dX10_isWalker_0 ?_
  refine x_iconst (pc := 1) (v := (0 : Int32)) g (by decide) dX10_isWalker_1 ?_
  refine x_aload_n (pc := 2) g rfl 0 rfl dX10_isWalker_2 ?_
  refine x_getI (pc := 3) g sh_103 fl_X10_128 rfl dX10_isWalker_3 ?_
  refine x_iconst (pc := 6) (v := (1 : Int32)) g (by decide) dX10_isWalker_6 ?_
  refine x_isub (pc := 7) g dX10_isWalker_7 ?_
  refine x_callSI (pc := 8) (As := [.int a0, .int (0 : Int32), .int ((siI σ0 103 1) - (1 : Int32))]) g (mc_X10_in a0 (0 : Int32) ((siI σ0 103 1) - (1 : Int32))) cw_X10_in lk_X10_131 rfl ⟨Nat.le_of_ble_eq_true rfl, Nat.le_of_ble_eq_true rfl⟩ rfl (Nat.le_of_ble_eq_true rfl) dX10_isWalker_8 (fun v1 σ1 => ?_)
  exact x_rZ (pc := 11) g hrt dX10_isWalker_11
def F_X10_isPlace (a0 : Int32) (σ0 : Sx) : Option (Int32 × Sx) := clx (F_X10_in a0 (0 : Int32) (7 : Int32) σ0) (fun v1 σ1 => rZx v1 σ1)
set_option maxRecDepth 100000 in
set_option maxHeartbeats 4000000 in
theorem mc_X10_isPlace {D : va_G} {al : Nat → Nat} {cA : Nat → ClassId} {ba : Nat} (a0 : Int32) : MCx D al cA ba yX10_isPlace cX10_isPlace 1 (some .boolean) 1 22 rvI [.int a0] (F_X10_isPlace a0) := by
  refine MCx_of (by decide +kernel) (Nat.le_of_ble_eq_true rfl) ?_
  intro p l e s m args below meth c σ0 g hrt
  unfold F_X10_isPlace
  refine x_lv (lv' := [(0, .int a0)]) [0] rfl ?_
  refine x_iload_n (pc := 0) g rfl 0 rfl dX10_isPlace_0 ?_
  refine x_iconst (pc := 1) (v := (0 : Int32)) g (by decide) dX10_isPlace_1 ?_
  refine x_bipush (pc := 2) (v := (7 : Int32)) g (by decide) dX10_isPlace_2 ?_
  refine x_callSI (pc := 4) (As := [.int a0, .int (0 : Int32), .int (7 : Int32)]) g (mc_X10_in a0 (0 : Int32) (7 : Int32)) cw_X10_in lk_X10_131 rfl ⟨Nat.le_of_ble_eq_true rfl, Nat.le_of_ble_eq_true rfl⟩ rfl (Nat.le_of_ble_eq_true rfl) dX10_isPlace_4 (fun v1 σ1 => ?_)
  exact x_rZ (pc := 7) g hrt dX10_isPlace_7
def F_X10_rowFault (a0 : Int32) (σ0 : Sx) : Option (Int32 × Sx) := aIx 135 6 a0 σ0 (fun v1 => (if v1 = (-1 : Int32) then some ((-11 : Int32), σ0) else aIx 135 6 a0 σ0 (fun v2 => (if v2 = (-2 : Int32) then some ((0 : Int32), σ0) else some ((-12 : Int32), σ0)))))
set_option maxRecDepth 100000 in
set_option maxHeartbeats 4000000 in
theorem mc_X10_rowFault {D : va_G} {al : Nat → Nat} {cA : Nat → ClassId} {ba : Nat} (a0 : Int32) : MCx D al cA ba yX10_rowFault cX10_rowFault 2 (some .int) 0 0 rvI [.ref (al 103), .int a0] (F_X10_rowFault a0) := by
  refine MCx_of (by decide +kernel) (Nat.le_of_ble_eq_true rfl) ?_
  intro p l e s m args below meth c σ0 g hrt
  unfold F_X10_rowFault
  refine x_lv (lv' := [(0, .ref (al 103)), (1, .int a0)]) [0, 1] rfl ?_
  refine x_aload_n (pc := 0) g rfl 0 rfl dX10_rowFault_0 ?_
  refine x_getR (pc := 1) g sh_103 fl_X10_112 rfl dX10_rowFault_1 ?_
  refine x_iload_n (pc := 4) g rfl 1 rfl dX10_rowFault_4 ?_
  refine x_iald (pc := 5) g sh_135 (by decide) dX10_rowFault_5 (fun v1 => ?_)
  refine x_iconst (pc := 6) (v := (-1 : Int32)) g (by decide) dX10_rowFault_6 ?_
  refine x_icmp_ne (pc := 7) (tgt := 15) g (by decide) dX10_rowFault_7 ?_ ?_
  · refine x_aload_n (pc := 15) g rfl 0 rfl dX10_rowFault_15 ?_
    refine x_getR (pc := 16) g sh_103 fl_X10_112 rfl dX10_rowFault_16 ?_
    refine x_iload_n (pc := 19) g rfl 1 rfl dX10_rowFault_19 ?_
    refine x_iald (pc := 20) g sh_135 (by decide) dX10_rowFault_20 (fun v2 => ?_)
    refine x_bipush (pc := 21) (v := (-2 : Int32)) g (by decide) dX10_rowFault_21 ?_
    refine x_icmp_ne (pc := 23) (tgt := 30) g (by decide) dX10_rowFault_23 ?_ ?_
    · refine x_bipush (pc := 30) (v := (-12 : Int32)) g (by decide) dX10_rowFault_30 ?_
      exact x_ireturn (pc := 32) g hrt dX10_rowFault_32
    · refine x_iconst (pc := 26) (v := (0 : Int32)) g (by decide) dX10_rowFault_26 ?_
      refine x_goto (pc := 27) (tgt := 32) g (by decide) dX10_rowFault_27 ?_
      exact x_ireturn (pc := 32) g hrt dX10_rowFault_32
  · refine x_bipush (pc := 10) (v := (-11 : Int32)) g (by decide) dX10_rowFault_10 ?_
    refine x_goto (pc := 12) (tgt := 32) g (by decide) dX10_rowFault_12 ?_
    exact x_ireturn (pc := 32) g hrt dX10_rowFault_32
def F_X10_isIn (a0 : Int32) (σ0 : Sx) : Option (Int32 × Sx) := (if a0 < 0 then some ((0 : Int32), σ0) else clx (F_X10_in (jrem a0 (10 : Int32)) (1 : Int32) (8 : Int32) σ0) (fun v1 σ1 => (if v1 = 0 then some ((0 : Int32), σ1) else some ((1 : Int32), σ1))))
set_option maxRecDepth 100000 in
set_option maxHeartbeats 4000000 in
theorem mc_X10_isIn {D : va_G} {al : Nat → Nat} {cA : Nat → ClassId} {ba : Nat} (a0 : Int32) : MCx D al cA ba yX10_isIn cX10_isIn 1 (some .boolean) 1 22 rvI [.int a0] (F_X10_isIn a0) := by
  refine MCx_of (by decide +kernel) (Nat.le_of_ble_eq_true rfl) ?_
  intro p l e s m args below meth c σ0 g hrt
  unfold F_X10_isIn
  refine x_lv (lv' := [(0, .int a0)]) [0] rfl ?_
  refine x_iload_n (pc := 0) g rfl 0 rfl dX10_isIn_0 ?_
  refine x_if_lt (pc := 1) (tgt := 21) g (by decide) dX10_isIn_1 ?_ ?_
  · refine x_iconst (pc := 21) (v := (0 : Int32)) g (by decide) dX10_isIn_21 ?_
    exact x_zreturn (pc := 22) g hrt (by decide) dX10_isIn_22
  · refine x_iload_n (pc := 4) g rfl 0 rfl dX10_isIn_4 ?_
    refine x_bipush (pc := 5) (v := (10 : Int32)) g (by decide) dX10_isIn_5 ?_
    refine x_irem (pc := 7) g (by decide) dX10_isIn_7 ?_
    refine x_iconst (pc := 8) (v := (1 : Int32)) g (by decide) dX10_isIn_8 ?_
    refine x_bipush (pc := 9) (v := (8 : Int32)) g (by decide) dX10_isIn_9 ?_
    refine x_callSI (pc := 11) (As := [.int (jrem a0 (10 : Int32)), .int (1 : Int32), .int (8 : Int32)]) g (mc_X10_in (jrem a0 (10 : Int32)) (1 : Int32) (8 : Int32)) cw_X10_in lk_X10_131 rfl ⟨Nat.le_of_ble_eq_true rfl, Nat.le_of_ble_eq_true rfl⟩ rfl (Nat.le_of_ble_eq_true rfl) dX10_isIn_11 (fun v1 σ1 => ?_)
    refine x_if_eq (pc := 14) (tgt := 21) g (by decide) dX10_isIn_14 ?_ ?_
    · refine x_iconst (pc := 21) (v := (0 : Int32)) g (by decide) dX10_isIn_21 ?_
      exact x_zreturn (pc := 22) g hrt (by decide) dX10_isIn_22
    · refine x_iconst (pc := 17) (v := (1 : Int32)) g (by decide) dX10_isIn_17 ?_
      refine x_goto (pc := 18) (tgt := 22) g (by decide) dX10_isIn_18 ?_
      exact x_zreturn (pc := 22) g hrt (by decide) dX10_isIn_22
def B_X10_hasWay_L22 (N : Nat) (a0 : Int32) (a1 : Int32) (r22 : Int32 → Sx → Option (Int32 × Sx)) (x1 : Int32) (σ1 : Sx) : Option (Int32 × Sx) := (if (jrem a1 (10 : Int32)) ≤ x1 then some ((1 : Int32), σ1) else aLx 137 360 ((((60 : Int32) * a0) + (a1 / (10 : Int32))) + x1) σ1 (fun z1 => clx (F_X10_isPlace z1.toInt32 σ1) (fun v2 σ2 => (if v2 = 0 then some ((0 : Int32), σ2) else r22 (x1 + (1 : Int32)) σ2))))
def F_X10_hasWay (N : Nat) (a0 : Int32) (a1 : Int32) (σ0 : Sx) : Option (Int32 × Sx) := aIx 136 6 a0 σ0 (fun v1 => (if ((a1 / (10 : Int32)) + (jrem a1 (10 : Int32))) ≤ v1 then lpx1 (B_X10_hasWay_L22 N a0 a1) N (0 : Int32) σ0 else some ((0 : Int32), σ0)))
set_option maxRecDepth 100000 in
set_option maxHeartbeats 4000000 in
theorem mc_X10_hasWay {D : va_G} {al : Nat → Nat} {cA : Nat → ClassId} {ba : Nat} (N : Nat) (a0 : Int32) (a1 : Int32) : MCx D al cA ba yX10_hasWay cX10_hasWay 4 (some .boolean) 2 42 rvI [.ref (al 103), .int a0, .int a1] (F_X10_hasWay N a0 a1) := by
  refine MCx_of (by decide +kernel) (Nat.le_of_ble_eq_true rfl) ?_
  intro p l e s m args below meth c σ0 g hrt
  unfold F_X10_hasWay
  refine x_lv (lv' := [(0, .ref (al 103)), (1, .int a0), (2, .int a1)]) [0, 1, 2] rfl ?_
  refine x_iload_n (pc := 0) g rfl 2 rfl dX10_hasWay_0 ?_
  refine x_bipush (pc := 1) (v := (10 : Int32)) g (by decide) dX10_hasWay_1 ?_
  refine x_idiv (pc := 3) g (by decide) dX10_hasWay_3 ?_
  refine x_iload_n (pc := 4) g rfl 2 rfl dX10_hasWay_4 ?_
  refine x_bipush (pc := 5) (v := (10 : Int32)) g (by decide) dX10_hasWay_5 ?_
  refine x_irem (pc := 7) g (by decide) dX10_hasWay_7 ?_
  refine x_iadd (pc := 8) g dX10_hasWay_8 ?_
  refine x_aload_n (pc := 9) g rfl 0 rfl dX10_hasWay_9 ?_
  refine x_getR (pc := 10) g sh_103 fl_X10_115 rfl dX10_hasWay_10 ?_
  refine x_iload_n (pc := 13) g rfl 1 rfl dX10_hasWay_13 ?_
  refine x_iald (pc := 14) g sh_136 (by decide) dX10_hasWay_14 (fun v1 => ?_)
  refine x_icmp_le (pc := 15) (tgt := 20) g (by decide) dX10_hasWay_15 ?_ ?_
  · refine x_iconst (pc := 20) (v := (0 : Int32)) g (by decide) dX10_hasWay_20 ?_
    refine x_istore_n (pc := 21) (lv' := [(3, .int (0 : Int32)), (0, .ref (al 103)), (1, .int a0), (2, .int a1)]) g rfl (by decide) rfl dX10_hasWay_21 ?_
    refine x_lv [1, 2, 3, 0] rfl ?_
    refine lpx1_ind (fun (x1 : Int32) (σ1 : Sx) (K : Option (Int32 × Sx)) => XTx p l e { frames := 2, cells := 0, slots := 0, locals := 42 } s m args below meth c D al cA ba 4 (MQx rvI D al cA ba below args s) 0 0 22 [(0, .ref (al 103)), (1, .int a0), (2, .int a1), (3, .int x1)] [] σ1 (K)) (fun _ _ => x_no) (fun r22 hr22 x1 σ1 => ?_) N (0 : Int32) σ0
    show XTx p l e { frames := 2, cells := 0, slots := 0, locals := 42 } s m args below meth c D al cA ba 4 (MQx rvI D al cA ba below args s) 0 0 22 [(0, .ref (al 103)), (1, .int a0), (2, .int a1), (3, .int x1)] [] σ1 (B_X10_hasWay_L22 N a0 a1 r22 x1 σ1)
    unfold B_X10_hasWay_L22
    refine x_iload_n (pc := 22) g rfl 3 rfl dX10_hasWay_22 ?_
    refine x_iload_n (pc := 23) g rfl 2 rfl dX10_hasWay_23 ?_
    refine x_bipush (pc := 24) (v := (10 : Int32)) g (by decide) dX10_hasWay_24 ?_
    refine x_irem (pc := 26) g (by decide) dX10_hasWay_26 ?_
    refine x_icmp_ge (pc := 27) (tgt := 61) g (by decide) dX10_hasWay_27 ?_ ?_
    · refine x_iconst (pc := 61) (v := (1 : Int32)) g (by decide) dX10_hasWay_61 ?_
      exact x_zreturn (pc := 62) g hrt (by decide) dX10_hasWay_62
    · refine x_aload_n (pc := 30) g rfl 0 rfl dX10_hasWay_30 ?_
      refine x_getR (pc := 31) g sh_103 fl_X10_118 rfl dX10_hasWay_31 ?_
      refine x_bipush (pc := 34) (v := (60 : Int32)) g (by decide) dX10_hasWay_34 ?_
      refine x_iload_n (pc := 36) g rfl 1 rfl dX10_hasWay_36 ?_
      refine x_imul (pc := 37) g dX10_hasWay_37 ?_
      refine x_iload_n (pc := 38) g rfl 2 rfl dX10_hasWay_38 ?_
      refine x_bipush (pc := 39) (v := (10 : Int32)) g (by decide) dX10_hasWay_39 ?_
      refine x_idiv (pc := 41) g (by decide) dX10_hasWay_41 ?_
      refine x_iadd (pc := 42) g dX10_hasWay_42 ?_
      refine x_iload_n (pc := 43) g rfl 3 rfl dX10_hasWay_43 ?_
      refine x_iadd (pc := 44) g dX10_hasWay_44 ?_
      refine x_lald (pc := 45) g sh_137 (by decide) dX10_hasWay_45 (fun z1 => ?_)
      refine x_l2i (pc := 46) g dX10_hasWay_46 ?_
      refine x_callSI (pc := 47) (As := [.int z1.toInt32]) g (mc_X10_isPlace z1.toInt32) cw_X10_isPlace lk_X10_135 rfl ⟨Nat.le_of_ble_eq_true rfl, Nat.le_of_ble_eq_true rfl⟩ rfl (Nat.le_of_ble_eq_true rfl) dX10_hasWay_47 (fun v2 σ2 => ?_)
      refine x_if_ne (pc := 50) (tgt := 55) g (by decide) dX10_hasWay_50 ?_ ?_
      · refine x_iinc (pc := 55) (v := (x1 + (1 : Int32))) (lv' := [(3, .int (x1 + (1 : Int32))), (0, .ref (al 103)), (1, .int a0), (2, .int a1)]) g 3 rfl (by rfl) (by decide) rfl dX10_hasWay_55 ?_
        refine x_goto (pc := 58) (tgt := 22) g (by decide) dX10_hasWay_58 ?_
        refine x_lv [1, 2, 3, 0] rfl ?_
        exact hr22 (x1 + (1 : Int32)) σ2
      · refine x_iconst (pc := 53) (v := (0 : Int32)) g (by decide) dX10_hasWay_53 ?_
        exact x_zreturn (pc := 54) g hrt (by decide) dX10_hasWay_54
  · refine x_iconst (pc := 18) (v := (0 : Int32)) g (by decide) dX10_hasWay_18 ?_
    exact x_zreturn (pc := 19) g hrt (by decide) dX10_hasWay_19
def B_X10_addWay_L26 (N : Nat) (a0 : Int32) (a1 : Int32) (a2 : Int32) (v1 : Int32) (j77 : Sx → Option (Int32 × Sx)) (r26 : Int32 → Sx → Option (Int32 × Sx)) (x1 : Int32) (σ4 : Sx) : Option (Int32 × Sx) := (if (jrem a2 (10 : Int32)) ≤ x1 then j77 σ4 else aLx 137 360 ((((60 : Int32) * a1) + (a2 / (10 : Int32))) + x1) σ4 (fun z1 => sIx 109 160 ((((32 : Int32) * a0) + ((8 : Int32) * v1)) + x1) z1.toInt32 σ4 (fun σ5 => r26 (x1 + (1 : Int32)) σ5)))
def F_X10_addWay (N : Nat) (a0 : Int32) (a1 : Int32) (a2 : Int32) (σ0 : Sx) : Option (Int32 × Sx) := aIx 107 5 a0 σ0 (fun v1 => sIx 108 20 (((4 : Int32) * a0) + v1) (jrem a2 (10 : Int32)) σ0 (fun σ1 => nmx (fun (σ2 : Sx) => aIx 107 5 a0 σ2 (fun v2 => sIx 107 5 a0 (v2 + (1 : Int32)) σ2 (fun σ3 => some (v1, σ3)))) (fun (j77 : Sx → Option (Int32 × Sx)) => lpx1 (B_X10_addWay_L26 N a0 a1 a2 v1 j77) N (0 : Int32) σ1)))
set_option maxRecDepth 100000 in
set_option maxHeartbeats 4000000 in
theorem mc_X10_addWay {D : va_G} {al : Nat → Nat} {cA : Nat → ClassId} {ba : Nat} (N : Nat) (a0 : Int32) (a1 : Int32) (a2 : Int32) : MCx D al cA ba yX10_addWay cX10_addWay 6 (some .int) 0 0 rvI [.ref (al 103), .int a0, .int a1, .int a2] (F_X10_addWay N a0 a1 a2) := by
  refine MCx_of (by decide +kernel) (Nat.le_of_ble_eq_true rfl) ?_
  intro p l e s m args below meth c σ0 g hrt
  unfold F_X10_addWay
  refine x_lv (lv' := [(0, .ref (al 103)), (1, .int a0), (2, .int a1), (3, .int a2)]) [0, 1, 2, 3] rfl ?_
  refine x_aload_n (pc := 0) g rfl 0 rfl dX10_addWay_0 ?_
  refine x_getR (pc := 1) g sh_103 fl_X10_19 rfl dX10_addWay_1 ?_
  refine x_iload_n (pc := 4) g rfl 1 rfl dX10_addWay_4 ?_
  refine x_iald (pc := 5) g sh_107 (by decide) dX10_addWay_5 (fun v1 => ?_)
  refine x_istore (pc := 6) (lv' := [(4, .int v1), (0, .ref (al 103)), (1, .int a0), (2, .int a1), (3, .int a2)]) g (by decide) rfl dX10_addWay_6 ?_
  refine x_aload_n (pc := 8) g rfl 1 rfl dX10_addWay_8 ?_
  refine x_getR (pc := 9) g sh_103 fl_X10_22 rfl dX10_addWay_9 ?_
  refine x_iconst (pc := 12) (v := (4 : Int32)) g (by decide) dX10_addWay_12 ?_
  refine x_iload_n (pc := 13) g rfl 2 rfl dX10_addWay_13 ?_
  refine x_imul (pc := 14) g dX10_addWay_14 ?_
  refine x_iload (pc := 15) g 0 rfl dX10_addWay_15 ?_
  refine x_iadd (pc := 17) g dX10_addWay_17 ?_
  refine x_iload_n (pc := 18) g rfl 4 rfl dX10_addWay_18 ?_
  refine x_bipush (pc := 19) (v := (10 : Int32)) g (by decide) dX10_addWay_19 ?_
  refine x_irem (pc := 21) g (by decide) dX10_addWay_21 ?_
  refine x_iast (pc := 22) g sh_108 (by decide) dX10_addWay_22 (fun σ1 => ?_)
  refine x_iconst (pc := 23) (v := (0 : Int32)) g (by decide) dX10_addWay_23 ?_
  refine x_istore (pc := 24) (lv' := [(5, .int (0 : Int32)), (4, .int v1), (0, .ref (al 103)), (1, .int a0), (2, .int a1), (3, .int a2)]) g (by decide) rfl dX10_addWay_24 ?_
  refine x_jn (fun (j77 : Sx → Option (Int32 × Sx)) => ∀ (σ2 : Sx), XTx p l e { frames := 0, cells := 0, slots := 0, locals := 0 } s m args below meth c D al cA ba 6 (MQx rvI D al cA ba below args s) 0 0 77 [(0, .ref (al 103)), (1, .int a0), (4, .int v1)] [] σ2 (j77 σ2)) (fun σ2 => ?_) (fun j77 hj77 => ?_)
  · refine x_aload_n (pc := 77) g rfl 0 rfl dX10_addWay_77 ?_
    refine x_getR (pc := 78) g sh_103 fl_X10_19 rfl dX10_addWay_78 ?_
    refine x_iload_n (pc := 81) g rfl 1 rfl dX10_addWay_81 ?_
    refine x_dup2 (pc := 82) g rfl rfl dX10_addWay_82 ?_
    refine x_iald (pc := 83) g sh_107 (by decide) dX10_addWay_83 (fun v2 => ?_)
    refine x_iconst (pc := 84) (v := (1 : Int32)) g (by decide) dX10_addWay_84 ?_
    refine x_iadd (pc := 85) g dX10_addWay_85 ?_
    refine x_iast (pc := 86) g sh_107 (by decide) dX10_addWay_86 (fun σ3 => ?_)
    refine x_iload (pc := 87) g 2 rfl dX10_addWay_87 ?_
    exact x_ireturn (pc := 89) g hrt dX10_addWay_89
  · refine x_lv [2, 3, 4, 5, 1, 0] rfl ?_
    refine lpx1_ind (fun (x1 : Int32) (σ4 : Sx) (K : Option (Int32 × Sx)) => XTx p l e { frames := 0, cells := 0, slots := 0, locals := 0 } s m args below meth c D al cA ba 6 (MQx rvI D al cA ba below args s) 0 0 26 [(0, .ref (al 103)), (1, .int a0), (2, .int a1), (3, .int a2), (4, .int v1), (5, .int x1)] [] σ4 (K)) (fun _ _ => x_no) (fun r26 hr26 x1 σ4 => ?_) N (0 : Int32) σ1
    show XTx p l e { frames := 0, cells := 0, slots := 0, locals := 0 } s m args below meth c D al cA ba 6 (MQx rvI D al cA ba below args s) 0 0 26 [(0, .ref (al 103)), (1, .int a0), (2, .int a1), (3, .int a2), (4, .int v1), (5, .int x1)] [] σ4 (B_X10_addWay_L26 N a0 a1 a2 v1 j77 r26 x1 σ4)
    unfold B_X10_addWay_L26
    refine x_iload (pc := 26) g 5 rfl dX10_addWay_26 ?_
    refine x_iload_n (pc := 28) g rfl 3 rfl dX10_addWay_28 ?_
    refine x_bipush (pc := 29) (v := (10 : Int32)) g (by decide) dX10_addWay_29 ?_
    refine x_irem (pc := 31) g (by decide) dX10_addWay_31 ?_
    refine x_icmp_ge (pc := 32) (tgt := 77) g (by decide) dX10_addWay_32 ?_ ?_
    · refine x_lv [0, 1, 4] rfl ?_
      exact hj77 σ4
    · refine x_aload_n (pc := 35) g rfl 0 rfl dX10_addWay_35 ?_
      refine x_getR (pc := 36) g sh_103 fl_X10_25 rfl dX10_addWay_36 ?_
      refine x_bipush (pc := 39) (v := (32 : Int32)) g (by decide) dX10_addWay_39 ?_
      refine x_iload_n (pc := 41) g rfl 1 rfl dX10_addWay_41 ?_
      refine x_imul (pc := 42) g dX10_addWay_42 ?_
      refine x_bipush (pc := 43) (v := (8 : Int32)) g (by decide) dX10_addWay_43 ?_
      refine x_iload (pc := 45) g 4 rfl dX10_addWay_45 ?_
      refine x_imul (pc := 47) g dX10_addWay_47 ?_
      refine x_iadd (pc := 48) g dX10_addWay_48 ?_
      refine x_iload (pc := 49) g 5 rfl dX10_addWay_49 ?_
      refine x_iadd (pc := 51) g dX10_addWay_51 ?_
      refine x_aload_n (pc := 52) g rfl 0 rfl dX10_addWay_52 ?_
      refine x_getR (pc := 53) g sh_103 fl_X10_118 rfl dX10_addWay_53 ?_
      refine x_bipush (pc := 56) (v := (60 : Int32)) g (by decide) dX10_addWay_56 ?_
      refine x_iload_n (pc := 58) g rfl 2 rfl dX10_addWay_58 ?_
      refine x_imul (pc := 59) g dX10_addWay_59 ?_
      refine x_iload_n (pc := 60) g rfl 3 rfl dX10_addWay_60 ?_
      refine x_bipush (pc := 61) (v := (10 : Int32)) g (by decide) dX10_addWay_61 ?_
      refine x_idiv (pc := 63) g (by decide) dX10_addWay_63 ?_
      refine x_iadd (pc := 64) g dX10_addWay_64 ?_
      refine x_iload (pc := 65) g 5 rfl dX10_addWay_65 ?_
      refine x_iadd (pc := 67) g dX10_addWay_67 ?_
      refine x_lald (pc := 68) g sh_137 (by decide) dX10_addWay_68 (fun z1 => ?_)
      refine x_l2i (pc := 69) g dX10_addWay_69 ?_
      refine x_iast (pc := 70) g sh_109 (by decide) dX10_addWay_70 (fun σ5 => ?_)
      refine x_iinc (pc := 71) (v := (x1 + (1 : Int32))) (lv' := [(5, .int (x1 + (1 : Int32))), (0, .ref (al 103)), (1, .int a0), (2, .int a1), (3, .int a2), (4, .int v1)]) g 5 rfl (by rfl) (by decide) rfl dX10_addWay_71 ?_
      refine x_goto (pc := 74) (tgt := 26) g (by decide) dX10_addWay_74 ?_
      refine x_lv [1, 2, 3, 4, 5, 0] rfl ?_
      exact hr26 (x1 + (1 : Int32)) σ5
def F_X10_isShelf (a0 : Int32) (σ0 : Sx) : Option (Int32 × Sx) := clx (F_X10_in a0 (0 : Int32) (5 : Int32) σ0) (fun v1 σ1 => rZx v1 σ1)
set_option maxRecDepth 100000 in
set_option maxHeartbeats 4000000 in
theorem mc_X10_isShelf {D : va_G} {al : Nat → Nat} {cA : Nat → ClassId} {ba : Nat} (a0 : Int32) : MCx D al cA ba yX10_isShelf cX10_isShelf 1 (some .boolean) 1 22 rvI [.int a0] (F_X10_isShelf a0) := by
  refine MCx_of (by decide +kernel) (Nat.le_of_ble_eq_true rfl) ?_
  intro p l e s m args below meth c σ0 g hrt
  unfold F_X10_isShelf
  refine x_lv (lv' := [(0, .int a0)]) [0] rfl ?_
  refine x_iload_n (pc := 0) g rfl 0 rfl dX10_isShelf_0 ?_
  refine x_iconst (pc := 1) (v := (0 : Int32)) g (by decide) dX10_isShelf_1 ?_
  refine x_iconst (pc := 2) (v := (5 : Int32)) g (by decide) dX10_isShelf_2 ?_
  refine x_callSI (pc := 3) (As := [.int a0, .int (0 : Int32), .int (5 : Int32)]) g (mc_X10_in a0 (0 : Int32) (5 : Int32)) cw_X10_in lk_X10_131 rfl ⟨Nat.le_of_ble_eq_true rfl, Nat.le_of_ble_eq_true rfl⟩ rfl (Nat.le_of_ble_eq_true rfl) dX10_isShelf_3 (fun v1 σ1 => ?_)
  exact x_rZ (pc := 6) g hrt dX10_isShelf_6
def F_X10_walker (N : Nat) (a0 : Int32) (a1 : Int32) (σ0 : Sx) : Option (Int32 × Sx) := clx (F_X10_isShelf a0 σ0) (fun v1 σ1 => (if v1 = 0 then some ((-1 : Int32), σ1) else clx (F_X10_isIn a1 σ1) (fun v2 σ2 => (if v2 = 0 then some ((-1 : Int32), σ2) else clx (F_X10_rowFault a0 σ2) (fun v3 σ3 => (if 0 ≤ v3 then clx (F_X10_hasWay N a0 a1 σ3) (fun v4 σ4 => (if v4 = 0 then some ((-1 : Int32), σ4) else (if (siI σ4 103 1) = (5 : Int32) then some ((-3 : Int32), σ4) else sIx 104 5 (siI σ4 103 1) (10 : Int32) σ4 (fun σ5 => sIx 105 5 (siI σ5 103 1) (0 : Int32) σ5 (fun σ6 => sIx 106 5 (siI σ6 103 1) (10 : Int32) σ6 (fun σ7 => sIx 107 5 (siI σ7 103 1) (0 : Int32) σ7 (fun σ8 => clx (F_X10_addWay N (siI σ8 103 1) a0 a1 σ8) (fun v5 σ9 => pIx 103 1 ((siI σ9 103 1) + (1 : Int32)) σ9 (fun σ10 => some (((siI σ10 103 1) - (1 : Int32)), σ10)))))))))) else clx (F_X10_rowFault a0 σ3) (fun v6 σ11 => some (v6, σ11))))))))
set_option maxRecDepth 100000 in
set_option maxHeartbeats 4000000 in
theorem mc_X10_walker {D : va_G} {al : Nat → Nat} {cA : Nat → ClassId} {ba : Nat} (N : Nat) (a0 : Int32) (a1 : Int32) : MCx D al cA ba yX10_walker cX10_walker 3 (some .int) 3 65 rvI [.ref (al 103), .int a0, .int a1] (F_X10_walker N a0 a1) := by
  refine MCx_of (by decide +kernel) (Nat.le_of_ble_eq_true rfl) ?_
  intro p l e s m args below meth c σ0 g hrt
  unfold F_X10_walker
  refine x_lv (lv' := [(0, .ref (al 103)), (1, .int a0), (2, .int a1)]) [0, 1, 2] rfl ?_
  refine x_iload_n (pc := 0) g rfl 1 rfl dX10_walker_0 ?_
  refine x_callSI (pc := 1) (As := [.int a0]) g (mc_X10_isShelf a0) cw_X10_isShelf lk_X10_139 rfl ⟨Nat.le_of_ble_eq_true rfl, Nat.le_of_ble_eq_true rfl⟩ rfl (Nat.le_of_ble_eq_true rfl) dX10_walker_1 (fun v1 σ1 => ?_)
  refine x_if_eq (pc := 4) (tgt := 14) g (by decide) dX10_walker_4 ?_ ?_
  · refine x_iconst (pc := 14) (v := (-1 : Int32)) g (by decide) dX10_walker_14 ?_
    exact x_ireturn (pc := 15) g hrt dX10_walker_15
  · refine x_iload_n (pc := 7) g rfl 2 rfl dX10_walker_7 ?_
    refine x_callSI (pc := 8) (As := [.int a1]) g (mc_X10_isIn a1) cw_X10_isIn lk_X10_142 rfl ⟨Nat.le_of_ble_eq_true rfl, Nat.le_of_ble_eq_true rfl⟩ rfl (Nat.le_of_ble_eq_true rfl) dX10_walker_8 (fun v2 σ2 => ?_)
    refine x_if_ne (pc := 11) (tgt := 16) g (by decide) dX10_walker_11 ?_ ?_
    · refine x_aload_n (pc := 16) g rfl 0 rfl dX10_walker_16 ?_
      refine x_iload_n (pc := 17) g rfl 1 rfl dX10_walker_17 ?_
      refine x_callVI (pc := 18) (As := [.int a0]) g sh_103 (mc_X10_rowFault a0) cw_X10_rowFault lk_X10_145 rfl ⟨Nat.le_of_ble_eq_true rfl, Nat.le_of_ble_eq_true rfl⟩ rfl (Nat.le_of_ble_eq_true rfl) dX10_walker_18 (fun v3 σ3 => ?_)
      refine x_if_ge (pc := 21) (tgt := 30) g (by decide) dX10_walker_21 ?_ ?_
      · refine x_aload_n (pc := 30) g rfl 0 rfl dX10_walker_30 ?_
        refine x_iload_n (pc := 31) g rfl 1 rfl dX10_walker_31 ?_
        refine x_iload_n (pc := 32) g rfl 2 rfl dX10_walker_32 ?_
        refine x_callVI (pc := 33) (As := [.int a0, .int a1]) g sh_103 (mc_X10_hasWay N a0 a1) cw_X10_hasWay lk_X10_149 rfl ⟨Nat.le_of_ble_eq_true rfl, Nat.le_of_ble_eq_true rfl⟩ rfl (Nat.le_of_ble_eq_true rfl) dX10_walker_33 (fun v4 σ4 => ?_)
        refine x_if_ne (pc := 36) (tgt := 41) g (by decide) dX10_walker_36 ?_ ?_
        · refine x_aload_n (pc := 41) g rfl 0 rfl dX10_walker_41 ?_
          refine x_getI (pc := 42) g sh_103 fl_X10_128 rfl dX10_walker_42 ?_
          refine x_iconst (pc := 45) (v := (5 : Int32)) g (by decide) dX10_walker_45 ?_
          refine x_icmp_ne (pc := 46) (tgt := 52) g (by decide) dX10_walker_46 ?_ ?_
          · refine x_aload_n (pc := 52) g rfl 0 rfl dX10_walker_52 ?_
            refine x_getR (pc := 53) g sh_103 fl_X10_7 rfl dX10_walker_53 ?_
            refine x_aload_n (pc := 56) g rfl 0 rfl dX10_walker_56 ?_
            refine x_getI (pc := 57) g sh_103 fl_X10_128 rfl dX10_walker_57 ?_
            refine x_bipush (pc := 60) (v := (10 : Int32)) g (by decide) dX10_walker_60 ?_
            refine x_iast (pc := 62) g sh_104 (by decide) dX10_walker_62 (fun σ5 => ?_)
            refine x_aload_n (pc := 63) g rfl 0 rfl dX10_walker_63 ?_
            refine x_getR (pc := 64) g sh_103 fl_X10_13 rfl dX10_walker_64 ?_
            refine x_aload_n (pc := 67) g rfl 0 rfl dX10_walker_67 ?_
            refine x_getI (pc := 68) g sh_103 fl_X10_128 rfl dX10_walker_68 ?_
            refine x_iconst (pc := 71) (v := (0 : Int32)) g (by decide) dX10_walker_71 ?_
            refine x_iast (pc := 72) g sh_105 (by decide) dX10_walker_72 (fun σ6 => ?_)
            refine x_aload_n (pc := 73) g rfl 0 rfl dX10_walker_73 ?_
            refine x_getR (pc := 74) g sh_103 fl_X10_16 rfl dX10_walker_74 ?_
            refine x_aload_n (pc := 77) g rfl 0 rfl dX10_walker_77 ?_
            refine x_getI (pc := 78) g sh_103 fl_X10_128 rfl dX10_walker_78 ?_
            refine x_bipush (pc := 81) (v := (10 : Int32)) g (by decide) dX10_walker_81 ?_
            refine x_iast (pc := 83) g sh_106 (by decide) dX10_walker_83 (fun σ7 => ?_)
            refine x_aload_n (pc := 84) g rfl 0 rfl dX10_walker_84 ?_
            refine x_getR (pc := 85) g sh_103 fl_X10_19 rfl dX10_walker_85 ?_
            refine x_aload_n (pc := 88) g rfl 0 rfl dX10_walker_88 ?_
            refine x_getI (pc := 89) g sh_103 fl_X10_128 rfl dX10_walker_89 ?_
            refine x_iconst (pc := 92) (v := (0 : Int32)) g (by decide) dX10_walker_92 ?_
            refine x_iast (pc := 93) g sh_107 (by decide) dX10_walker_93 (fun σ8 => ?_)
            refine x_aload_n (pc := 94) g rfl 0 rfl dX10_walker_94 ?_
            refine x_aload_n (pc := 95) g rfl 0 rfl dX10_walker_95 ?_
            refine x_getI (pc := 96) g sh_103 fl_X10_128 rfl dX10_walker_96 ?_
            refine x_iload_n (pc := 99) g rfl 1 rfl dX10_walker_99 ?_
            refine x_iload_n (pc := 100) g rfl 2 rfl dX10_walker_100 ?_
            refine x_callVI (pc := 101) (As := [.int (siI σ8 103 1), .int a0, .int a1]) g sh_103 (mc_X10_addWay N (siI σ8 103 1) a0 a1) cw_X10_addWay lk_X10_153 rfl ⟨Nat.le_of_ble_eq_true rfl, Nat.le_of_ble_eq_true rfl⟩ rfl (Nat.le_of_ble_eq_true rfl) dX10_walker_101 (fun v5 σ9 => ?_)
            refine x_pop (pc := 104) g rfl dX10_walker_104 ?_
            refine x_aload_n (pc := 105) g rfl 0 rfl dX10_walker_105 ?_
            refine x_dup (pc := 106) g rfl dX10_walker_106 ?_
            refine x_getI (pc := 107) g sh_103 fl_X10_128 rfl dX10_walker_107 ?_
            refine x_iconst (pc := 110) (v := (1 : Int32)) g (by decide) dX10_walker_110 ?_
            refine x_iadd (pc := 111) g dX10_walker_111 ?_
            refine x_putI (pc := 112) g sh_103 fl_X10_128 rfl dX10_walker_112 (fun σ10 => ?_)
            refine x_aload_n (pc := 115) g rfl 0 rfl dX10_walker_115 ?_
            refine x_getI (pc := 116) g sh_103 fl_X10_128 rfl dX10_walker_116 ?_
            refine x_iconst (pc := 119) (v := (1 : Int32)) g (by decide) dX10_walker_119 ?_
            refine x_isub (pc := 120) g dX10_walker_120 ?_
            exact x_ireturn (pc := 121) g hrt dX10_walker_121
          · refine x_bipush (pc := 49) (v := (-3 : Int32)) g (by decide) dX10_walker_49 ?_
            exact x_ireturn (pc := 51) g hrt dX10_walker_51
        · refine x_iconst (pc := 39) (v := (-1 : Int32)) g (by decide) dX10_walker_39 ?_
          exact x_ireturn (pc := 40) g hrt dX10_walker_40
      · refine x_aload_n (pc := 24) g rfl 0 rfl dX10_walker_24 ?_
        refine x_iload_n (pc := 25) g rfl 1 rfl dX10_walker_25 ?_
        refine x_callVI (pc := 26) (As := [.int a0]) g sh_103 (mc_X10_rowFault a0) cw_X10_rowFault lk_X10_145 rfl ⟨Nat.le_of_ble_eq_true rfl, Nat.le_of_ble_eq_true rfl⟩ rfl (Nat.le_of_ble_eq_true rfl) dX10_walker_26 (fun v6 σ11 => ?_)
        exact x_ireturn (pc := 29) g hrt dX10_walker_29
    · refine x_iconst (pc := 14) (v := (-1 : Int32)) g (by decide) dX10_walker_14 ?_
      exact x_ireturn (pc := 15) g hrt dX10_walker_15
def F_X10_way (N : Nat) (a0 : Int32) (a1 : Int32) (a2 : Int32) (σ0 : Sx) : Option (Int32 × Sx) := clx (F_X10_isWalker a0 σ0) (fun v1 σ1 => (if v1 = 0 then some ((-1 : Int32), σ1) else clx (F_X10_isShelf a1 σ1) (fun v2 σ2 => (if v2 = 0 then some ((-1 : Int32), σ2) else clx (F_X10_isIn a2 σ2) (fun v3 σ3 => (if v3 = 0 then some ((-1 : Int32), σ3) else clx (F_X10_rowFault a1 σ3) (fun v4 σ4 => (if 0 ≤ v4 then clx (F_X10_hasWay N a1 a2 σ4) (fun v5 σ5 => (if v5 = 0 then some ((-1 : Int32), σ5) else aIx 107 5 a0 σ5 (fun v6 => (if v6 = (4 : Int32) then some ((-3 : Int32), σ5) else clx (F_X10_addWay N a0 a1 a2 σ5) (fun v7 σ6 => some (v7, σ6)))))) else clx (F_X10_rowFault a1 σ4) (fun v8 σ7 => some (v8, σ7))))))))))
set_option maxRecDepth 100000 in
set_option maxHeartbeats 4000000 in
theorem mc_X10_way {D : va_G} {al : Nat → Nat} {cA : Nat → ClassId} {ba : Nat} (N : Nat) (a0 : Int32) (a1 : Int32) (a2 : Int32) : MCx D al cA ba yX10_way cX10_way 4 (some .int) 3 65 rvI [.ref (al 103), .int a0, .int a1, .int a2] (F_X10_way N a0 a1 a2) := by
  refine MCx_of (by decide +kernel) (Nat.le_of_ble_eq_true rfl) ?_
  intro p l e s m args below meth c σ0 g hrt
  unfold F_X10_way
  refine x_lv (lv' := [(0, .ref (al 103)), (1, .int a0), (2, .int a1), (3, .int a2)]) [0, 1, 2, 3] rfl ?_
  refine x_aload_n (pc := 0) g rfl 0 rfl dX10_way_0 ?_
  refine x_iload_n (pc := 1) g rfl 1 rfl dX10_way_1 ?_
  refine x_callVI (pc := 2) (As := [.int a0]) g sh_103 (mc_X10_isWalker a0) cw_X10_isWalker lk_X10_157 rfl ⟨Nat.le_of_ble_eq_true rfl, Nat.le_of_ble_eq_true rfl⟩ rfl (Nat.le_of_ble_eq_true rfl) dX10_way_2 (fun v1 σ1 => ?_)
  refine x_if_eq (pc := 5) (tgt := 22) g (by decide) dX10_way_5 ?_ ?_
  · refine x_iconst (pc := 22) (v := (-1 : Int32)) g (by decide) dX10_way_22 ?_
    exact x_ireturn (pc := 23) g hrt dX10_way_23
  · refine x_iload_n (pc := 8) g rfl 2 rfl dX10_way_8 ?_
    refine x_callSI (pc := 9) (As := [.int a1]) g (mc_X10_isShelf a1) cw_X10_isShelf lk_X10_139 rfl ⟨Nat.le_of_ble_eq_true rfl, Nat.le_of_ble_eq_true rfl⟩ rfl (Nat.le_of_ble_eq_true rfl) dX10_way_9 (fun v2 σ2 => ?_)
    refine x_if_eq (pc := 12) (tgt := 22) g (by decide) dX10_way_12 ?_ ?_
    · refine x_iconst (pc := 22) (v := (-1 : Int32)) g (by decide) dX10_way_22 ?_
      exact x_ireturn (pc := 23) g hrt dX10_way_23
    · refine x_iload_n (pc := 15) g rfl 3 rfl dX10_way_15 ?_
      refine x_callSI (pc := 16) (As := [.int a2]) g (mc_X10_isIn a2) cw_X10_isIn lk_X10_142 rfl ⟨Nat.le_of_ble_eq_true rfl, Nat.le_of_ble_eq_true rfl⟩ rfl (Nat.le_of_ble_eq_true rfl) dX10_way_16 (fun v3 σ3 => ?_)
      refine x_if_ne (pc := 19) (tgt := 24) g (by decide) dX10_way_19 ?_ ?_
      · refine x_aload_n (pc := 24) g rfl 0 rfl dX10_way_24 ?_
        refine x_iload_n (pc := 25) g rfl 2 rfl dX10_way_25 ?_
        refine x_callVI (pc := 26) (As := [.int a1]) g sh_103 (mc_X10_rowFault a1) cw_X10_rowFault lk_X10_145 rfl ⟨Nat.le_of_ble_eq_true rfl, Nat.le_of_ble_eq_true rfl⟩ rfl (Nat.le_of_ble_eq_true rfl) dX10_way_26 (fun v4 σ4 => ?_)
        refine x_if_ge (pc := 29) (tgt := 38) g (by decide) dX10_way_29 ?_ ?_
        · refine x_aload_n (pc := 38) g rfl 0 rfl dX10_way_38 ?_
          refine x_iload_n (pc := 39) g rfl 2 rfl dX10_way_39 ?_
          refine x_iload_n (pc := 40) g rfl 3 rfl dX10_way_40 ?_
          refine x_callVI (pc := 41) (As := [.int a1, .int a2]) g sh_103 (mc_X10_hasWay N a1 a2) cw_X10_hasWay lk_X10_149 rfl ⟨Nat.le_of_ble_eq_true rfl, Nat.le_of_ble_eq_true rfl⟩ rfl (Nat.le_of_ble_eq_true rfl) dX10_way_41 (fun v5 σ5 => ?_)
          refine x_if_ne (pc := 44) (tgt := 49) g (by decide) dX10_way_44 ?_ ?_
          · refine x_aload_n (pc := 49) g rfl 0 rfl dX10_way_49 ?_
            refine x_getR (pc := 50) g sh_103 fl_X10_19 rfl dX10_way_50 ?_
            refine x_iload_n (pc := 53) g rfl 1 rfl dX10_way_53 ?_
            refine x_iald (pc := 54) g sh_107 (by decide) dX10_way_54 (fun v6 => ?_)
            refine x_iconst (pc := 55) (v := (4 : Int32)) g (by decide) dX10_way_55 ?_
            refine x_icmp_ne (pc := 56) (tgt := 64) g (by decide) dX10_way_56 ?_ ?_
            · refine x_aload_n (pc := 64) g rfl 0 rfl dX10_way_64 ?_
              refine x_iload_n (pc := 65) g rfl 1 rfl dX10_way_65 ?_
              refine x_iload_n (pc := 66) g rfl 2 rfl dX10_way_66 ?_
              refine x_iload_n (pc := 67) g rfl 3 rfl dX10_way_67 ?_
              refine x_callVI (pc := 68) (As := [.int a0, .int a1, .int a2]) g sh_103 (mc_X10_addWay N a0 a1 a2) cw_X10_addWay lk_X10_153 rfl ⟨Nat.le_of_ble_eq_true rfl, Nat.le_of_ble_eq_true rfl⟩ rfl (Nat.le_of_ble_eq_true rfl) dX10_way_68 (fun v7 σ6 => ?_)
              exact x_ireturn (pc := 71) g hrt dX10_way_71
            · refine x_bipush (pc := 59) (v := (-3 : Int32)) g (by decide) dX10_way_59 ?_
              refine x_goto (pc := 61) (tgt := 71) g (by decide) dX10_way_61 ?_
              exact x_ireturn (pc := 71) g hrt dX10_way_71
          · refine x_iconst (pc := 47) (v := (-1 : Int32)) g (by decide) dX10_way_47 ?_
            exact x_ireturn (pc := 48) g hrt dX10_way_48
        · refine x_aload_n (pc := 32) g rfl 0 rfl dX10_way_32 ?_
          refine x_iload_n (pc := 33) g rfl 2 rfl dX10_way_33 ?_
          refine x_callVI (pc := 34) (As := [.int a1]) g sh_103 (mc_X10_rowFault a1) cw_X10_rowFault lk_X10_145 rfl ⟨Nat.le_of_ble_eq_true rfl, Nat.le_of_ble_eq_true rfl⟩ rfl (Nat.le_of_ble_eq_true rfl) dX10_way_34 (fun v8 σ7 => ?_)
          exact x_ireturn (pc := 37) g hrt dX10_way_37
      · refine x_iconst (pc := 22) (v := (-1 : Int32)) g (by decide) dX10_way_22 ?_
        exact x_ireturn (pc := 23) g hrt dX10_way_23
def F_X10_spotAt (a0 : Int32) (σ0 : Sx) : Option (Int32 × Sx) := some ((((8 : Int32) * (a0 / (10 : Int32))) + (jrem a0 (10 : Int32))), σ0)
set_option maxRecDepth 100000 in
set_option maxHeartbeats 4000000 in
theorem mc_X10_spotAt {D : va_G} {al : Nat → Nat} {cA : Nat → ClassId} {ba : Nat} (a0 : Int32) : MCx D al cA ba yX10_spotAt cX10_spotAt 1 (some .int) 0 0 rvI [.int a0] (F_X10_spotAt a0) := by
  refine MCx_of (by decide +kernel) (Nat.le_of_ble_eq_true rfl) ?_
  intro p l e s m args below meth c σ0 g hrt
  unfold F_X10_spotAt
  refine x_lv (lv' := [(0, .int a0)]) [0] rfl ?_
  refine x_bipush (pc := 0) (v := (8 : Int32)) g (by decide) dX10_spotAt_0 ?_
  refine x_iload_n (pc := 2) g rfl 0 rfl dX10_spotAt_2 ?_
  refine x_bipush (pc := 3) (v := (10 : Int32)) g (by decide) dX10_spotAt_3 ?_
  refine x_idiv (pc := 5) g (by decide) dX10_spotAt_5 ?_
  refine x_imul (pc := 6) g dX10_spotAt_6 ?_
  refine x_iload_n (pc := 7) g rfl 0 rfl dX10_spotAt_7 ?_
  refine x_bipush (pc := 8) (v := (10 : Int32)) g (by decide) dX10_spotAt_8 ?_
  refine x_irem (pc := 10) g (by decide) dX10_spotAt_10 ?_
  refine x_iadd (pc := 11) g dX10_spotAt_11 ?_
  exact x_ireturn (pc := 12) g hrt dX10_spotAt_12
def F_X10_valueAt (a0 : Int32) (a1 : Int32) (σ0 : Sx) : Option (Int32 × Sx) := (if a0 = 0 then aIx 104 5 a1 σ0 (fun v5 => some (v5, σ0)) else (if a0 = (1 : Int32) then aIx 105 5 a1 σ0 (fun v4 => some (v4, σ0)) else (if a0 = (2 : Int32) then aIx 106 5 a1 σ0 (fun v3 => some (v3, σ0)) else clx (F_X10_spotAt a1 σ0) (fun v1 σ1 => aIx 110 64 v1 σ1 (fun v2 => some (v2, σ1))))))
set_option maxRecDepth 100000 in
set_option maxHeartbeats 4000000 in
theorem mc_X10_valueAt {D : va_G} {al : Nat → Nat} {cA : Nat → ClassId} {ba : Nat} (a0 : Int32) (a1 : Int32) : MCx D al cA ba yX10_valueAt cX10_valueAt 3 (some .int) 1 20 rvI [.ref (al 103), .int a0, .int a1] (F_X10_valueAt a0 a1) := by
  refine MCx_of (by decide +kernel) (Nat.le_of_ble_eq_true rfl) ?_
  intro p l e s m args below meth c σ0 g hrt
  unfold F_X10_valueAt
  refine x_lv (lv' := [(0, .ref (al 103)), (1, .int a0), (2, .int a1)]) [0, 1, 2] rfl ?_
  refine x_iload_n (pc := 0) g rfl 1 rfl dX10_valueAt_0 ?_
  refine x_if_ne (pc := 1) (tgt := 13) g (by decide) dX10_valueAt_1 ?_ ?_
  · refine x_iload_n (pc := 13) g rfl 1 rfl dX10_valueAt_13 ?_
    refine x_iconst (pc := 14) (v := (1 : Int32)) g (by decide) dX10_valueAt_14 ?_
    refine x_icmp_ne (pc := 15) (tgt := 27) g (by decide) dX10_valueAt_15 ?_ ?_
    · refine x_iload_n (pc := 27) g rfl 1 rfl dX10_valueAt_27 ?_
      refine x_iconst (pc := 28) (v := (2 : Int32)) g (by decide) dX10_valueAt_28 ?_
      refine x_icmp_ne (pc := 29) (tgt := 41) g (by decide) dX10_valueAt_29 ?_ ?_
      · refine x_aload_n (pc := 41) g rfl 0 rfl dX10_valueAt_41 ?_
        refine x_getR (pc := 42) g sh_103 fl_X10_28 rfl dX10_valueAt_42 ?_
        refine x_iload_n (pc := 45) g rfl 2 rfl dX10_valueAt_45 ?_
        refine x_callSI (pc := 46) (As := [.int a1]) g (mc_X10_spotAt a1) cw_X10_spotAt lk_X10_160 rfl ⟨Nat.le_of_ble_eq_true rfl, Nat.le_of_ble_eq_true rfl⟩ rfl (Nat.le_of_ble_eq_true rfl) dX10_valueAt_46 (fun v1 σ1 => ?_)
        refine x_iald (pc := 49) g sh_110 (by decide) dX10_valueAt_49 (fun v2 => ?_)
        exact x_ireturn (pc := 50) g hrt dX10_valueAt_50
      · refine x_aload_n (pc := 32) g rfl 0 rfl dX10_valueAt_32 ?_
        refine x_getR (pc := 33) g sh_103 fl_X10_16 rfl dX10_valueAt_33 ?_
        refine x_iload_n (pc := 36) g rfl 2 rfl dX10_valueAt_36 ?_
        refine x_iald (pc := 37) g sh_106 (by decide) dX10_valueAt_37 (fun v3 => ?_)
        refine x_goto (pc := 38) (tgt := 50) g (by decide) dX10_valueAt_38 ?_
        exact x_ireturn (pc := 50) g hrt dX10_valueAt_50
    · refine x_aload_n (pc := 18) g rfl 0 rfl dX10_valueAt_18 ?_
      refine x_getR (pc := 19) g sh_103 fl_X10_13 rfl dX10_valueAt_19 ?_
      refine x_iload_n (pc := 22) g rfl 2 rfl dX10_valueAt_22 ?_
      refine x_iald (pc := 23) g sh_105 (by decide) dX10_valueAt_23 (fun v4 => ?_)
      refine x_goto (pc := 24) (tgt := 50) g (by decide) dX10_valueAt_24 ?_
      exact x_ireturn (pc := 50) g hrt dX10_valueAt_50
  · refine x_aload_n (pc := 4) g rfl 0 rfl dX10_valueAt_4 ?_
    refine x_getR (pc := 5) g sh_103 fl_X10_7 rfl dX10_valueAt_5 ?_
    refine x_iload_n (pc := 8) g rfl 2 rfl dX10_valueAt_8 ?_
    refine x_iald (pc := 9) g sh_104 (by decide) dX10_valueAt_9 (fun v5 => ?_)
    refine x_goto (pc := 10) (tgt := 50) g (by decide) dX10_valueAt_10 ?_
    exact x_ireturn (pc := 50) g hrt dX10_valueAt_50
def F_X10_lays (a0 : Int32) (a1 : Int32) (a2 : Int32) (σ0 : Sx) : Option (Unit × Sx) := (if a0 = (0 : Int32) then sIx 104 5 a1 a2 σ0 (fun σ1 => some ((), σ1)) else (if a0 = (1 : Int32) then sIx 105 5 a1 a2 σ0 (fun σ2 => some ((), σ2)) else (if a0 = (2 : Int32) then sIx 106 5 a1 a2 σ0 (fun σ3 => some ((), σ3)) else clx (F_X10_spotAt a1 σ0) (fun v1 σ4 => sIx 110 64 v1 a2 σ4 (fun σ5 => sIx 110 64 (((8 : Int32) * (jrem a1 (10 : Int32))) + (a1 / (10 : Int32))) a2 σ5 (fun σ6 => some ((), σ6)))))))
set_option maxRecDepth 100000 in
set_option maxHeartbeats 4000000 in
theorem mc_X10_lays {D : va_G} {al : Nat → Nat} {cA : Nat → ClassId} {ba : Nat} (a0 : Int32) (a1 : Int32) (a2 : Int32) : MCx D al cA ba yX10_lays cX10_lays 4 none 1 20 rvU [.ref (al 103), .int a0, .int a1, .int a2] (F_X10_lays a0 a1 a2) := by
  refine MCx_of (by decide +kernel) (Nat.le_of_ble_eq_true rfl) ?_
  intro p l e s m args below meth c σ0 g hrt
  unfold F_X10_lays
  refine x_lv (lv' := [(0, .ref (al 103)), (1, .int a0), (2, .int a1), (3, .int a2)]) [0, 1, 2, 3] rfl ?_
  refine x_iload_n (pc := 0) g rfl 1 rfl dX10_lays_0 ?_
  refine x_eqs ?_ (fun hs1 => ?_)
  · refine x_tabIn (pc := 1) (tgt := 28) (off := 27) g (by decide) (by decide) dX10_lays_1 ?_
    refine x_aload_n (pc := 28) g rfl 0 rfl dX10_lays_28 ?_
    refine x_getR (pc := 29) g sh_103 fl_X10_7 rfl dX10_lays_29 ?_
    refine x_iload_n (pc := 32) g rfl 2 rfl dX10_lays_32 ?_
    refine x_iload_n (pc := 33) g rfl 3 rfl dX10_lays_33 ?_
    refine x_iast (pc := 34) g sh_104 (by decide) dX10_lays_34 (fun σ1 => ?_)
    refine x_goto (pc := 35) (tgt := 86) g (by decide) dX10_lays_35 ?_
    exact x_return (pc := 86) g hrt dX10_lays_86
  refine x_eqs ?_ (fun hs2 => ?_)
  · refine x_tabIn (pc := 1) (tgt := 38) (off := 37) g (by decide) (by decide) dX10_lays_1 ?_
    refine x_aload_n (pc := 38) g rfl 0 rfl dX10_lays_38 ?_
    refine x_getR (pc := 39) g sh_103 fl_X10_13 rfl dX10_lays_39 ?_
    refine x_iload_n (pc := 42) g rfl 2 rfl dX10_lays_42 ?_
    refine x_iload_n (pc := 43) g rfl 3 rfl dX10_lays_43 ?_
    refine x_iast (pc := 44) g sh_105 (by decide) dX10_lays_44 (fun σ2 => ?_)
    refine x_goto (pc := 45) (tgt := 86) g (by decide) dX10_lays_45 ?_
    exact x_return (pc := 86) g hrt dX10_lays_86
  refine x_eqs ?_ (fun hs3 => ?_)
  · refine x_tabIn (pc := 1) (tgt := 48) (off := 47) g (by decide) (by decide) dX10_lays_1 ?_
    refine x_aload_n (pc := 48) g rfl 0 rfl dX10_lays_48 ?_
    refine x_getR (pc := 49) g sh_103 fl_X10_16 rfl dX10_lays_49 ?_
    refine x_iload_n (pc := 52) g rfl 2 rfl dX10_lays_52 ?_
    refine x_iload_n (pc := 53) g rfl 3 rfl dX10_lays_53 ?_
    refine x_iast (pc := 54) g sh_106 (by decide) dX10_lays_54 (fun σ3 => ?_)
    refine x_goto (pc := 55) (tgt := 86) g (by decide) dX10_lays_55 ?_
    exact x_return (pc := 86) g hrt dX10_lays_86
  refine x_tabOut (pc := 1) (tgt := 58) g (fun i h1 h2 => ?_) (by decide) dX10_lays_1 ?_
  · rcases (show i = 0 ∨ i = 1 ∨ i = 2 by omega) with rfl | rfl | rfl
    · exact hs1
    · exact hs2
    · exact hs3
  · refine x_aload_n (pc := 58) g rfl 0 rfl dX10_lays_58 ?_
    refine x_getR (pc := 59) g sh_103 fl_X10_28 rfl dX10_lays_59 ?_
    refine x_iload_n (pc := 62) g rfl 2 rfl dX10_lays_62 ?_
    refine x_callSI (pc := 63) (As := [.int a1]) g (mc_X10_spotAt a1) cw_X10_spotAt lk_X10_160 rfl ⟨Nat.le_of_ble_eq_true rfl, Nat.le_of_ble_eq_true rfl⟩ rfl (Nat.le_of_ble_eq_true rfl) dX10_lays_63 (fun v1 σ4 => ?_)
    refine x_iload_n (pc := 66) g rfl 3 rfl dX10_lays_66 ?_
    refine x_iast (pc := 67) g sh_110 (by decide) dX10_lays_67 (fun σ5 => ?_)
    refine x_aload_n (pc := 68) g rfl 0 rfl dX10_lays_68 ?_
    refine x_getR (pc := 69) g sh_103 fl_X10_28 rfl dX10_lays_69 ?_
    refine x_bipush (pc := 72) (v := (8 : Int32)) g (by decide) dX10_lays_72 ?_
    refine x_iload_n (pc := 74) g rfl 2 rfl dX10_lays_74 ?_
    refine x_bipush (pc := 75) (v := (10 : Int32)) g (by decide) dX10_lays_75 ?_
    refine x_irem (pc := 77) g (by decide) dX10_lays_77 ?_
    refine x_imul (pc := 78) g dX10_lays_78 ?_
    refine x_iload_n (pc := 79) g rfl 2 rfl dX10_lays_79 ?_
    refine x_bipush (pc := 80) (v := (10 : Int32)) g (by decide) dX10_lays_80 ?_
    refine x_idiv (pc := 82) g (by decide) dX10_lays_82 ?_
    refine x_iadd (pc := 83) g dX10_lays_83 ?_
    refine x_iload_n (pc := 84) g rfl 3 rfl dX10_lays_84 ?_
    refine x_iast (pc := 85) g sh_110 (by decide) dX10_lays_85 (fun σ6 => ?_)
    exact x_return (pc := 86) g hrt dX10_lays_86
def B_X10_changes_L34 (N : Nat) (j111 : Sx → Option (Int32 × Sx)) (r34 : Int32 → Sx → Option (Int32 × Sx)) (x1 : Int32) (σ12 : Sx) : Option (Int32 × Sx) := (if (40 : Int32) ≤ x1 then j111 σ12 else aIx 111 40 x1 σ12 (fun v2 => sIx 111 40 (x1 - (1 : Int32)) v2 σ12 (fun σ13 => aIx 112 40 x1 σ13 (fun v3 => sIx 112 40 (x1 - (1 : Int32)) v3 σ13 (fun σ14 => aIx 113 40 x1 σ14 (fun v4 => sIx 113 40 (x1 - (1 : Int32)) v4 σ14 (fun σ15 => aIx 114 40 x1 σ15 (fun v5 => sIx 114 40 (x1 - (1 : Int32)) v5 σ15 (fun σ16 => r34 (x1 + (1 : Int32)) σ16)))))))))
def F_X10_changes (N : Nat) (a0 : Int32) (a1 : Int32) (a2 : Int32) (σ0 : Sx) : Option (Int32 × Sx) := clx (F_X10_valueAt a0 a1 σ0) (fun v1 σ1 => (if v1 = a2 then some (v1, σ1) else pIx 103 10 (0 : Int32) σ1 (fun σ2 => nmx (fun (σ3 : Sx) => sIx 111 40 (siI σ3 103 9) a0 σ3 (fun σ4 => sIx 112 40 (siI σ4 103 9) a1 σ4 (fun σ5 => sIx 113 40 (siI σ5 103 9) v1 σ5 (fun σ6 => sIx 114 40 (siI σ6 103 9) a2 σ6 (fun σ7 => pIx 103 9 ((siI σ7 103 9) + (1 : Int32)) σ7 (fun σ8 => clx (F_X10_lays a0 a1 a2 σ8) (fun _ σ9 => some (v1, σ9)))))))) (fun (j121 : Sx → Option (Int32 × Sx)) => (if (siI σ2 103 9) = (40 : Int32) then nmx (fun (σ10 : Sx) => pIx 103 9 ((siI σ10 103 9) - (1 : Int32)) σ10 (fun σ11 => j121 σ11)) (fun (j111 : Sx → Option (Int32 × Sx)) => lpx1 (B_X10_changes_L34 N j111) N (1 : Int32) σ2) else j121 σ2)))))
set_option maxRecDepth 100000 in
set_option maxHeartbeats 4000000 in
theorem mc_X10_changes {D : va_G} {al : Nat → Nat} {cA : Nat → ClassId} {ba : Nat} (N : Nat) (a0 : Int32) (a1 : Int32) (a2 : Int32) : MCx D al cA ba yX10_changes cX10_changes 6 (some .int) 2 43 rvI [.ref (al 103), .int a0, .int a1, .int a2] (F_X10_changes N a0 a1 a2) := by
  refine MCx_of (by decide +kernel) (Nat.le_of_ble_eq_true rfl) ?_
  intro p l e s m args below meth c σ0 g hrt
  unfold F_X10_changes
  refine x_lv (lv' := [(0, .ref (al 103)), (1, .int a0), (2, .int a1), (3, .int a2)]) [0, 1, 2, 3] rfl ?_
  refine x_aload_n (pc := 0) g rfl 0 rfl dX10_changes_0 ?_
  refine x_iload_n (pc := 1) g rfl 1 rfl dX10_changes_1 ?_
  refine x_iload_n (pc := 2) g rfl 2 rfl dX10_changes_2 ?_
  refine x_callVI (pc := 3) (As := [.int a0, .int a1]) g sh_103 (mc_X10_valueAt a0 a1) cw_X10_valueAt lk_X10_163 rfl ⟨Nat.le_of_ble_eq_true rfl, Nat.le_of_ble_eq_true rfl⟩ rfl (Nat.le_of_ble_eq_true rfl) dX10_changes_3 (fun v1 σ1 => ?_)
  refine x_istore (pc := 6) (lv' := [(4, .int v1), (0, .ref (al 103)), (1, .int a0), (2, .int a1), (3, .int a2)]) g (by decide) rfl dX10_changes_6 ?_
  refine x_iload (pc := 8) g 0 rfl dX10_changes_8 ?_
  refine x_iload_n (pc := 10) g rfl 4 rfl dX10_changes_10 ?_
  refine x_icmp_ne (pc := 11) (tgt := 17) g (by decide) dX10_changes_11 ?_ ?_
  · refine x_aload_n (pc := 17) g rfl 1 rfl dX10_changes_17 ?_
    refine x_iconst (pc := 18) (v := (0 : Int32)) g (by decide) dX10_changes_18 ?_
    refine x_putI (pc := 19) g sh_103 fl_X10_167 rfl dX10_changes_19 (fun σ2 => ?_)
    refine x_aload_n (pc := 22) g rfl 1 rfl dX10_changes_22 ?_
    refine x_getI (pc := 23) g sh_103 fl_X10_170 rfl dX10_changes_23 ?_
    refine x_bipush (pc := 26) (v := (40 : Int32)) g (by decide) dX10_changes_26 ?_
    refine x_jn (fun (j121 : Sx → Option (Int32 × Sx)) => ∀ (σ3 : Sx), XTx p l e { frames := 2, cells := 0, slots := 0, locals := 43 } s m args below meth c D al cA ba 6 (MQx rvI D al cA ba below args s) 0 0 121 [(0, .ref (al 103)), (1, .int a0), (2, .int a1), (3, .int a2), (4, .int v1)] [] σ3 (j121 σ3)) (fun σ3 => ?_) (fun j121 hj121 => ?_)
    · refine x_aload_n (pc := 121) g rfl 0 rfl dX10_changes_121 ?_
      refine x_getR (pc := 122) g sh_103 fl_X10_31 rfl dX10_changes_122 ?_
      refine x_aload_n (pc := 125) g rfl 0 rfl dX10_changes_125 ?_
      refine x_getI (pc := 126) g sh_103 fl_X10_170 rfl dX10_changes_126 ?_
      refine x_iload_n (pc := 129) g rfl 1 rfl dX10_changes_129 ?_
      refine x_iast (pc := 130) g sh_111 (by decide) dX10_changes_130 (fun σ4 => ?_)
      refine x_aload_n (pc := 131) g rfl 0 rfl dX10_changes_131 ?_
      refine x_getR (pc := 132) g sh_103 fl_X10_34 rfl dX10_changes_132 ?_
      refine x_aload_n (pc := 135) g rfl 0 rfl dX10_changes_135 ?_
      refine x_getI (pc := 136) g sh_103 fl_X10_170 rfl dX10_changes_136 ?_
      refine x_iload_n (pc := 139) g rfl 2 rfl dX10_changes_139 ?_
      refine x_iast (pc := 140) g sh_112 (by decide) dX10_changes_140 (fun σ5 => ?_)
      refine x_aload_n (pc := 141) g rfl 0 rfl dX10_changes_141 ?_
      refine x_getR (pc := 142) g sh_103 fl_X10_37 rfl dX10_changes_142 ?_
      refine x_aload_n (pc := 145) g rfl 0 rfl dX10_changes_145 ?_
      refine x_getI (pc := 146) g sh_103 fl_X10_170 rfl dX10_changes_146 ?_
      refine x_iload (pc := 149) g 4 rfl dX10_changes_149 ?_
      refine x_iast (pc := 151) g sh_113 (by decide) dX10_changes_151 (fun σ6 => ?_)
      refine x_aload_n (pc := 152) g rfl 0 rfl dX10_changes_152 ?_
      refine x_getR (pc := 153) g sh_103 fl_X10_40 rfl dX10_changes_153 ?_
      refine x_aload_n (pc := 156) g rfl 0 rfl dX10_changes_156 ?_
      refine x_getI (pc := 157) g sh_103 fl_X10_170 rfl dX10_changes_157 ?_
      refine x_iload_n (pc := 160) g rfl 3 rfl dX10_changes_160 ?_
      refine x_iast (pc := 161) g sh_114 (by decide) dX10_changes_161 (fun σ7 => ?_)
      refine x_aload_n (pc := 162) g rfl 0 rfl dX10_changes_162 ?_
      refine x_dup (pc := 163) g rfl dX10_changes_163 ?_
      refine x_getI (pc := 164) g sh_103 fl_X10_170 rfl dX10_changes_164 ?_
      refine x_iconst (pc := 167) (v := (1 : Int32)) g (by decide) dX10_changes_167 ?_
      refine x_iadd (pc := 168) g dX10_changes_168 ?_
      refine x_putI (pc := 169) g sh_103 fl_X10_170 rfl dX10_changes_169 (fun σ8 => ?_)
      refine x_aload_n (pc := 172) g rfl 0 rfl dX10_changes_172 ?_
      refine x_iload_n (pc := 173) g rfl 1 rfl dX10_changes_173 ?_
      refine x_iload_n (pc := 174) g rfl 2 rfl dX10_changes_174 ?_
      refine x_iload_n (pc := 175) g rfl 3 rfl dX10_changes_175 ?_
      refine x_callVU (pc := 176) (As := [.int a0, .int a1, .int a2]) g sh_103 (mc_X10_lays a0 a1 a2) cw_X10_lays lk_X10_173 rfl ⟨Nat.le_of_ble_eq_true rfl, Nat.le_of_ble_eq_true rfl⟩ rfl (Nat.le_of_ble_eq_true rfl) dX10_changes_176 (fun _ σ9 => ?_)
      refine x_iload (pc := 179) g 4 rfl dX10_changes_179 ?_
      exact x_ireturn (pc := 181) g hrt dX10_changes_181
    · refine x_icmp_ne (pc := 28) (tgt := 121) g (by decide) dX10_changes_28 ?_ ?_
      · refine x_lv [1, 2, 3, 4, 0] rfl ?_
        exact hj121 σ2
      · refine x_iconst (pc := 31) (v := (1 : Int32)) g (by decide) dX10_changes_31 ?_
        refine x_istore (pc := 32) (lv' := [(5, .int (1 : Int32)), (4, .int v1), (0, .ref (al 103)), (1, .int a0), (2, .int a1), (3, .int a2)]) g (by decide) rfl dX10_changes_32 ?_
        refine x_jn (fun (j111 : Sx → Option (Int32 × Sx)) => ∀ (σ10 : Sx), XTx p l e { frames := 2, cells := 0, slots := 0, locals := 43 } s m args below meth c D al cA ba 6 (MQx rvI D al cA ba below args s) 0 0 111 [(0, .ref (al 103)), (1, .int a0), (2, .int a1), (3, .int a2), (4, .int v1)] [] σ10 (j111 σ10)) (fun σ10 => ?_) (fun j111 hj111 => ?_)
        · refine x_aload_n (pc := 111) g rfl 0 rfl dX10_changes_111 ?_
          refine x_dup (pc := 112) g rfl dX10_changes_112 ?_
          refine x_getI (pc := 113) g sh_103 fl_X10_170 rfl dX10_changes_113 ?_
          refine x_iconst (pc := 116) (v := (1 : Int32)) g (by decide) dX10_changes_116 ?_
          refine x_isub (pc := 117) g dX10_changes_117 ?_
          refine x_putI (pc := 118) g sh_103 fl_X10_170 rfl dX10_changes_118 (fun σ11 => ?_)
          exact hj121 σ11
        · refine x_lv [2, 3, 4, 5, 1, 0] rfl ?_
          refine lpx1_ind (fun (x1 : Int32) (σ12 : Sx) (K : Option (Int32 × Sx)) => XTx p l e { frames := 2, cells := 0, slots := 0, locals := 43 } s m args below meth c D al cA ba 6 (MQx rvI D al cA ba below args s) 0 0 34 [(0, .ref (al 103)), (1, .int a0), (2, .int a1), (3, .int a2), (4, .int v1), (5, .int x1)] [] σ12 (K)) (fun _ _ => x_no) (fun r34 hr34 x1 σ12 => ?_) N (1 : Int32) σ2
          show XTx p l e { frames := 2, cells := 0, slots := 0, locals := 43 } s m args below meth c D al cA ba 6 (MQx rvI D al cA ba below args s) 0 0 34 [(0, .ref (al 103)), (1, .int a0), (2, .int a1), (3, .int a2), (4, .int v1), (5, .int x1)] [] σ12 (B_X10_changes_L34 N j111 r34 x1 σ12)
          unfold B_X10_changes_L34
          refine x_iload (pc := 34) g 5 rfl dX10_changes_34 ?_
          refine x_bipush (pc := 36) (v := (40 : Int32)) g (by decide) dX10_changes_36 ?_
          refine x_icmp_ge (pc := 38) (tgt := 111) g (by decide) dX10_changes_38 ?_ ?_
          · refine x_lv [0, 1, 2, 3, 4] rfl ?_
            exact hj111 σ12
          · refine x_aload_n (pc := 41) g rfl 0 rfl dX10_changes_41 ?_
            refine x_getR (pc := 42) g sh_103 fl_X10_31 rfl dX10_changes_42 ?_
            refine x_iload (pc := 45) g 5 rfl dX10_changes_45 ?_
            refine x_iconst (pc := 47) (v := (1 : Int32)) g (by decide) dX10_changes_47 ?_
            refine x_isub (pc := 48) g dX10_changes_48 ?_
            refine x_aload_n (pc := 49) g rfl 0 rfl dX10_changes_49 ?_
            refine x_getR (pc := 50) g sh_103 fl_X10_31 rfl dX10_changes_50 ?_
            refine x_iload (pc := 53) g 5 rfl dX10_changes_53 ?_
            refine x_iald (pc := 55) g sh_111 (by decide) dX10_changes_55 (fun v2 => ?_)
            refine x_iast (pc := 56) g sh_111 (by decide) dX10_changes_56 (fun σ13 => ?_)
            refine x_aload_n (pc := 57) g rfl 0 rfl dX10_changes_57 ?_
            refine x_getR (pc := 58) g sh_103 fl_X10_34 rfl dX10_changes_58 ?_
            refine x_iload (pc := 61) g 5 rfl dX10_changes_61 ?_
            refine x_iconst (pc := 63) (v := (1 : Int32)) g (by decide) dX10_changes_63 ?_
            refine x_isub (pc := 64) g dX10_changes_64 ?_
            refine x_aload_n (pc := 65) g rfl 0 rfl dX10_changes_65 ?_
            refine x_getR (pc := 66) g sh_103 fl_X10_34 rfl dX10_changes_66 ?_
            refine x_iload (pc := 69) g 5 rfl dX10_changes_69 ?_
            refine x_iald (pc := 71) g sh_112 (by decide) dX10_changes_71 (fun v3 => ?_)
            refine x_iast (pc := 72) g sh_112 (by decide) dX10_changes_72 (fun σ14 => ?_)
            refine x_aload_n (pc := 73) g rfl 0 rfl dX10_changes_73 ?_
            refine x_getR (pc := 74) g sh_103 fl_X10_37 rfl dX10_changes_74 ?_
            refine x_iload (pc := 77) g 5 rfl dX10_changes_77 ?_
            refine x_iconst (pc := 79) (v := (1 : Int32)) g (by decide) dX10_changes_79 ?_
            refine x_isub (pc := 80) g dX10_changes_80 ?_
            refine x_aload_n (pc := 81) g rfl 0 rfl dX10_changes_81 ?_
            refine x_getR (pc := 82) g sh_103 fl_X10_37 rfl dX10_changes_82 ?_
            refine x_iload (pc := 85) g 5 rfl dX10_changes_85 ?_
            refine x_iald (pc := 87) g sh_113 (by decide) dX10_changes_87 (fun v4 => ?_)
            refine x_iast (pc := 88) g sh_113 (by decide) dX10_changes_88 (fun σ15 => ?_)
            refine x_aload_n (pc := 89) g rfl 0 rfl dX10_changes_89 ?_
            refine x_getR (pc := 90) g sh_103 fl_X10_40 rfl dX10_changes_90 ?_
            refine x_iload (pc := 93) g 5 rfl dX10_changes_93 ?_
            refine x_iconst (pc := 95) (v := (1 : Int32)) g (by decide) dX10_changes_95 ?_
            refine x_isub (pc := 96) g dX10_changes_96 ?_
            refine x_aload_n (pc := 97) g rfl 0 rfl dX10_changes_97 ?_
            refine x_getR (pc := 98) g sh_103 fl_X10_40 rfl dX10_changes_98 ?_
            refine x_iload (pc := 101) g 5 rfl dX10_changes_101 ?_
            refine x_iald (pc := 103) g sh_114 (by decide) dX10_changes_103 (fun v5 => ?_)
            refine x_iast (pc := 104) g sh_114 (by decide) dX10_changes_104 (fun σ16 => ?_)
            refine x_iinc (pc := 105) (v := (x1 + (1 : Int32))) (lv' := [(5, .int (x1 + (1 : Int32))), (0, .ref (al 103)), (1, .int a0), (2, .int a1), (3, .int a2), (4, .int v1)]) g 5 rfl (by rfl) (by decide) rfl dX10_changes_105 ?_
            refine x_goto (pc := 108) (tgt := 34) g (by decide) dX10_changes_108 ?_
            refine x_lv [1, 2, 3, 4, 5, 0] rfl ?_
            exact hr34 (x1 + (1 : Int32)) σ16
  · refine x_iload (pc := 14) g 0 rfl dX10_changes_14 ?_
    exact x_ireturn (pc := 16) g hrt dX10_changes_16
def F_X10_undo (σ0 : Sx) : Option (Int32 × Sx) := (if (siI σ0 103 9) = 0 then some ((-5 : Int32), σ0) else pIx 103 9 ((siI σ0 103 9) - (1 : Int32)) σ0 (fun σ1 => pIx 103 10 ((siI σ1 103 10) + (1 : Int32)) σ1 (fun σ2 => aIx 111 40 (siI σ2 103 9) σ2 (fun v1 => aIx 112 40 (siI σ2 103 9) σ2 (fun v2 => aIx 113 40 (siI σ2 103 9) σ2 (fun v3 => clx (F_X10_lays v1 v2 v3 σ2) (fun _ σ3 => some ((siI σ3 103 9), σ3))))))))
set_option maxRecDepth 100000 in
set_option maxHeartbeats 4000000 in
theorem mc_X10_undo {D : va_G} {al : Nat → Nat} {cA : Nat → ClassId} {ba : Nat}  : MCx D al cA ba yX10_undo cX10_undo 1 (some .int) 2 43 rvI [.ref (al 103)] (F_X10_undo ) := by
  refine MCx_of (by decide +kernel) (Nat.le_of_ble_eq_true rfl) ?_
  intro p l e s m args below meth c σ0 g hrt
  unfold F_X10_undo
  refine x_lv (lv' := [(0, .ref (al 103))]) [0] rfl ?_
  refine x_aload_n (pc := 0) g rfl 0 rfl dX10_undo_0 ?_
  refine x_getI (pc := 1) g sh_103 fl_X10_170 rfl dX10_undo_1 ?_
  refine x_if_ne (pc := 4) (tgt := 10) g (by decide) dX10_undo_4 ?_ ?_
  · refine x_aload_n (pc := 10) g rfl 0 rfl dX10_undo_10 ?_
    refine x_dup (pc := 11) g rfl dX10_undo_11 ?_
    refine x_getI (pc := 12) g sh_103 fl_X10_170 rfl dX10_undo_12 ?_
    refine x_iconst (pc := 15) (v := (1 : Int32)) g (by decide) dX10_undo_15 ?_
    refine x_isub (pc := 16) g dX10_undo_16 ?_
    refine x_putI (pc := 17) g sh_103 fl_X10_170 rfl dX10_undo_17 (fun σ1 => ?_)
    refine x_aload_n (pc := 20) g rfl 0 rfl dX10_undo_20 ?_
    refine x_dup (pc := 21) g rfl dX10_undo_21 ?_
    refine x_getI (pc := 22) g sh_103 fl_X10_167 rfl dX10_undo_22 ?_
    refine x_iconst (pc := 25) (v := (1 : Int32)) g (by decide) dX10_undo_25 ?_
    refine x_iadd (pc := 26) g dX10_undo_26 ?_
    refine x_putI (pc := 27) g sh_103 fl_X10_167 rfl dX10_undo_27 (fun σ2 => ?_)
    refine x_aload_n (pc := 30) g rfl 0 rfl dX10_undo_30 ?_
    refine x_aload_n (pc := 31) g rfl 0 rfl dX10_undo_31 ?_
    refine x_getR (pc := 32) g sh_103 fl_X10_31 rfl dX10_undo_32 ?_
    refine x_aload_n (pc := 35) g rfl 0 rfl dX10_undo_35 ?_
    refine x_getI (pc := 36) g sh_103 fl_X10_170 rfl dX10_undo_36 ?_
    refine x_iald (pc := 39) g sh_111 (by decide) dX10_undo_39 (fun v1 => ?_)
    refine x_aload_n (pc := 40) g rfl 0 rfl dX10_undo_40 ?_
    refine x_getR (pc := 41) g sh_103 fl_X10_34 rfl dX10_undo_41 ?_
    refine x_aload_n (pc := 44) g rfl 0 rfl dX10_undo_44 ?_
    refine x_getI (pc := 45) g sh_103 fl_X10_170 rfl dX10_undo_45 ?_
    refine x_iald (pc := 48) g sh_112 (by decide) dX10_undo_48 (fun v2 => ?_)
    refine x_aload_n (pc := 49) g rfl 0 rfl dX10_undo_49 ?_
    refine x_getR (pc := 50) g sh_103 fl_X10_37 rfl dX10_undo_50 ?_
    refine x_aload_n (pc := 53) g rfl 0 rfl dX10_undo_53 ?_
    refine x_getI (pc := 54) g sh_103 fl_X10_170 rfl dX10_undo_54 ?_
    refine x_iald (pc := 57) g sh_113 (by decide) dX10_undo_57 (fun v3 => ?_)
    refine x_callVU (pc := 58) (As := [.int v1, .int v2, .int v3]) g sh_103 (mc_X10_lays v1 v2 v3) cw_X10_lays lk_X10_173 rfl ⟨Nat.le_of_ble_eq_true rfl, Nat.le_of_ble_eq_true rfl⟩ rfl (Nat.le_of_ble_eq_true rfl) dX10_undo_58 (fun _ σ3 => ?_)
    refine x_aload_n (pc := 61) g rfl 0 rfl dX10_undo_61 ?_
    refine x_getI (pc := 62) g sh_103 fl_X10_170 rfl dX10_undo_62 ?_
    exact x_ireturn (pc := 65) g hrt dX10_undo_65
  · refine x_bipush (pc := 7) (v := (-5 : Int32)) g (by decide) dX10_undo_7 ?_
    exact x_ireturn (pc := 9) g hrt dX10_undo_9
def F_X10_redo (σ0 : Sx) : Option (Int32 × Sx) := (if (siI σ0 103 10) = 0 then some ((-5 : Int32), σ0) else aIx 111 40 (siI σ0 103 9) σ0 (fun v1 => aIx 112 40 (siI σ0 103 9) σ0 (fun v2 => aIx 114 40 (siI σ0 103 9) σ0 (fun v3 => clx (F_X10_lays v1 v2 v3 σ0) (fun _ σ1 => pIx 103 9 ((siI σ1 103 9) + (1 : Int32)) σ1 (fun σ2 => pIx 103 10 ((siI σ2 103 10) - (1 : Int32)) σ2 (fun σ3 => some ((siI σ3 103 10), σ3))))))))
set_option maxRecDepth 100000 in
set_option maxHeartbeats 4000000 in
theorem mc_X10_redo {D : va_G} {al : Nat → Nat} {cA : Nat → ClassId} {ba : Nat}  : MCx D al cA ba yX10_redo cX10_redo 1 (some .int) 2 43 rvI [.ref (al 103)] (F_X10_redo ) := by
  refine MCx_of (by decide +kernel) (Nat.le_of_ble_eq_true rfl) ?_
  intro p l e s m args below meth c σ0 g hrt
  unfold F_X10_redo
  refine x_lv (lv' := [(0, .ref (al 103))]) [0] rfl ?_
  refine x_aload_n (pc := 0) g rfl 0 rfl dX10_redo_0 ?_
  refine x_getI (pc := 1) g sh_103 fl_X10_167 rfl dX10_redo_1 ?_
  refine x_if_ne (pc := 4) (tgt := 10) g (by decide) dX10_redo_4 ?_ ?_
  · refine x_aload_n (pc := 10) g rfl 0 rfl dX10_redo_10 ?_
    refine x_aload_n (pc := 11) g rfl 0 rfl dX10_redo_11 ?_
    refine x_getR (pc := 12) g sh_103 fl_X10_31 rfl dX10_redo_12 ?_
    refine x_aload_n (pc := 15) g rfl 0 rfl dX10_redo_15 ?_
    refine x_getI (pc := 16) g sh_103 fl_X10_170 rfl dX10_redo_16 ?_
    refine x_iald (pc := 19) g sh_111 (by decide) dX10_redo_19 (fun v1 => ?_)
    refine x_aload_n (pc := 20) g rfl 0 rfl dX10_redo_20 ?_
    refine x_getR (pc := 21) g sh_103 fl_X10_34 rfl dX10_redo_21 ?_
    refine x_aload_n (pc := 24) g rfl 0 rfl dX10_redo_24 ?_
    refine x_getI (pc := 25) g sh_103 fl_X10_170 rfl dX10_redo_25 ?_
    refine x_iald (pc := 28) g sh_112 (by decide) dX10_redo_28 (fun v2 => ?_)
    refine x_aload_n (pc := 29) g rfl 0 rfl dX10_redo_29 ?_
    refine x_getR (pc := 30) g sh_103 fl_X10_40 rfl dX10_redo_30 ?_
    refine x_aload_n (pc := 33) g rfl 0 rfl dX10_redo_33 ?_
    refine x_getI (pc := 34) g sh_103 fl_X10_170 rfl dX10_redo_34 ?_
    refine x_iald (pc := 37) g sh_114 (by decide) dX10_redo_37 (fun v3 => ?_)
    refine x_callVU (pc := 38) (As := [.int v1, .int v2, .int v3]) g sh_103 (mc_X10_lays v1 v2 v3) cw_X10_lays lk_X10_173 rfl ⟨Nat.le_of_ble_eq_true rfl, Nat.le_of_ble_eq_true rfl⟩ rfl (Nat.le_of_ble_eq_true rfl) dX10_redo_38 (fun _ σ1 => ?_)
    refine x_aload_n (pc := 41) g rfl 0 rfl dX10_redo_41 ?_
    refine x_dup (pc := 42) g rfl dX10_redo_42 ?_
    refine x_getI (pc := 43) g sh_103 fl_X10_170 rfl dX10_redo_43 ?_
    refine x_iconst (pc := 46) (v := (1 : Int32)) g (by decide) dX10_redo_46 ?_
    refine x_iadd (pc := 47) g dX10_redo_47 ?_
    refine x_putI (pc := 48) g sh_103 fl_X10_170 rfl dX10_redo_48 (fun σ2 => ?_)
    refine x_aload_n (pc := 51) g rfl 0 rfl dX10_redo_51 ?_
    refine x_dup (pc := 52) g rfl dX10_redo_52 ?_
    refine x_getI (pc := 53) g sh_103 fl_X10_167 rfl dX10_redo_53 ?_
    refine x_iconst (pc := 56) (v := (1 : Int32)) g (by decide) dX10_redo_56 ?_
    refine x_isub (pc := 57) g dX10_redo_57 ?_
    refine x_putI (pc := 58) g sh_103 fl_X10_167 rfl dX10_redo_58 (fun σ3 => ?_)
    refine x_aload_n (pc := 61) g rfl 0 rfl dX10_redo_61 ?_
    refine x_getI (pc := 62) g sh_103 fl_X10_167 rfl dX10_redo_62 ?_
    exact x_ireturn (pc := 65) g hrt dX10_redo_65
  · refine x_bipush (pc := 7) (v := (-5 : Int32)) g (by decide) dX10_redo_7 ?_
    exact x_ireturn (pc := 9) g hrt dX10_redo_9
def F_X10_isOne (a0 : Int32) (a1 : Int32) (σ0 : Sx) : Option (Int32 × Sx) := clx (F_X10_in a1 (0 : Int32) (2 : Int32) σ0) (fun v1 σ1 => (if v1 = 0 then (if a1 = (3 : Int32) then (if a0 < 0 then some ((0 : Int32), σ1) else clx (F_X10_isPlace (a0 / (10 : Int32)) σ1) (fun v2 σ2 => (if v2 = 0 then some ((0 : Int32), σ2) else clx (F_X10_isPlace (jrem a0 (10 : Int32)) σ2) (fun v3 σ3 => (if v3 = 0 then some ((0 : Int32), σ3) else (if (a0 / (10 : Int32)) = (jrem a0 (10 : Int32)) then some ((0 : Int32), σ3) else some ((1 : Int32), σ3))))))) else some ((0 : Int32), σ1)) else clx (F_X10_isWalker a0 σ1) (fun v4 σ4 => rZx v4 σ4)))
set_option maxRecDepth 100000 in
set_option maxHeartbeats 4000000 in
theorem mc_X10_isOne {D : va_G} {al : Nat → Nat} {cA : Nat → ClassId} {ba : Nat} (a0 : Int32) (a1 : Int32) : MCx D al cA ba yX10_isOne cX10_isOne 3 (some .boolean) 2 43 rvI [.ref (al 103), .int a0, .int a1] (F_X10_isOne a0 a1) := by
  refine MCx_of (by decide +kernel) (Nat.le_of_ble_eq_true rfl) ?_
  intro p l e s m args below meth c σ0 g hrt
  unfold F_X10_isOne
  refine x_lv (lv' := [(0, .ref (al 103)), (1, .int a0), (2, .int a1)]) [0, 1, 2] rfl ?_
  refine x_iload_n (pc := 0) g rfl 2 rfl dX10_isOne_0 ?_
  refine x_iconst (pc := 1) (v := (0 : Int32)) g (by decide) dX10_isOne_1 ?_
  refine x_iconst (pc := 2) (v := (2 : Int32)) g (by decide) dX10_isOne_2 ?_
  refine x_callSI (pc := 3) (As := [.int a1, .int (0 : Int32), .int (2 : Int32)]) g (mc_X10_in a1 (0 : Int32) (2 : Int32)) cw_X10_in lk_X10_131 rfl ⟨Nat.le_of_ble_eq_true rfl, Nat.le_of_ble_eq_true rfl⟩ rfl (Nat.le_of_ble_eq_true rfl) dX10_isOne_3 (fun v1 σ1 => ?_)
  refine x_if_eq (pc := 6) (tgt := 15) g (by decide) dX10_isOne_6 ?_ ?_
  · refine x_iload_n (pc := 15) g rfl 2 rfl dX10_isOne_15 ?_
    refine x_iconst (pc := 16) (v := (3 : Int32)) g (by decide) dX10_isOne_16 ?_
    refine x_icmp_ne (pc := 17) (tgt := 59) g (by decide) dX10_isOne_17 ?_ ?_
    · refine x_iconst (pc := 59) (v := (0 : Int32)) g (by decide) dX10_isOne_59 ?_
      exact x_zreturn (pc := 60) g hrt (by decide) dX10_isOne_60
    · refine x_iload_n (pc := 20) g rfl 1 rfl dX10_isOne_20 ?_
      refine x_if_lt (pc := 21) (tgt := 59) g (by decide) dX10_isOne_21 ?_ ?_
      · refine x_iconst (pc := 59) (v := (0 : Int32)) g (by decide) dX10_isOne_59 ?_
        exact x_zreturn (pc := 60) g hrt (by decide) dX10_isOne_60
      · refine x_iload_n (pc := 24) g rfl 1 rfl dX10_isOne_24 ?_
        refine x_bipush (pc := 25) (v := (10 : Int32)) g (by decide) dX10_isOne_25 ?_
        refine x_idiv (pc := 27) g (by decide) dX10_isOne_27 ?_
        refine x_callSI (pc := 28) (As := [.int (a0 / (10 : Int32))]) g (mc_X10_isPlace (a0 / (10 : Int32))) cw_X10_isPlace lk_X10_135 rfl ⟨Nat.le_of_ble_eq_true rfl, Nat.le_of_ble_eq_true rfl⟩ rfl (Nat.le_of_ble_eq_true rfl) dX10_isOne_28 (fun v2 σ2 => ?_)
        refine x_if_eq (pc := 31) (tgt := 59) g (by decide) dX10_isOne_31 ?_ ?_
        · refine x_iconst (pc := 59) (v := (0 : Int32)) g (by decide) dX10_isOne_59 ?_
          exact x_zreturn (pc := 60) g hrt (by decide) dX10_isOne_60
        · refine x_iload_n (pc := 34) g rfl 1 rfl dX10_isOne_34 ?_
          refine x_bipush (pc := 35) (v := (10 : Int32)) g (by decide) dX10_isOne_35 ?_
          refine x_irem (pc := 37) g (by decide) dX10_isOne_37 ?_
          refine x_callSI (pc := 38) (As := [.int (jrem a0 (10 : Int32))]) g (mc_X10_isPlace (jrem a0 (10 : Int32))) cw_X10_isPlace lk_X10_135 rfl ⟨Nat.le_of_ble_eq_true rfl, Nat.le_of_ble_eq_true rfl⟩ rfl (Nat.le_of_ble_eq_true rfl) dX10_isOne_38 (fun v3 σ3 => ?_)
          refine x_if_eq (pc := 41) (tgt := 59) g (by decide) dX10_isOne_41 ?_ ?_
          · refine x_iconst (pc := 59) (v := (0 : Int32)) g (by decide) dX10_isOne_59 ?_
            exact x_zreturn (pc := 60) g hrt (by decide) dX10_isOne_60
          · refine x_iload_n (pc := 44) g rfl 1 rfl dX10_isOne_44 ?_
            refine x_bipush (pc := 45) (v := (10 : Int32)) g (by decide) dX10_isOne_45 ?_
            refine x_idiv (pc := 47) g (by decide) dX10_isOne_47 ?_
            refine x_iload_n (pc := 48) g rfl 1 rfl dX10_isOne_48 ?_
            refine x_bipush (pc := 49) (v := (10 : Int32)) g (by decide) dX10_isOne_49 ?_
            refine x_irem (pc := 51) g (by decide) dX10_isOne_51 ?_
            refine x_icmp_eq (pc := 52) (tgt := 59) g (by decide) dX10_isOne_52 ?_ ?_
            · refine x_iconst (pc := 59) (v := (0 : Int32)) g (by decide) dX10_isOne_59 ?_
              exact x_zreturn (pc := 60) g hrt (by decide) dX10_isOne_60
            · refine x_iconst (pc := 55) (v := (1 : Int32)) g (by decide) dX10_isOne_55 ?_
              refine x_goto (pc := 56) (tgt := 60) g (by decide) dX10_isOne_56 ?_
              exact x_zreturn (pc := 60) g hrt (by decide) dX10_isOne_60
  · refine x_aload_n (pc := 9) g rfl 0 rfl dX10_isOne_9 ?_
    refine x_iload_n (pc := 10) g rfl 1 rfl dX10_isOne_10 ?_
    refine x_callVI (pc := 11) (As := [.int a0]) g sh_103 (mc_X10_isWalker a0) cw_X10_isWalker lk_X10_157 rfl ⟨Nat.le_of_ble_eq_true rfl, Nat.le_of_ble_eq_true rfl⟩ rfl (Nat.le_of_ble_eq_true rfl) dX10_isOne_11 (fun v4 σ4 => ?_)
    exact x_rZ (pc := 14) g hrt dX10_isOne_14
def F_X10_mayBe (a0 : Int32) (a1 : Int32) (σ0 : Sx) : Option (Int32 × Sx) := (if a0 = 0 then clx (F_X10_in a1 (0 : Int32) (60 : Int32) σ0) (fun v4 σ4 => rZx v4 σ4) else (if a0 = (1 : Int32) then clx (F_X10_in a1 (0 : Int32) (200 : Int32) σ0) (fun v3 σ3 => rZx v3 σ3) else (if a0 = (2 : Int32) then clx (F_X10_in a1 (0 : Int32) (99 : Int32) σ0) (fun v2 σ2 => rZx v2 σ2) else clx (F_X10_in a1 (1 : Int32) (30 : Int32) σ0) (fun v1 σ1 => rZx v1 σ1))))
set_option maxRecDepth 100000 in
set_option maxHeartbeats 4000000 in
theorem mc_X10_mayBe {D : va_G} {al : Nat → Nat} {cA : Nat → ClassId} {ba : Nat} (a0 : Int32) (a1 : Int32) : MCx D al cA ba yX10_mayBe cX10_mayBe 2 (some .boolean) 1 22 rvI [.int a0, .int a1] (F_X10_mayBe a0 a1) := by
  refine MCx_of (by decide +kernel) (Nat.le_of_ble_eq_true rfl) ?_
  intro p l e s m args below meth c σ0 g hrt
  unfold F_X10_mayBe
  refine x_lv (lv' := [(0, .int a0), (1, .int a1)]) [0, 1] rfl ?_
  refine x_iload_n (pc := 0) g rfl 0 rfl dX10_mayBe_0 ?_
  refine x_if_ne (pc := 1) (tgt := 14) g (by decide) dX10_mayBe_1 ?_ ?_
  · refine x_iload_n (pc := 14) g rfl 0 rfl dX10_mayBe_14 ?_
    refine x_iconst (pc := 15) (v := (1 : Int32)) g (by decide) dX10_mayBe_15 ?_
    refine x_icmp_ne (pc := 16) (tgt := 30) g (by decide) dX10_mayBe_16 ?_ ?_
    · refine x_iload_n (pc := 30) g rfl 0 rfl dX10_mayBe_30 ?_
      refine x_iconst (pc := 31) (v := (2 : Int32)) g (by decide) dX10_mayBe_31 ?_
      refine x_icmp_ne (pc := 32) (tgt := 45) g (by decide) dX10_mayBe_32 ?_ ?_
      · refine x_iload_n (pc := 45) g rfl 1 rfl dX10_mayBe_45 ?_
        refine x_iconst (pc := 46) (v := (1 : Int32)) g (by decide) dX10_mayBe_46 ?_
        refine x_bipush (pc := 47) (v := (30 : Int32)) g (by decide) dX10_mayBe_47 ?_
        refine x_callSI (pc := 49) (As := [.int a1, .int (1 : Int32), .int (30 : Int32)]) g (mc_X10_in a1 (1 : Int32) (30 : Int32)) cw_X10_in lk_X10_131 rfl ⟨Nat.le_of_ble_eq_true rfl, Nat.le_of_ble_eq_true rfl⟩ rfl (Nat.le_of_ble_eq_true rfl) dX10_mayBe_49 (fun v1 σ1 => ?_)
        exact x_rZ (pc := 52) g hrt dX10_mayBe_52
      · refine x_iload_n (pc := 35) g rfl 1 rfl dX10_mayBe_35 ?_
        refine x_iconst (pc := 36) (v := (0 : Int32)) g (by decide) dX10_mayBe_36 ?_
        refine x_bipush (pc := 37) (v := (99 : Int32)) g (by decide) dX10_mayBe_37 ?_
        refine x_callSI (pc := 39) (As := [.int a1, .int (0 : Int32), .int (99 : Int32)]) g (mc_X10_in a1 (0 : Int32) (99 : Int32)) cw_X10_in lk_X10_131 rfl ⟨Nat.le_of_ble_eq_true rfl, Nat.le_of_ble_eq_true rfl⟩ rfl (Nat.le_of_ble_eq_true rfl) dX10_mayBe_39 (fun v2 σ2 => ?_)
        refine x_goto (pc := 42) (tgt := 52) g (by decide) dX10_mayBe_42 ?_
        exact x_rZ (pc := 52) g hrt dX10_mayBe_52
    · refine x_iload_n (pc := 19) g rfl 1 rfl dX10_mayBe_19 ?_
      refine x_iconst (pc := 20) (v := (0 : Int32)) g (by decide) dX10_mayBe_20 ?_
      refine x_sipush (pc := 21) (v := (200 : Int32)) g (by decide) dX10_mayBe_21 ?_
      refine x_callSI (pc := 24) (As := [.int a1, .int (0 : Int32), .int (200 : Int32)]) g (mc_X10_in a1 (0 : Int32) (200 : Int32)) cw_X10_in lk_X10_131 rfl ⟨Nat.le_of_ble_eq_true rfl, Nat.le_of_ble_eq_true rfl⟩ rfl (Nat.le_of_ble_eq_true rfl) dX10_mayBe_24 (fun v3 σ3 => ?_)
      refine x_goto (pc := 27) (tgt := 52) g (by decide) dX10_mayBe_27 ?_
      exact x_rZ (pc := 52) g hrt dX10_mayBe_52
  · refine x_iload_n (pc := 4) g rfl 1 rfl dX10_mayBe_4 ?_
    refine x_iconst (pc := 5) (v := (0 : Int32)) g (by decide) dX10_mayBe_5 ?_
    refine x_bipush (pc := 6) (v := (60 : Int32)) g (by decide) dX10_mayBe_6 ?_
    refine x_callSI (pc := 8) (As := [.int a1, .int (0 : Int32), .int (60 : Int32)]) g (mc_X10_in a1 (0 : Int32) (60 : Int32)) cw_X10_in lk_X10_131 rfl ⟨Nat.le_of_ble_eq_true rfl, Nat.le_of_ble_eq_true rfl⟩ rfl (Nat.le_of_ble_eq_true rfl) dX10_mayBe_8 (fun v4 σ4 => ?_)
    refine x_goto (pc := 11) (tgt := 52) g (by decide) dX10_mayBe_11 ?_
    exact x_rZ (pc := 52) g hrt dX10_mayBe_52
def F_X10_mend (N : Nat) (a0 : Int32) (a1 : Int32) (a2 : Int32) (σ0 : Sx) : Option (Int32 × Sx) := clx (F_X10_isOne a0 a1 σ0) (fun v1 σ1 => (if v1 = 0 then some ((-1 : Int32), σ1) else clx (F_X10_mayBe a1 a2 σ1) (fun v2 σ2 => (if v2 = 0 then some ((-1 : Int32), σ2) else clx (F_X10_changes N a1 a0 a2 σ2) (fun v3 σ3 => some (v3, σ3))))))
set_option maxRecDepth 100000 in
set_option maxHeartbeats 4000000 in
theorem mc_X10_mend {D : va_G} {al : Nat → Nat} {cA : Nat → ClassId} {ba : Nat} (N : Nat) (a0 : Int32) (a1 : Int32) (a2 : Int32) : MCx D al cA ba yX10_mend cX10_mend 4 (some .int) 3 68 rvI [.ref (al 103), .int a0, .int a1, .int a2] (F_X10_mend N a0 a1 a2) := by
  refine MCx_of (by decide +kernel) (Nat.le_of_ble_eq_true rfl) ?_
  intro p l e s m args below meth c σ0 g hrt
  unfold F_X10_mend
  refine x_lv (lv' := [(0, .ref (al 103)), (1, .int a0), (2, .int a1), (3, .int a2)]) [0, 1, 2, 3] rfl ?_
  refine x_aload_n (pc := 0) g rfl 0 rfl dX10_mend_0 ?_
  refine x_iload_n (pc := 1) g rfl 1 rfl dX10_mend_1 ?_
  refine x_iload_n (pc := 2) g rfl 2 rfl dX10_mend_2 ?_
  refine x_callVI (pc := 3) (As := [.int a0, .int a1]) g sh_103 (mc_X10_isOne a0 a1) cw_X10_isOne lk_X10_177 rfl ⟨Nat.le_of_ble_eq_true rfl, Nat.le_of_ble_eq_true rfl⟩ rfl (Nat.le_of_ble_eq_true rfl) dX10_mend_3 (fun v1 σ1 => ?_)
  refine x_if_eq (pc := 6) (tgt := 27) g (by decide) dX10_mend_6 ?_ ?_
  · refine x_iconst (pc := 27) (v := (-1 : Int32)) g (by decide) dX10_mend_27 ?_
    exact x_ireturn (pc := 28) g hrt dX10_mend_28
  · refine x_iload_n (pc := 9) g rfl 2 rfl dX10_mend_9 ?_
    refine x_iload_n (pc := 10) g rfl 3 rfl dX10_mend_10 ?_
    refine x_callSI (pc := 11) (As := [.int a1, .int a2]) g (mc_X10_mayBe a1 a2) cw_X10_mayBe lk_X10_180 rfl ⟨Nat.le_of_ble_eq_true rfl, Nat.le_of_ble_eq_true rfl⟩ rfl (Nat.le_of_ble_eq_true rfl) dX10_mend_11 (fun v2 σ2 => ?_)
    refine x_if_eq (pc := 14) (tgt := 27) g (by decide) dX10_mend_14 ?_ ?_
    · refine x_iconst (pc := 27) (v := (-1 : Int32)) g (by decide) dX10_mend_27 ?_
      exact x_ireturn (pc := 28) g hrt dX10_mend_28
    · refine x_aload_n (pc := 17) g rfl 0 rfl dX10_mend_17 ?_
      refine x_iload_n (pc := 18) g rfl 2 rfl dX10_mend_18 ?_
      refine x_iload_n (pc := 19) g rfl 1 rfl dX10_mend_19 ?_
      refine x_iload_n (pc := 20) g rfl 3 rfl dX10_mend_20 ?_
      refine x_callVI (pc := 21) (As := [.int a1, .int a0, .int a2]) g sh_103 (mc_X10_changes N a1 a0 a2) cw_X10_changes lk_X10_183 rfl ⟨Nat.le_of_ble_eq_true rfl, Nat.le_of_ble_eq_true rfl⟩ rfl (Nat.le_of_ble_eq_true rfl) dX10_mend_21 (fun v3 σ3 => ?_)
      refine x_goto (pc := 24) (tgt := 28) g (by decide) dX10_mend_24 ?_
      exact x_ireturn (pc := 28) g hrt dX10_mend_28
def F_X10_of (a0 : Int32) (a1 : Int32) (σ0 : Sx) : Option (Int32 × Sx) := clx (F_X10_in a1 (0 : Int32) (3 : Int32) σ0) (fun v1 σ1 => (if v1 = 0 then clx (F_X10_isWalker a0 σ1) (fun v2 σ2 => (if v2 = 0 then some ((-1 : Int32), σ2) else clx (F_X10_in a1 (4 : Int32) (8 : Int32) σ2) (fun v3 σ3 => (if v3 = 0 then some ((-1 : Int32), σ3) else (if a1 = (4 : Int32) then aIx 107 5 a0 σ3 (fun v6 => some (v6, σ3)) else aIx 107 5 a0 σ3 (fun v4 => (if v4 ≤ (a1 - (5 : Int32)) then some ((-1 : Int32), σ3) else aIx 108 20 ((((4 : Int32) * a0) + a1) - (5 : Int32)) σ3 (fun v5 => some (v5, σ3))))))))) else clx (F_X10_isOne a0 a1 σ1) (fun v7 σ4 => (if v7 = 0 then some ((-1 : Int32), σ4) else clx (F_X10_valueAt a1 a0 σ4) (fun v8 σ5 => some (v8, σ5))))))
set_option maxRecDepth 100000 in
set_option maxHeartbeats 4000000 in
theorem mc_X10_of {D : va_G} {al : Nat → Nat} {cA : Nat → ClassId} {ba : Nat} (a0 : Int32) (a1 : Int32) : MCx D al cA ba yX10_of cX10_of 3 (some .int) 3 65 rvI [.ref (al 103), .int a0, .int a1] (F_X10_of a0 a1) := by
  refine MCx_of (by decide +kernel) (Nat.le_of_ble_eq_true rfl) ?_
  intro p l e s m args below meth c σ0 g hrt
  unfold F_X10_of
  refine x_lv (lv' := [(0, .ref (al 103)), (1, .int a0), (2, .int a1)]) [0, 1, 2] rfl ?_
  refine x_iload_n (pc := 0) g rfl 2 rfl dX10_of_0 ?_
  refine x_iconst (pc := 1) (v := (0 : Int32)) g (by decide) dX10_of_1 ?_
  refine x_iconst (pc := 2) (v := (3 : Int32)) g (by decide) dX10_of_2 ?_
  refine x_callSI (pc := 3) (As := [.int a1, .int (0 : Int32), .int (3 : Int32)]) g (mc_X10_in a1 (0 : Int32) (3 : Int32)) cw_X10_in lk_X10_131 rfl ⟨Nat.le_of_ble_eq_true rfl, Nat.le_of_ble_eq_true rfl⟩ rfl (Nat.le_of_ble_eq_true rfl) dX10_of_3 (fun v1 σ1 => ?_)
  refine x_if_eq (pc := 6) (tgt := 29) g (by decide) dX10_of_6 ?_ ?_
  · refine x_aload_n (pc := 29) g rfl 0 rfl dX10_of_29 ?_
    refine x_iload_n (pc := 30) g rfl 1 rfl dX10_of_30 ?_
    refine x_callVI (pc := 31) (As := [.int a0]) g sh_103 (mc_X10_isWalker a0) cw_X10_isWalker lk_X10_157 rfl ⟨Nat.le_of_ble_eq_true rfl, Nat.le_of_ble_eq_true rfl⟩ rfl (Nat.le_of_ble_eq_true rfl) dX10_of_31 (fun v2 σ2 => ?_)
    refine x_if_eq (pc := 34) (tgt := 47) g (by decide) dX10_of_34 ?_ ?_
    · refine x_iconst (pc := 47) (v := (-1 : Int32)) g (by decide) dX10_of_47 ?_
      exact x_ireturn (pc := 48) g hrt dX10_of_48
    · refine x_iload_n (pc := 37) g rfl 2 rfl dX10_of_37 ?_
      refine x_iconst (pc := 38) (v := (4 : Int32)) g (by decide) dX10_of_38 ?_
      refine x_bipush (pc := 39) (v := (8 : Int32)) g (by decide) dX10_of_39 ?_
      refine x_callSI (pc := 41) (As := [.int a1, .int (4 : Int32), .int (8 : Int32)]) g (mc_X10_in a1 (4 : Int32) (8 : Int32)) cw_X10_in lk_X10_131 rfl ⟨Nat.le_of_ble_eq_true rfl, Nat.le_of_ble_eq_true rfl⟩ rfl (Nat.le_of_ble_eq_true rfl) dX10_of_41 (fun v3 σ3 => ?_)
      refine x_if_ne (pc := 44) (tgt := 49) g (by decide) dX10_of_44 ?_ ?_
      · refine x_iload_n (pc := 49) g rfl 2 rfl dX10_of_49 ?_
        refine x_iconst (pc := 50) (v := (4 : Int32)) g (by decide) dX10_of_50 ?_
        refine x_icmp_ne (pc := 51) (tgt := 61) g (by decide) dX10_of_51 ?_ ?_
        · refine x_iload_n (pc := 61) g rfl 2 rfl dX10_of_61 ?_
          refine x_iconst (pc := 62) (v := (5 : Int32)) g (by decide) dX10_of_62 ?_
          refine x_isub (pc := 63) g dX10_of_63 ?_
          refine x_aload_n (pc := 64) g rfl 0 rfl dX10_of_64 ?_
          refine x_getR (pc := 65) g sh_103 fl_X10_19 rfl dX10_of_65 ?_
          refine x_iload_n (pc := 68) g rfl 1 rfl dX10_of_68 ?_
          refine x_iald (pc := 69) g sh_107 (by decide) dX10_of_69 (fun v4 => ?_)
          refine x_icmp_ge (pc := 70) (tgt := 88) g (by decide) dX10_of_70 ?_ ?_
          · refine x_iconst (pc := 88) (v := (-1 : Int32)) g (by decide) dX10_of_88 ?_
            exact x_ireturn (pc := 89) g hrt dX10_of_89
          · refine x_aload_n (pc := 73) g rfl 0 rfl dX10_of_73 ?_
            refine x_getR (pc := 74) g sh_103 fl_X10_22 rfl dX10_of_74 ?_
            refine x_iconst (pc := 77) (v := (4 : Int32)) g (by decide) dX10_of_77 ?_
            refine x_iload_n (pc := 78) g rfl 1 rfl dX10_of_78 ?_
            refine x_imul (pc := 79) g dX10_of_79 ?_
            refine x_iload_n (pc := 80) g rfl 2 rfl dX10_of_80 ?_
            refine x_iadd (pc := 81) g dX10_of_81 ?_
            refine x_iconst (pc := 82) (v := (5 : Int32)) g (by decide) dX10_of_82 ?_
            refine x_isub (pc := 83) g dX10_of_83 ?_
            refine x_iald (pc := 84) g sh_108 (by decide) dX10_of_84 (fun v5 => ?_)
            refine x_goto (pc := 85) (tgt := 89) g (by decide) dX10_of_85 ?_
            exact x_ireturn (pc := 89) g hrt dX10_of_89
        · refine x_aload_n (pc := 54) g rfl 0 rfl dX10_of_54 ?_
          refine x_getR (pc := 55) g sh_103 fl_X10_19 rfl dX10_of_55 ?_
          refine x_iload_n (pc := 58) g rfl 1 rfl dX10_of_58 ?_
          refine x_iald (pc := 59) g sh_107 (by decide) dX10_of_59 (fun v6 => ?_)
          exact x_ireturn (pc := 60) g hrt dX10_of_60
      · refine x_iconst (pc := 47) (v := (-1 : Int32)) g (by decide) dX10_of_47 ?_
        exact x_ireturn (pc := 48) g hrt dX10_of_48
  · refine x_aload_n (pc := 9) g rfl 0 rfl dX10_of_9 ?_
    refine x_iload_n (pc := 10) g rfl 1 rfl dX10_of_10 ?_
    refine x_iload_n (pc := 11) g rfl 2 rfl dX10_of_11 ?_
    refine x_callVI (pc := 12) (As := [.int a0, .int a1]) g sh_103 (mc_X10_isOne a0 a1) cw_X10_isOne lk_X10_177 rfl ⟨Nat.le_of_ble_eq_true rfl, Nat.le_of_ble_eq_true rfl⟩ rfl (Nat.le_of_ble_eq_true rfl) dX10_of_12 (fun v7 σ4 => ?_)
    refine x_if_eq (pc := 15) (tgt := 27) g (by decide) dX10_of_15 ?_ ?_
    · refine x_iconst (pc := 27) (v := (-1 : Int32)) g (by decide) dX10_of_27 ?_
      exact x_ireturn (pc := 28) g hrt dX10_of_28
    · refine x_aload_n (pc := 18) g rfl 0 rfl dX10_of_18 ?_
      refine x_iload_n (pc := 19) g rfl 2 rfl dX10_of_19 ?_
      refine x_iload_n (pc := 20) g rfl 1 rfl dX10_of_20 ?_
      refine x_callVI (pc := 21) (As := [.int a1, .int a0]) g sh_103 (mc_X10_valueAt a1 a0) cw_X10_valueAt lk_X10_163 rfl ⟨Nat.le_of_ble_eq_true rfl, Nat.le_of_ble_eq_true rfl⟩ rfl (Nat.le_of_ble_eq_true rfl) dX10_of_21 (fun v8 σ5 => ?_)
      refine x_goto (pc := 24) (tgt := 28) g (by decide) dX10_of_24 ?_
      exact x_ireturn (pc := 28) g hrt dX10_of_28
def F_X10_isWay (a0 : Int32) (a1 : Int32) (σ0 : Sx) : Option (Int32 × Sx) := clx (F_X10_isWalker a0 σ0) (fun v1 σ1 => (if v1 = 0 then some ((0 : Int32), σ1) else aIx 107 5 a0 σ1 (fun v2 => clx (F_X10_in a1 (0 : Int32) (v2 - (1 : Int32)) σ1) (fun v3 σ2 => (if v3 = 0 then some ((0 : Int32), σ2) else some ((1 : Int32), σ2))))))
set_option maxRecDepth 100000 in
set_option maxHeartbeats 4000000 in
theorem mc_X10_isWay {D : va_G} {al : Nat → Nat} {cA : Nat → ClassId} {ba : Nat} (a0 : Int32) (a1 : Int32) : MCx D al cA ba yX10_isWay cX10_isWay 3 (some .boolean) 2 43 rvI [.ref (al 103), .int a0, .int a1] (F_X10_isWay a0 a1) := by
  refine MCx_of (by decide +kernel) (Nat.le_of_ble_eq_true rfl) ?_
  intro p l e s m args below meth c σ0 g hrt
  unfold F_X10_isWay
  refine x_lv (lv' := [(0, .ref (al 103)), (1, .int a0), (2, .int a1)]) [0, 1, 2] rfl ?_
  refine x_aload_n (pc := 0) g rfl 0 rfl dX10_isWay_0 ?_
  refine x_iload_n (pc := 1) g rfl 1 rfl dX10_isWay_1 ?_
  refine x_callVI (pc := 2) (As := [.int a0]) g sh_103 (mc_X10_isWalker a0) cw_X10_isWalker lk_X10_157 rfl ⟨Nat.le_of_ble_eq_true rfl, Nat.le_of_ble_eq_true rfl⟩ rfl (Nat.le_of_ble_eq_true rfl) dX10_isWay_2 (fun v1 σ1 => ?_)
  refine x_if_eq (pc := 5) (tgt := 28) g (by decide) dX10_isWay_5 ?_ ?_
  · refine x_iconst (pc := 28) (v := (0 : Int32)) g (by decide) dX10_isWay_28 ?_
    exact x_zreturn (pc := 29) g hrt (by decide) dX10_isWay_29
  · refine x_iload_n (pc := 8) g rfl 2 rfl dX10_isWay_8 ?_
    refine x_iconst (pc := 9) (v := (0 : Int32)) g (by decide) dX10_isWay_9 ?_
    refine x_aload_n (pc := 10) g rfl 0 rfl dX10_isWay_10 ?_
    refine x_getR (pc := 11) g sh_103 fl_X10_19 rfl dX10_isWay_11 ?_
    refine x_iload_n (pc := 14) g rfl 1 rfl dX10_isWay_14 ?_
    refine x_iald (pc := 15) g sh_107 (by decide) dX10_isWay_15 (fun v2 => ?_)
    refine x_iconst (pc := 16) (v := (1 : Int32)) g (by decide) dX10_isWay_16 ?_
    refine x_isub (pc := 17) g dX10_isWay_17 ?_
    refine x_callSI (pc := 18) (As := [.int a1, .int (0 : Int32), .int (v2 - (1 : Int32))]) g (mc_X10_in a1 (0 : Int32) (v2 - (1 : Int32))) cw_X10_in lk_X10_131 rfl ⟨Nat.le_of_ble_eq_true rfl, Nat.le_of_ble_eq_true rfl⟩ rfl (Nat.le_of_ble_eq_true rfl) dX10_isWay_18 (fun v3 σ2 => ?_)
    refine x_if_eq (pc := 21) (tgt := 28) g (by decide) dX10_isWay_21 ?_ ?_
    · refine x_iconst (pc := 28) (v := (0 : Int32)) g (by decide) dX10_isWay_28 ?_
      exact x_zreturn (pc := 29) g hrt (by decide) dX10_isWay_29
    · refine x_iconst (pc := 24) (v := (1 : Int32)) g (by decide) dX10_isWay_24 ?_
      refine x_goto (pc := 25) (tgt := 29) g (by decide) dX10_isWay_25 ?_
      exact x_zreturn (pc := 29) g hrt (by decide) dX10_isWay_29
def F_X10_place (a0 : Int32) (a1 : Int32) (σ0 : Sx) : Option (Int32 × Sx) := (if a0 < 0 then some ((-1 : Int32), σ0) else clx (F_X10_isWay (a0 / (10 : Int32)) (jrem a0 (10 : Int32)) σ0) (fun v1 σ1 => (if v1 = 0 then some ((-1 : Int32), σ1) else (if 0 ≤ a1 then aIx 108 20 (((4 : Int32) * (a0 / (10 : Int32))) + (jrem a0 (10 : Int32))) σ1 (fun v2 => (if v2 ≤ a1 then some ((-2 : Int32), σ1) else aIx 109 160 ((((32 : Int32) * (a0 / (10 : Int32))) + ((8 : Int32) * (jrem a0 (10 : Int32)))) + a1) σ1 (fun v3 => some (v3, σ1)))) else some ((-1 : Int32), σ1)))))
set_option maxRecDepth 100000 in
set_option maxHeartbeats 4000000 in
theorem mc_X10_place {D : va_G} {al : Nat → Nat} {cA : Nat → ClassId} {ba : Nat} (a0 : Int32) (a1 : Int32) : MCx D al cA ba yX10_place cX10_place 3 (some .int) 3 65 rvI [.ref (al 103), .int a0, .int a1] (F_X10_place a0 a1) := by
  refine MCx_of (by decide +kernel) (Nat.le_of_ble_eq_true rfl) ?_
  intro p l e s m args below meth c σ0 g hrt
  unfold F_X10_place
  refine x_lv (lv' := [(0, .ref (al 103)), (1, .int a0), (2, .int a1)]) [0, 1, 2] rfl ?_
  refine x_iload_n (pc := 0) g rfl 1 rfl dX10_place_0 ?_
  refine x_if_lt (pc := 1) (tgt := 23) g (by decide) dX10_place_1 ?_ ?_
  · refine x_iconst (pc := 23) (v := (-1 : Int32)) g (by decide) dX10_place_23 ?_
    exact x_ireturn (pc := 24) g hrt dX10_place_24
  · refine x_aload_n (pc := 4) g rfl 0 rfl dX10_place_4 ?_
    refine x_iload_n (pc := 5) g rfl 1 rfl dX10_place_5 ?_
    refine x_bipush (pc := 6) (v := (10 : Int32)) g (by decide) dX10_place_6 ?_
    refine x_idiv (pc := 8) g (by decide) dX10_place_8 ?_
    refine x_iload_n (pc := 9) g rfl 1 rfl dX10_place_9 ?_
    refine x_bipush (pc := 10) (v := (10 : Int32)) g (by decide) dX10_place_10 ?_
    refine x_irem (pc := 12) g (by decide) dX10_place_12 ?_
    refine x_callVI (pc := 13) (As := [.int (a0 / (10 : Int32)), .int (jrem a0 (10 : Int32))]) g sh_103 (mc_X10_isWay (a0 / (10 : Int32)) (jrem a0 (10 : Int32))) cw_X10_isWay lk_X10_186 rfl ⟨Nat.le_of_ble_eq_true rfl, Nat.le_of_ble_eq_true rfl⟩ rfl (Nat.le_of_ble_eq_true rfl) dX10_place_13 (fun v1 σ1 => ?_)
    refine x_if_eq (pc := 16) (tgt := 23) g (by decide) dX10_place_16 ?_ ?_
    · refine x_iconst (pc := 23) (v := (-1 : Int32)) g (by decide) dX10_place_23 ?_
      exact x_ireturn (pc := 24) g hrt dX10_place_24
    · refine x_iload_n (pc := 19) g rfl 2 rfl dX10_place_19 ?_
      refine x_if_ge (pc := 20) (tgt := 25) g (by decide) dX10_place_20 ?_ ?_
      · refine x_iload_n (pc := 25) g rfl 2 rfl dX10_place_25 ?_
        refine x_aload_n (pc := 26) g rfl 0 rfl dX10_place_26 ?_
        refine x_getR (pc := 27) g sh_103 fl_X10_22 rfl dX10_place_27 ?_
        refine x_iconst (pc := 30) (v := (4 : Int32)) g (by decide) dX10_place_30 ?_
        refine x_iload_n (pc := 31) g rfl 1 rfl dX10_place_31 ?_
        refine x_bipush (pc := 32) (v := (10 : Int32)) g (by decide) dX10_place_32 ?_
        refine x_idiv (pc := 34) g (by decide) dX10_place_34 ?_
        refine x_imul (pc := 35) g dX10_place_35 ?_
        refine x_iload_n (pc := 36) g rfl 1 rfl dX10_place_36 ?_
        refine x_bipush (pc := 37) (v := (10 : Int32)) g (by decide) dX10_place_37 ?_
        refine x_irem (pc := 39) g (by decide) dX10_place_39 ?_
        refine x_iadd (pc := 40) g dX10_place_40 ?_
        refine x_iald (pc := 41) g sh_108 (by decide) dX10_place_41 (fun v2 => ?_)
        refine x_icmp_ge (pc := 42) (tgt := 70) g (by decide) dX10_place_42 ?_ ?_
        · refine x_bipush (pc := 70) (v := (-2 : Int32)) g (by decide) dX10_place_70 ?_
          exact x_ireturn (pc := 72) g hrt dX10_place_72
        · refine x_aload_n (pc := 45) g rfl 0 rfl dX10_place_45 ?_
          refine x_getR (pc := 46) g sh_103 fl_X10_25 rfl dX10_place_46 ?_
          refine x_bipush (pc := 49) (v := (32 : Int32)) g (by decide) dX10_place_49 ?_
          refine x_iload_n (pc := 51) g rfl 1 rfl dX10_place_51 ?_
          refine x_bipush (pc := 52) (v := (10 : Int32)) g (by decide) dX10_place_52 ?_
          refine x_idiv (pc := 54) g (by decide) dX10_place_54 ?_
          refine x_imul (pc := 55) g dX10_place_55 ?_
          refine x_bipush (pc := 56) (v := (8 : Int32)) g (by decide) dX10_place_56 ?_
          refine x_iload_n (pc := 58) g rfl 1 rfl dX10_place_58 ?_
          refine x_bipush (pc := 59) (v := (10 : Int32)) g (by decide) dX10_place_59 ?_
          refine x_irem (pc := 61) g (by decide) dX10_place_61 ?_
          refine x_imul (pc := 62) g dX10_place_62 ?_
          refine x_iadd (pc := 63) g dX10_place_63 ?_
          refine x_iload_n (pc := 64) g rfl 2 rfl dX10_place_64 ?_
          refine x_iadd (pc := 65) g dX10_place_65 ?_
          refine x_iald (pc := 66) g sh_109 (by decide) dX10_place_66 (fun v3 => ?_)
          refine x_goto (pc := 67) (tgt := 72) g (by decide) dX10_place_67 ?_
          exact x_ireturn (pc := 72) g hrt dX10_place_72
      · refine x_iconst (pc := 23) (v := (-1 : Int32)) g (by decide) dX10_place_23 ?_
        exact x_ireturn (pc := 24) g hrt dX10_place_24
def F_X10_feed (a0 : Int32) (σ0 : Sx) : Option (Int32 × Sx) := clx (F_X10_in a0 (0 : Int32) (255 : Int32) σ0) (fun v1 σ1 => (if v1 = 0 then some ((-1 : Int32), σ1) else (if (siI σ1 103 16) = (120 : Int32) then some ((-3 : Int32), σ1) else sIx 115 120 (siI σ1 103 16) (vp_nar .byte a0.toInt8.toInt32) σ1 (fun σ2 => pIx 103 16 ((siI σ2 103 16) + (1 : Int32)) σ2 (fun σ3 => some ((siI σ3 103 16), σ3))))))
set_option maxRecDepth 100000 in
set_option maxHeartbeats 4000000 in
theorem mc_X10_feed {D : va_G} {al : Nat → Nat} {cA : Nat → ClassId} {ba : Nat} (a0 : Int32) : MCx D al cA ba yX10_feed cX10_feed 2 (some .int) 1 22 rvI [.ref (al 103), .int a0] (F_X10_feed a0) := by
  refine MCx_of (by decide +kernel) (Nat.le_of_ble_eq_true rfl) ?_
  intro p l e s m args below meth c σ0 g hrt
  unfold F_X10_feed
  refine x_lv (lv' := [(0, .ref (al 103)), (1, .int a0)]) [0, 1] rfl ?_
  refine x_iload_n (pc := 0) g rfl 1 rfl dX10_feed_0 ?_
  refine x_iconst (pc := 1) (v := (0 : Int32)) g (by decide) dX10_feed_1 ?_
  refine x_sipush (pc := 2) (v := (255 : Int32)) g (by decide) dX10_feed_2 ?_
  refine x_callSI (pc := 5) (As := [.int a0, .int (0 : Int32), .int (255 : Int32)]) g (mc_X10_in a0 (0 : Int32) (255 : Int32)) cw_X10_in lk_X10_131 rfl ⟨Nat.le_of_ble_eq_true rfl, Nat.le_of_ble_eq_true rfl⟩ rfl (Nat.le_of_ble_eq_true rfl) dX10_feed_5 (fun v1 σ1 => ?_)
  refine x_if_ne (pc := 8) (tgt := 13) g (by decide) dX10_feed_8 ?_ ?_
  · refine x_aload_n (pc := 13) g rfl 0 rfl dX10_feed_13 ?_
    refine x_getI (pc := 14) g sh_103 fl_X10_189 rfl dX10_feed_14 ?_
    refine x_bipush (pc := 17) (v := (120 : Int32)) g (by decide) dX10_feed_17 ?_
    refine x_icmp_ne (pc := 19) (tgt := 25) g (by decide) dX10_feed_19 ?_ ?_
    · refine x_aload_n (pc := 25) g rfl 0 rfl dX10_feed_25 ?_
      refine x_getR (pc := 26) g sh_103 fl_X10_43 rfl dX10_feed_26 ?_
      refine x_aload_n (pc := 29) g rfl 0 rfl dX10_feed_29 ?_
      refine x_getI (pc := 30) g sh_103 fl_X10_189 rfl dX10_feed_30 ?_
      refine x_iload_n (pc := 33) g rfl 1 rfl dX10_feed_33 ?_
      refine x_i2b (pc := 34) g dX10_feed_34 ?_
      refine x_bast (pc := 35) g sh_115 (by decide) dX10_feed_35 (fun σ2 => ?_)
      refine x_aload_n (pc := 36) g rfl 0 rfl dX10_feed_36 ?_
      refine x_dup (pc := 37) g rfl dX10_feed_37 ?_
      refine x_getI (pc := 38) g sh_103 fl_X10_189 rfl dX10_feed_38 ?_
      refine x_iconst (pc := 41) (v := (1 : Int32)) g (by decide) dX10_feed_41 ?_
      refine x_iadd (pc := 42) g dX10_feed_42 ?_
      refine x_putI (pc := 43) g sh_103 fl_X10_189 rfl dX10_feed_43 (fun σ3 => ?_)
      refine x_aload_n (pc := 46) g rfl 0 rfl dX10_feed_46 ?_
      refine x_getI (pc := 47) g sh_103 fl_X10_189 rfl dX10_feed_47 ?_
      exact x_ireturn (pc := 50) g hrt dX10_feed_50
    · refine x_bipush (pc := 22) (v := (-3 : Int32)) g (by decide) dX10_feed_22 ?_
      exact x_ireturn (pc := 24) g hrt dX10_feed_24
  · refine x_iconst (pc := 11) (v := (-1 : Int32)) g (by decide) dX10_feed_11 ?_
    exact x_ireturn (pc := 12) g hrt dX10_feed_12
def F_X10_looksOn (σ0 : Sx) : Option (Int32 × Sx) := (if (siI σ0 103 16) ≤ (siI σ0 103 17) then some ((-1 : Int32), σ0) else aIx 115 120 (siI σ0 103 17) σ0 (fun v1 => some (v1, σ0)))
set_option maxRecDepth 100000 in
set_option maxHeartbeats 4000000 in
theorem mc_X10_looksOn {D : va_G} {al : Nat → Nat} {cA : Nat → ClassId} {ba : Nat}  : MCx D al cA ba yX10_looksOn cX10_looksOn 1 (some .int) 0 0 rvI [.ref (al 103)] (F_X10_looksOn ) := by
  refine MCx_of (by decide +kernel) (Nat.le_of_ble_eq_true rfl) ?_
  intro p l e s m args below meth c σ0 g hrt
  unfold F_X10_looksOn
  refine x_lv (lv' := [(0, .ref (al 103))]) [0] rfl ?_
  refine x_aload_n (pc := 0) g rfl 0 rfl dX10_looksOn_0 ?_
  refine x_getI (pc := 1) g sh_103 fl_X10_192 rfl dX10_looksOn_1 ?_
  refine x_aload_n (pc := 4) g rfl 0 rfl dX10_looksOn_4 ?_
  refine x_getI (pc := 5) g sh_103 fl_X10_189 rfl dX10_looksOn_5 ?_
  refine x_icmp_ge (pc := 8) (tgt := 23) g (by decide) dX10_looksOn_8 ?_ ?_
  · refine x_iconst (pc := 23) (v := (-1 : Int32)) g (by decide) dX10_looksOn_23 ?_
    exact x_ireturn (pc := 24) g hrt dX10_looksOn_24
  · refine x_aload_n (pc := 11) g rfl 0 rfl dX10_looksOn_11 ?_
    refine x_getR (pc := 12) g sh_103 fl_X10_43 rfl dX10_looksOn_12 ?_
    refine x_aload_n (pc := 15) g rfl 0 rfl dX10_looksOn_15 ?_
    refine x_getI (pc := 16) g sh_103 fl_X10_192 rfl dX10_looksOn_16 ?_
    refine x_bald (pc := 19) g sh_115 (by decide) dX10_looksOn_19 (fun v1 => ?_)
    refine x_goto (pc := 20) (tgt := 24) g (by decide) dX10_looksOn_20 ?_
    exact x_ireturn (pc := 24) g hrt dX10_looksOn_24
def F_X10_faulty (σ0 : Sx) : Option (Unit × Sx) := (if 0 ≤ (siI σ0 103 18) then some ((), σ0) else pIx 103 18 (siI σ0 103 17) σ0 (fun σ1 => some ((), σ1)))
set_option maxRecDepth 100000 in
set_option maxHeartbeats 4000000 in
theorem mc_X10_faulty {D : va_G} {al : Nat → Nat} {cA : Nat → ClassId} {ba : Nat}  : MCx D al cA ba yX10_faulty cX10_faulty 1 none 0 0 rvU [.ref (al 103)] (F_X10_faulty ) := by
  refine MCx_of (by decide +kernel) (Nat.le_of_ble_eq_true rfl) ?_
  intro p l e s m args below meth c σ0 g hrt
  unfold F_X10_faulty
  refine x_lv (lv' := [(0, .ref (al 103))]) [0] rfl ?_
  refine x_aload_n (pc := 0) g rfl 0 rfl dX10_faulty_0 ?_
  refine x_getI (pc := 1) g sh_103 fl_X10_195 rfl dX10_faulty_1 ?_
  refine x_if_ge (pc := 4) (tgt := 15) g (by decide) dX10_faulty_4 ?_ ?_
  · exact x_return (pc := 15) g hrt dX10_faulty_15
  · refine x_aload_n (pc := 7) g rfl 0 rfl dX10_faulty_7 ?_
    refine x_aload_n (pc := 8) g rfl 0 rfl dX10_faulty_8 ?_
    refine x_getI (pc := 9) g sh_103 fl_X10_192 rfl dX10_faulty_9 ?_
    refine x_putI (pc := 12) g sh_103 fl_X10_195 rfl dX10_faulty_12 (fun σ1 => ?_)
    exact x_return (pc := 15) g hrt dX10_faulty_15
def F_X10_addStep (a0 : Int32) (a1 : Int32) (σ0 : Sx) : Option (Unit × Sx) := sIx 116 260 ((130 : Int32) + (siI σ0 103 20)) (vp_nar .byte a0.toInt8.toInt32) σ0 (fun σ1 => sIx 117 260 ((130 : Int32) + (siI σ1 103 20)) a1 σ1 (fun σ2 => pIx 103 20 ((siI σ2 103 20) + (1 : Int32)) σ2 (fun σ3 => some ((), σ3))))
set_option maxRecDepth 100000 in
set_option maxHeartbeats 4000000 in
theorem mc_X10_addStep {D : va_G} {al : Nat → Nat} {cA : Nat → ClassId} {ba : Nat} (a0 : Int32) (a1 : Int32) : MCx D al cA ba yX10_addStep cX10_addStep 3 none 0 0 rvU [.ref (al 103), .int a0, .int a1] (F_X10_addStep a0 a1) := by
  refine MCx_of (by decide +kernel) (Nat.le_of_ble_eq_true rfl) ?_
  intro p l e s m args below meth c σ0 g hrt
  unfold F_X10_addStep
  refine x_lv (lv' := [(0, .ref (al 103)), (1, .int a0), (2, .int a1)]) [0, 1, 2] rfl ?_
  refine x_aload_n (pc := 0) g rfl 0 rfl dX10_addStep_0 ?_
  refine x_getR (pc := 1) g sh_103 fl_X10_47 rfl dX10_addStep_1 ?_
  refine x_sipush (pc := 4) (v := (130 : Int32)) g (by decide) dX10_addStep_4 ?_
  refine x_aload_n (pc := 7) g rfl 0 rfl dX10_addStep_7 ?_
  refine x_getI (pc := 8) g sh_103 fl_X10_198 rfl dX10_addStep_8 ?_
  refine x_iadd (pc := 11) g dX10_addStep_11 ?_
  refine x_iload_n (pc := 12) g rfl 1 rfl dX10_addStep_12 ?_
  refine x_i2b (pc := 13) g dX10_addStep_13 ?_
  refine x_bast (pc := 14) g sh_116 (by decide) dX10_addStep_14 (fun σ1 => ?_)
  refine x_aload_n (pc := 15) g rfl 0 rfl dX10_addStep_15 ?_
  refine x_getR (pc := 16) g sh_103 fl_X10_50 rfl dX10_addStep_16 ?_
  refine x_sipush (pc := 19) (v := (130 : Int32)) g (by decide) dX10_addStep_19 ?_
  refine x_aload_n (pc := 22) g rfl 0 rfl dX10_addStep_22 ?_
  refine x_getI (pc := 23) g sh_103 fl_X10_198 rfl dX10_addStep_23 ?_
  refine x_iadd (pc := 26) g dX10_addStep_26 ?_
  refine x_iload_n (pc := 27) g rfl 2 rfl dX10_addStep_27 ?_
  refine x_iast (pc := 28) g sh_117 (by decide) dX10_addStep_28 (fun σ2 => ?_)
  refine x_aload_n (pc := 29) g rfl 0 rfl dX10_addStep_29 ?_
  refine x_dup (pc := 30) g rfl dX10_addStep_30 ?_
  refine x_getI (pc := 31) g sh_103 fl_X10_198 rfl dX10_addStep_31 ?_
  refine x_iconst (pc := 34) (v := (1 : Int32)) g (by decide) dX10_addStep_34 ?_
  refine x_iadd (pc := 35) g dX10_addStep_35 ?_
  refine x_putI (pc := 36) g sh_103 fl_X10_198 rfl dX10_addStep_36 (fun σ3 => ?_)
  exact x_return (pc := 39) g hrt dX10_addStep_39
def F_X10_nameOf (a0 : Int32) (σ0 : Sx) : Option (Int32 × Sx) := (if a0 = (107 : Int32) then some ((2 : Int32), σ0) else (if a0 = (108 : Int32) then some ((3 : Int32), σ0) else (if a0 = (109 : Int32) then some ((5 : Int32), σ0) else (if a0 = (110 : Int32) then some ((0 : Int32), σ0) else (if a0 = (111 : Int32) then some ((-1 : Int32), σ0) else (if a0 = (112 : Int32) then some ((-1 : Int32), σ0) else (if a0 = (113 : Int32) then some ((-1 : Int32), σ0) else (if a0 = (114 : Int32) then some ((-1 : Int32), σ0) else (if a0 = (115 : Int32) then some ((1 : Int32), σ0) else (if a0 = (116 : Int32) then some ((-1 : Int32), σ0) else (if a0 = (117 : Int32) then some ((-1 : Int32), σ0) else (if a0 = (118 : Int32) then some ((-1 : Int32), σ0) else (if a0 = (119 : Int32) then some ((4 : Int32), σ0) else some ((-1 : Int32), σ0))))))))))))))
set_option maxRecDepth 100000 in
set_option maxHeartbeats 4000000 in
theorem mc_X10_nameOf {D : va_G} {al : Nat → Nat} {cA : Nat → ClassId} {ba : Nat} (a0 : Int32) : MCx D al cA ba yX10_nameOf cX10_nameOf 1 (some .int) 0 0 rvI [.int a0] (F_X10_nameOf a0) := by
  refine MCx_of (by decide +kernel) (Nat.le_of_ble_eq_true rfl) ?_
  intro p l e s m args below meth c σ0 g hrt
  unfold F_X10_nameOf
  refine x_lv (lv' := [(0, .int a0)]) [0] rfl ?_
  refine x_iload_n (pc := 0) g rfl 0 rfl dX10_nameOf_0 ?_
  refine x_eqs ?_ (fun hs1 => ?_)
  · refine x_tabIn (pc := 1) (tgt := 72) (off := 71) g (by decide) (by decide) dX10_nameOf_1 ?_
    refine x_iconst (pc := 72) (v := (2 : Int32)) g (by decide) dX10_nameOf_72 ?_
    exact x_ireturn (pc := 73) g hrt dX10_nameOf_73
  refine x_eqs ?_ (fun hs2 => ?_)
  · refine x_tabIn (pc := 1) (tgt := 74) (off := 73) g (by decide) (by decide) dX10_nameOf_1 ?_
    refine x_iconst (pc := 74) (v := (3 : Int32)) g (by decide) dX10_nameOf_74 ?_
    exact x_ireturn (pc := 75) g hrt dX10_nameOf_75
  refine x_eqs ?_ (fun hs3 => ?_)
  · refine x_tabIn (pc := 1) (tgt := 78) (off := 77) g (by decide) (by decide) dX10_nameOf_1 ?_
    refine x_iconst (pc := 78) (v := (5 : Int32)) g (by decide) dX10_nameOf_78 ?_
    exact x_ireturn (pc := 79) g hrt dX10_nameOf_79
  refine x_eqs ?_ (fun hs4 => ?_)
  · refine x_tabIn (pc := 1) (tgt := 68) (off := 67) g (by decide) (by decide) dX10_nameOf_1 ?_
    refine x_iconst (pc := 68) (v := (0 : Int32)) g (by decide) dX10_nameOf_68 ?_
    exact x_ireturn (pc := 69) g hrt dX10_nameOf_69
  refine x_eqs ?_ (fun hs5 => ?_)
  · refine x_tabIn (pc := 1) (tgt := 80) (off := 79) g (by decide) (by decide) dX10_nameOf_1 ?_
    refine x_iconst (pc := 80) (v := (-1 : Int32)) g (by decide) dX10_nameOf_80 ?_
    exact x_ireturn (pc := 81) g hrt dX10_nameOf_81
  refine x_eqs ?_ (fun hs6 => ?_)
  · refine x_tabIn (pc := 1) (tgt := 80) (off := 79) g (by decide) (by decide) dX10_nameOf_1 ?_
    refine x_iconst (pc := 80) (v := (-1 : Int32)) g (by decide) dX10_nameOf_80 ?_
    exact x_ireturn (pc := 81) g hrt dX10_nameOf_81
  refine x_eqs ?_ (fun hs7 => ?_)
  · refine x_tabIn (pc := 1) (tgt := 80) (off := 79) g (by decide) (by decide) dX10_nameOf_1 ?_
    refine x_iconst (pc := 80) (v := (-1 : Int32)) g (by decide) dX10_nameOf_80 ?_
    exact x_ireturn (pc := 81) g hrt dX10_nameOf_81
  refine x_eqs ?_ (fun hs8 => ?_)
  · refine x_tabIn (pc := 1) (tgt := 80) (off := 79) g (by decide) (by decide) dX10_nameOf_1 ?_
    refine x_iconst (pc := 80) (v := (-1 : Int32)) g (by decide) dX10_nameOf_80 ?_
    exact x_ireturn (pc := 81) g hrt dX10_nameOf_81
  refine x_eqs ?_ (fun hs9 => ?_)
  · refine x_tabIn (pc := 1) (tgt := 70) (off := 69) g (by decide) (by decide) dX10_nameOf_1 ?_
    refine x_iconst (pc := 70) (v := (1 : Int32)) g (by decide) dX10_nameOf_70 ?_
    exact x_ireturn (pc := 71) g hrt dX10_nameOf_71
  refine x_eqs ?_ (fun hs10 => ?_)
  · refine x_tabIn (pc := 1) (tgt := 80) (off := 79) g (by decide) (by decide) dX10_nameOf_1 ?_
    refine x_iconst (pc := 80) (v := (-1 : Int32)) g (by decide) dX10_nameOf_80 ?_
    exact x_ireturn (pc := 81) g hrt dX10_nameOf_81
  refine x_eqs ?_ (fun hs11 => ?_)
  · refine x_tabIn (pc := 1) (tgt := 80) (off := 79) g (by decide) (by decide) dX10_nameOf_1 ?_
    refine x_iconst (pc := 80) (v := (-1 : Int32)) g (by decide) dX10_nameOf_80 ?_
    exact x_ireturn (pc := 81) g hrt dX10_nameOf_81
  refine x_eqs ?_ (fun hs12 => ?_)
  · refine x_tabIn (pc := 1) (tgt := 80) (off := 79) g (by decide) (by decide) dX10_nameOf_1 ?_
    refine x_iconst (pc := 80) (v := (-1 : Int32)) g (by decide) dX10_nameOf_80 ?_
    exact x_ireturn (pc := 81) g hrt dX10_nameOf_81
  refine x_eqs ?_ (fun hs13 => ?_)
  · refine x_tabIn (pc := 1) (tgt := 76) (off := 75) g (by decide) (by decide) dX10_nameOf_1 ?_
    refine x_iconst (pc := 76) (v := (4 : Int32)) g (by decide) dX10_nameOf_76 ?_
    exact x_ireturn (pc := 77) g hrt dX10_nameOf_77
  refine x_tabOut (pc := 1) (tgt := 80) g (fun i h1 h2 => ?_) (by decide) dX10_nameOf_1 ?_
  · rcases (show i = 107 ∨ i = 108 ∨ i = 109 ∨ i = 110 ∨ i = 111 ∨ i = 112 ∨ i = 113 ∨ i = 114 ∨ i = 115 ∨ i = 116 ∨ i = 117 ∨ i = 118 ∨ i = 119 by omega) with rfl | rfl | rfl | rfl | rfl | rfl | rfl | rfl | rfl | rfl | rfl | rfl | rfl
    · exact hs1
    · exact hs2
    · exact hs3
    · exact hs4
    · exact hs5
    · exact hs6
    · exact hs7
    · exact hs8
    · exact hs9
    · exact hs10
    · exact hs11
    · exact hs12
    · exact hs13
  · refine x_iconst (pc := 80) (v := (-1 : Int32)) g (by decide) dX10_nameOf_80 ?_
    exact x_ireturn (pc := 81) g hrt dX10_nameOf_81
def F_X10_opens (σ0 : Sx) : Option (Int32 × Sx) := (if (siI σ0 103 19) = (6 : Int32) then clx (F_X10_faulty  σ0) (fun _ σ3 => some ((0 : Int32), σ3)) else pIx 103 19 ((siI σ0 103 19) + (1 : Int32)) σ0 (fun σ1 => pIx 103 17 ((siI σ1 103 17) + (1 : Int32)) σ1 (fun σ2 => some ((1 : Int32), σ2))))
set_option maxRecDepth 100000 in
set_option maxHeartbeats 4000000 in
theorem mc_X10_opens {D : va_G} {al : Nat → Nat} {cA : Nat → ClassId} {ba : Nat}  : MCx D al cA ba yX10_opens cX10_opens 1 (some .boolean) 1 20 rvI [.ref (al 103)] (F_X10_opens ) := by
  refine MCx_of (by decide +kernel) (Nat.le_of_ble_eq_true rfl) ?_
  intro p l e s m args below meth c σ0 g hrt
  unfold F_X10_opens
  refine x_lv (lv' := [(0, .ref (al 103))]) [0] rfl ?_
  refine x_aload_n (pc := 0) g rfl 0 rfl dX10_opens_0 ?_
  refine x_getI (pc := 1) g sh_103 fl_X10_201 rfl dX10_opens_1 ?_
  refine x_bipush (pc := 4) (v := (6 : Int32)) g (by decide) dX10_opens_4 ?_
  refine x_icmp_ne (pc := 6) (tgt := 15) g (by decide) dX10_opens_6 ?_ ?_
  · refine x_aload_n (pc := 15) g rfl 0 rfl dX10_opens_15 ?_
    refine x_dup (pc := 16) g rfl dX10_opens_16 ?_
    refine x_getI (pc := 17) g sh_103 fl_X10_201 rfl dX10_opens_17 ?_
    refine x_iconst (pc := 20) (v := (1 : Int32)) g (by decide) dX10_opens_20 ?_
    refine x_iadd (pc := 21) g dX10_opens_21 ?_
    refine x_putI (pc := 22) g sh_103 fl_X10_201 rfl dX10_opens_22 (fun σ1 => ?_)
    refine x_aload_n (pc := 25) g rfl 0 rfl dX10_opens_25 ?_
    refine x_dup (pc := 26) g rfl dX10_opens_26 ?_
    refine x_getI (pc := 27) g sh_103 fl_X10_192 rfl dX10_opens_27 ?_
    refine x_iconst (pc := 30) (v := (1 : Int32)) g (by decide) dX10_opens_30 ?_
    refine x_iadd (pc := 31) g dX10_opens_31 ?_
    refine x_putI (pc := 32) g sh_103 fl_X10_192 rfl dX10_opens_32 (fun σ2 => ?_)
    refine x_iconst (pc := 35) (v := (1 : Int32)) g (by decide) dX10_opens_35 ?_
    exact x_zreturn (pc := 36) g hrt (by decide) dX10_opens_36
  · refine x_aload_n (pc := 9) g rfl 0 rfl dX10_opens_9 ?_
    refine x_callVU (pc := 10) (As := []) g sh_103 (mc_X10_faulty ) cw_X10_faulty lk_X10_204 rfl ⟨Nat.le_of_ble_eq_true rfl, Nat.le_of_ble_eq_true rfl⟩ rfl (Nat.le_of_ble_eq_true rfl) dX10_opens_10 (fun _ σ3 => ?_)
    refine x_iconst (pc := 13) (v := (0 : Int32)) g (by decide) dX10_opens_13 ?_
    exact x_zreturn (pc := 14) g hrt (by decide) dX10_opens_14
def B_X10_figure_L4 (N : Nat) (j52 : Int32 → Int32 → Sx → Option (Unit × Sx)) (r4 : Int32 → Int32 → Sx → Option (Unit × Sx)) (x3 : Int32) (x4 : Int32) (σ8 : Sx) : Option (Unit × Sx) := (if (4 : Int32) ≤ x4 then j52 x3 x4 σ8 else clx (F_X10_looksOn  σ8) (fun v3 σ9 => clx (F_X10_in v3 (48 : Int32) (57 : Int32) σ9) (fun v4 σ10 => (if v4 = 0 then j52 x3 x4 σ10 else clx (F_X10_looksOn  σ10) (fun v5 σ11 => nmx (((((10 : Int32) * x3) + v5) - (48 : Int32))) (fun v6 => pIx 103 17 ((siI σ11 103 17) + (1 : Int32)) σ11 (fun σ12 => r4 v6 (x4 + (1 : Int32)) σ12)))))))
def F_X10_figure (N : Nat) (σ0 : Sx) : Option (Unit × Sx) := nmx (fun (x1 : Int32) (x2 : Int32) (σ1 : Sx) => nmx (fun (σ2 : Sx) => clx (F_X10_addStep (1 : Int32) x1 σ2) (fun _ σ3 => some ((), σ3))) (fun (j74 : Sx → Option (Unit × Sx)) => nmx (fun (σ4 : Sx) => clx (F_X10_faulty  σ4) (fun _ σ5 => j74 σ5)) (fun (j70 : Sx → Option (Unit × Sx)) => (if x2 = 0 then j70 σ1 else clx (F_X10_looksOn  σ1) (fun v1 σ6 => clx (F_X10_in v1 (48 : Int32) (57 : Int32) σ6) (fun v2 σ7 => (if v2 = 0 then j74 σ7 else j70 σ7))))))) (fun (j52 : Int32 → Int32 → Sx → Option (Unit × Sx)) => lpx2 (B_X10_figure_L4 N j52) N (0 : Int32) (0 : Int32) σ0)
set_option maxRecDepth 100000 in
set_option maxHeartbeats 4000000 in
theorem mc_X10_figure {D : va_G} {al : Nat → Nat} {cA : Nat → ClassId} {ba : Nat} (N : Nat)  : MCx D al cA ba yX10_figure cX10_figure 3 none 1 22 rvU [.ref (al 103)] (F_X10_figure N) := by
  refine MCx_of (by decide +kernel) (Nat.le_of_ble_eq_true rfl) ?_
  intro p l e s m args below meth c σ0 g hrt
  unfold F_X10_figure
  refine x_lv (lv' := [(0, .ref (al 103))]) [0] rfl ?_
  refine x_iconst (pc := 0) (v := (0 : Int32)) g (by decide) dX10_figure_0 ?_
  refine x_istore_n (pc := 1) (lv' := [(1, .int (0 : Int32)), (0, .ref (al 103))]) g rfl (by decide) rfl dX10_figure_1 ?_
  refine x_iconst (pc := 2) (v := (0 : Int32)) g (by decide) dX10_figure_2 ?_
  refine x_istore_n (pc := 3) (lv' := [(2, .int (0 : Int32)), (1, .int (0 : Int32)), (0, .ref (al 103))]) g rfl (by decide) rfl dX10_figure_3 ?_
  refine x_jn (fun (j52 : Int32 → Int32 → Sx → Option (Unit × Sx)) => ∀ (x1 : Int32) (x2 : Int32) (σ1 : Sx), XTx p l e { frames := 1, cells := 0, slots := 0, locals := 22 } s m args below meth c D al cA ba 3 (MQx rvU D al cA ba below args s) 0 0 52 [(0, .ref (al 103)), (1, .int x1), (2, .int x2)] [] σ1 (j52 x1 x2 σ1)) (fun x1 x2 σ1 => ?_) (fun j52 hj52 => ?_)
  · refine x_iload_n (pc := 52) g rfl 2 rfl dX10_figure_52 ?_
    refine x_jn (fun (j74 : Sx → Option (Unit × Sx)) => ∀ (σ2 : Sx), XTx p l e { frames := 1, cells := 0, slots := 0, locals := 22 } s m args below meth c D al cA ba 3 (MQx rvU D al cA ba below args s) 0 0 74 [(0, .ref (al 103)), (1, .int x1)] [] σ2 (j74 σ2)) (fun σ2 => ?_) (fun j74 hj74 => ?_)
    · refine x_aload_n (pc := 74) g rfl 0 rfl dX10_figure_74 ?_
      refine x_iconst (pc := 75) (v := (1 : Int32)) g (by decide) dX10_figure_75 ?_
      refine x_iload_n (pc := 76) g rfl 1 rfl dX10_figure_76 ?_
      refine x_callVU (pc := 77) (As := [.int (1 : Int32), .int x1]) g sh_103 (mc_X10_addStep (1 : Int32) x1) cw_X10_addStep lk_X10_211 rfl ⟨Nat.le_of_ble_eq_true rfl, Nat.le_of_ble_eq_true rfl⟩ rfl (Nat.le_of_ble_eq_true rfl) dX10_figure_77 (fun _ σ3 => ?_)
      exact x_return (pc := 80) g hrt dX10_figure_80
    · refine x_jn (fun (j70 : Sx → Option (Unit × Sx)) => ∀ (σ4 : Sx), XTx p l e { frames := 1, cells := 0, slots := 0, locals := 22 } s m args below meth c D al cA ba 3 (MQx rvU D al cA ba below args s) 0 0 70 [(0, .ref (al 103)), (1, .int x1)] [] σ4 (j70 σ4)) (fun σ4 => ?_) (fun j70 hj70 => ?_)
      · refine x_aload_n (pc := 70) g rfl 0 rfl dX10_figure_70 ?_
        refine x_callVU (pc := 71) (As := []) g sh_103 (mc_X10_faulty ) cw_X10_faulty lk_X10_204 rfl ⟨Nat.le_of_ble_eq_true rfl, Nat.le_of_ble_eq_true rfl⟩ rfl (Nat.le_of_ble_eq_true rfl) dX10_figure_71 (fun _ σ5 => ?_)
        exact hj74 σ5
      · refine x_if_eq (pc := 53) (tgt := 70) g (by decide) dX10_figure_53 ?_ ?_
        · refine x_lv [0, 1] rfl ?_
          exact hj70 σ1
        · refine x_aload_n (pc := 56) g rfl 0 rfl dX10_figure_56 ?_
          refine x_callVI (pc := 57) (As := []) g sh_103 (mc_X10_looksOn ) cw_X10_looksOn lk_X10_207 rfl ⟨Nat.le_of_ble_eq_true rfl, Nat.le_of_ble_eq_true rfl⟩ rfl (Nat.le_of_ble_eq_true rfl) dX10_figure_57 (fun v1 σ6 => ?_)
          refine x_bipush (pc := 60) (v := (48 : Int32)) g (by decide) dX10_figure_60 ?_
          refine x_bipush (pc := 62) (v := (57 : Int32)) g (by decide) dX10_figure_62 ?_
          refine x_callSI (pc := 64) (As := [.int v1, .int (48 : Int32), .int (57 : Int32)]) g (mc_X10_in v1 (48 : Int32) (57 : Int32)) cw_X10_in lk_X10_131 rfl ⟨Nat.le_of_ble_eq_true rfl, Nat.le_of_ble_eq_true rfl⟩ rfl (Nat.le_of_ble_eq_true rfl) dX10_figure_64 (fun v2 σ7 => ?_)
          refine x_if_eq (pc := 67) (tgt := 74) g (by decide) dX10_figure_67 ?_ ?_
          · refine x_lv [0, 1] rfl ?_
            exact hj74 σ7
          · refine x_lv [0, 1] rfl ?_
            exact hj70 σ7
  · refine x_lv [2, 1, 0] rfl ?_
    refine lpx2_ind (fun (x3 : Int32) (x4 : Int32) (σ8 : Sx) (K : Option (Unit × Sx)) => XTx p l e { frames := 1, cells := 0, slots := 0, locals := 22 } s m args below meth c D al cA ba 3 (MQx rvU D al cA ba below args s) 0 0 4 [(0, .ref (al 103)), (1, .int x3), (2, .int x4)] [] σ8 (K)) (fun _ _ _ => x_no) (fun r4 hr4 x3 x4 σ8 => ?_) N (0 : Int32) (0 : Int32) σ0
    show XTx p l e { frames := 1, cells := 0, slots := 0, locals := 22 } s m args below meth c D al cA ba 3 (MQx rvU D al cA ba below args s) 0 0 4 [(0, .ref (al 103)), (1, .int x3), (2, .int x4)] [] σ8 (B_X10_figure_L4 N j52 r4 x3 x4 σ8)
    unfold B_X10_figure_L4
    refine x_iload_n (pc := 4) g rfl 2 rfl dX10_figure_4 ?_
    refine x_iconst (pc := 5) (v := (4 : Int32)) g (by decide) dX10_figure_5 ?_
    refine x_icmp_ge (pc := 6) (tgt := 52) g (by decide) dX10_figure_6 ?_ ?_
    · exact hj52 x3 x4 σ8
    · refine x_aload_n (pc := 9) g rfl 0 rfl dX10_figure_9 ?_
      refine x_callVI (pc := 10) (As := []) g sh_103 (mc_X10_looksOn ) cw_X10_looksOn lk_X10_207 rfl ⟨Nat.le_of_ble_eq_true rfl, Nat.le_of_ble_eq_true rfl⟩ rfl (Nat.le_of_ble_eq_true rfl) dX10_figure_10 (fun v3 σ9 => ?_)
      refine x_bipush (pc := 13) (v := (48 : Int32)) g (by decide) dX10_figure_13 ?_
      refine x_bipush (pc := 15) (v := (57 : Int32)) g (by decide) dX10_figure_15 ?_
      refine x_callSI (pc := 17) (As := [.int v3, .int (48 : Int32), .int (57 : Int32)]) g (mc_X10_in v3 (48 : Int32) (57 : Int32)) cw_X10_in lk_X10_131 rfl ⟨Nat.le_of_ble_eq_true rfl, Nat.le_of_ble_eq_true rfl⟩ rfl (Nat.le_of_ble_eq_true rfl) dX10_figure_17 (fun v4 σ10 => ?_)
      refine x_if_eq (pc := 20) (tgt := 52) g (by decide) dX10_figure_20 ?_ ?_
      · exact hj52 x3 x4 σ10
      · refine x_bipush (pc := 23) (v := (10 : Int32)) g (by decide) dX10_figure_23 ?_
        refine x_iload_n (pc := 25) g rfl 1 rfl dX10_figure_25 ?_
        refine x_imul (pc := 26) g dX10_figure_26 ?_
        refine x_aload_n (pc := 27) g rfl 0 rfl dX10_figure_27 ?_
        refine x_callVI (pc := 28) (As := []) g sh_103 (mc_X10_looksOn ) cw_X10_looksOn lk_X10_207 rfl ⟨Nat.le_of_ble_eq_true rfl, Nat.le_of_ble_eq_true rfl⟩ rfl (Nat.le_of_ble_eq_true rfl) dX10_figure_28 (fun v5 σ11 => ?_)
        refine x_iadd (pc := 31) g dX10_figure_31 ?_
        refine x_bipush (pc := 32) (v := (48 : Int32)) g (by decide) dX10_figure_32 ?_
        refine x_isub (pc := 34) g dX10_figure_34 ?_
        refine x_nm (fun v6 => ?_)
        refine x_istore_n (pc := 35) (lv' := [(1, .int v6), (0, .ref (al 103)), (2, .int x4)]) g rfl (by decide) rfl dX10_figure_35 ?_
        refine x_iinc (pc := 36) (v := (x4 + (1 : Int32))) (lv' := [(2, .int (x4 + (1 : Int32))), (1, .int v6), (0, .ref (al 103))]) g 2 rfl (by rfl) (by decide) rfl dX10_figure_36 ?_
        refine x_aload_n (pc := 39) g rfl 2 rfl dX10_figure_39 ?_
        refine x_dup (pc := 40) g rfl dX10_figure_40 ?_
        refine x_getI (pc := 41) g sh_103 fl_X10_192 rfl dX10_figure_41 ?_
        refine x_iconst (pc := 44) (v := (1 : Int32)) g (by decide) dX10_figure_44 ?_
        refine x_iadd (pc := 45) g dX10_figure_45 ?_
        refine x_putI (pc := 46) g sh_103 fl_X10_192 rfl dX10_figure_46 (fun σ12 => ?_)
        refine x_goto (pc := 49) (tgt := 4) g (by decide) dX10_figure_49 ?_
        refine x_lv [2, 1, 0] rfl ?_
        exact hr4 v6 (x4 + (1 : Int32)) σ12
def B_X10_both_L4 (N : Nat) (self : Nat → Sx → Option (Unit × Sx)) (r4 : Sx → Option (Unit × Sx)) (σ2 : Sx) : Option (Unit × Sx) := (if 0 ≤ (siI σ2 103 18) then some ((), σ2) else clx (F_X10_looksOn  σ2) (fun v1 σ3 => (if v1 = (38 : Int32) then pIx 103 17 ((siI σ3 103 17) + (1 : Int32)) σ3 (fun σ4 => clx (self 1 σ4) (fun _ σ5 => clx (F_X10_addStep (38 : Int32) (0 : Int32) σ5) (fun _ σ6 => r4 σ6))) else some ((), σ3))))
def G_X10_both (N : Nat) (self : Nat → Sx → Option (Unit × Sx)) (σ0 : Sx) : Option (Unit × Sx) := clx (self 1 σ0) (fun _ σ1 => lpx0 (B_X10_both_L4 N self) N  σ1)
def G_X10_compared (N : Nat) (self : Nat → Sx → Option (Unit × Sx)) (σ0 : Sx) : Option (Unit × Sx) := clx (self 5 σ0) (fun _ σ1 => clx (F_X10_looksOn  σ1) (fun v1 σ2 => (if 0 ≤ (siI σ2 103 18) then some ((), σ2) else nmx (fun (σ3 : Sx) => pIx 103 17 ((siI σ3 103 17) + (1 : Int32)) σ3 (fun σ4 => clx (self 5 σ4) (fun _ σ5 => clx (F_X10_addStep v1 (0 : Int32) σ5) (fun _ σ6 => some ((), σ6))))) (fun (j35 : Sx → Option (Unit × Sx)) => (if v1 = (60 : Int32) then j35 σ2 else (if v1 = (61 : Int32) then j35 σ2 else (if v1 = (62 : Int32) then j35 σ2 else some ((), σ2))))))))
def B_X10_either_L4 (N : Nat) (self : Nat → Sx → Option (Unit × Sx)) (r4 : Sx → Option (Unit × Sx)) (σ2 : Sx) : Option (Unit × Sx) := (if 0 ≤ (siI σ2 103 18) then some ((), σ2) else clx (F_X10_looksOn  σ2) (fun v1 σ3 => (if v1 = (124 : Int32) then pIx 103 17 ((siI σ3 103 17) + (1 : Int32)) σ3 (fun σ4 => clx (self 0 σ4) (fun _ σ5 => clx (F_X10_addStep (124 : Int32) (0 : Int32) σ5) (fun _ σ6 => r4 σ6))) else some ((), σ3))))
def G_X10_either (N : Nat) (self : Nat → Sx → Option (Unit × Sx)) (σ0 : Sx) : Option (Unit × Sx) := clx (self 0 σ0) (fun _ σ1 => lpx0 (B_X10_either_L4 N self) N  σ1)
def G_X10_operand (N : Nat) (self : Nat → Sx → Option (Unit × Sx)) (σ0 : Sx) : Option (Unit × Sx) := clx (F_X10_looksOn  σ0) (fun v1 σ1 => clx (F_X10_nameOf v1 σ1) (fun v2 σ2 => (if v2 < 0 then nmx (fun (σ3 : Sx) => clx (F_X10_opens  σ3) (fun v3 σ4 => (if v3 = 0 then some ((), σ4) else clx (self 3 σ4) (fun _ σ5 => pIx 103 19 ((siI σ5 103 19) - (1 : Int32)) σ5 (fun σ6 => nmx (fun (y1 : Int32) (σ7 : Sx) => clx (F_X10_addStep y1 (0 : Int32) σ7) (fun _ σ8 => some ((), σ8))) (fun (j80 : Int32 → Sx → Option (Unit × Sx)) => (if v1 = (33 : Int32) then j80 (3 : Int32) σ6 else j80 (4 : Int32) σ6))))))) (fun (j46 : Sx → Option (Unit × Sx)) => (if v1 = (33 : Int32) then j46 σ2 else (if v1 = (45 : Int32) then j46 σ2 else (if v1 = (40 : Int32) then clx (F_X10_opens  σ2) (fun v4 σ10 => (if v4 = 0 then some ((), σ10) else clx (self 2 σ10) (fun _ σ11 => (if (siI σ11 103 18) < 0 then clx (F_X10_looksOn  σ11) (fun v5 σ12 => (if v5 = (41 : Int32) then pIx 103 17 ((siI σ12 103 17) + (1 : Int32)) σ12 (fun σ13 => pIx 103 19 ((siI σ13 103 19) - (1 : Int32)) σ13 (fun σ14 => some ((), σ14))) else clx (F_X10_faulty  σ12) (fun _ σ15 => some ((), σ15)))) else some ((), σ11))))) else clx (F_X10_figure N  σ2) (fun _ σ9 => some ((), σ9)))))) else clx (F_X10_nameOf v1 σ2) (fun v6 σ16 => clx (F_X10_addStep (2 : Int32) v6 σ16) (fun _ σ17 => pIx 103 17 ((siI σ17 103 17) + (1 : Int32)) σ17 (fun σ18 => some ((), σ18)))))))
def B_X10_product_L4 (N : Nat) (self : Nat → Sx → Option (Unit × Sx)) (r4 : Sx → Option (Unit × Sx)) (σ2 : Sx) : Option (Unit × Sx) := (if 0 ≤ (siI σ2 103 18) then some ((), σ2) else clx (F_X10_looksOn  σ2) (fun v1 σ3 => nmx (fun (σ4 : Sx) => clx (F_X10_looksOn  σ4) (fun v2 σ5 => pIx 103 17 ((siI σ5 103 17) + (1 : Int32)) σ5 (fun σ6 => clx (self 3 σ6) (fun _ σ7 => clx (F_X10_addStep v2 (0 : Int32) σ7) (fun _ σ8 => r4 σ8))))) (fun (j38 : Sx → Option (Unit × Sx)) => (if v1 = (42 : Int32) then j38 σ3 else clx (F_X10_looksOn  σ3) (fun v3 σ9 => (if v3 = (47 : Int32) then j38 σ9 else clx (F_X10_looksOn  σ9) (fun v4 σ10 => (if v4 = (37 : Int32) then j38 σ10 else some ((), σ10)))))))))
def G_X10_product (N : Nat) (self : Nat → Sx → Option (Unit × Sx)) (σ0 : Sx) : Option (Unit × Sx) := clx (self 3 σ0) (fun _ σ1 => lpx0 (B_X10_product_L4 N self) N  σ1)
def B_X10_sum_L4 (N : Nat) (self : Nat → Sx → Option (Unit × Sx)) (r4 : Sx → Option (Unit × Sx)) (σ2 : Sx) : Option (Unit × Sx) := (if 0 ≤ (siI σ2 103 18) then some ((), σ2) else clx (F_X10_looksOn  σ2) (fun v1 σ3 => nmx (fun (σ4 : Sx) => clx (F_X10_looksOn  σ4) (fun v2 σ5 => pIx 103 17 ((siI σ5 103 17) + (1 : Int32)) σ5 (fun σ6 => clx (self 4 σ6) (fun _ σ7 => clx (F_X10_addStep v2 (0 : Int32) σ7) (fun _ σ8 => r4 σ8))))) (fun (j29 : Sx → Option (Unit × Sx)) => (if v1 = (43 : Int32) then j29 σ3 else clx (F_X10_looksOn  σ3) (fun v3 σ9 => (if v3 = (45 : Int32) then j29 σ9 else some ((), σ9)))))))
def G_X10_sum (N : Nat) (self : Nat → Sx → Option (Unit × Sx)) (σ0 : Sx) : Option (Unit × Sx) := clx (self 4 σ0) (fun _ σ1 => lpx0 (B_X10_sum_L4 N self) N  σ1)
def R_X10_grp (N : Nat) : Nat → Nat → Sx → Option (Unit × Sx)
  | 0 => fun _ _ => none
  | d + 1 => fun sel  σ => if sel = 0 then G_X10_both N (R_X10_grp N d)  σ else if sel = 1 then G_X10_compared N (R_X10_grp N d)  σ else if sel = 2 then G_X10_either N (R_X10_grp N d)  σ else if sel = 3 then G_X10_operand N (R_X10_grp N d)  σ else if sel = 4 then G_X10_product N (R_X10_grp N d)  σ else G_X10_sum N (R_X10_grp N d)  σ
set_option maxRecDepth 100000 in
set_option maxHeartbeats 8000000 in
theorem rc_X10_grp {D : va_G} {al : Nat → Nat} {cA : Nat → ClassId} {ba : Nat} (N : Nat) : ∀ d : Nat, (MCx D al cA ba yX10_both cX10_both 1 none (d + 2) (d * 21 + 44) rvU [.ref (al 103)] (R_X10_grp N d 0)) ∧ (MCx D al cA ba yX10_compared cX10_compared 2 none (d + 2) (d * 21 + 44) rvU [.ref (al 103)] (R_X10_grp N d 1)) ∧ (MCx D al cA ba yX10_either cX10_either 1 none (d + 2) (d * 21 + 44) rvU [.ref (al 103)] (R_X10_grp N d 2)) ∧ (MCx D al cA ba yX10_operand cX10_operand 2 none (d + 2) (d * 21 + 44) rvU [.ref (al 103)] (R_X10_grp N d 3)) ∧ (MCx D al cA ba yX10_product cX10_product 2 none (d + 2) (d * 21 + 44) rvU [.ref (al 103)] (R_X10_grp N d 4)) ∧ (MCx D al cA ba yX10_sum cX10_sum 2 none (d + 2) (d * 21 + 44) rvU [.ref (al 103)] (R_X10_grp N d 5)) := by
  intro d
  induction d with
  | zero => exact ⟨(fun l σ out ho => nomatch (show (none : Option (Unit × Sx)) = some out from ho)), (fun l σ out ho => nomatch (show (none : Option (Unit × Sx)) = some out from ho)), (fun l σ out ho => nomatch (show (none : Option (Unit × Sx)) = some out from ho)), (fun l σ out ho => nomatch (show (none : Option (Unit × Sx)) = some out from ho)), (fun l σ out ho => nomatch (show (none : Option (Unit × Sx)) = some out from ho)), (fun l σ out ho => nomatch (show (none : Option (Unit × Sx)) = some out from ho))⟩
  | succ d ih =>
    obtain ⟨ih0, ih1, ih2, ih3, ih4, ih5⟩ := ih
    refine ⟨?_, ?_, ?_, ?_, ?_, ?_⟩
    · show MCx D al cA ba yX10_both cX10_both 1 none (d + 1 + 2) ((d + 1) * 21 + 44) rvU [.ref (al 103)] (G_X10_both N (R_X10_grp N d) )
      refine MCx_of (by decide +kernel) (Nat.le_of_ble_eq_true rfl) ?_
      intro p l e s m args below meth c σ0 g hrt
      unfold G_X10_both
      refine x_lv (lv' := [(0, .ref (al 103))]) [0] rfl ?_
      refine x_aload_n (pc := 0) g rfl 0 rfl dX10_both_0 ?_
      refine x_callVU (pc := 1) (As := []) g sh_103 ih1 cw_X10_compared lk_X10_237 rfl ⟨by show d + 2 + 1 ≤ d + 1 + 2; omega, by show 8 + (2 + 11) + (d * 21 + 44) ≤ (d + 1) * 21 + 44; omega⟩ rfl (Nat.le_of_ble_eq_true rfl) dX10_both_1 (fun _ σ1 => ?_)
      refine lpx0_ind (fun (σ2 : Sx) (K : Option (Unit × Sx)) => XTx p l e { frames := d + 1 + 2, cells := 0, slots := 0, locals := (d + 1) * 21 + 44 } s m args below meth c D al cA ba 1 (MQx rvU D al cA ba below args s) 0 0 4 [(0, .ref (al 103))] [] σ2 (K)) (fun _ => x_no) (fun r4 hr4 σ2 => ?_) N  σ1
      show XTx p l e { frames := d + 1 + 2, cells := 0, slots := 0, locals := (d + 1) * 21 + 44 } s m args below meth c D al cA ba 1 (MQx rvU D al cA ba below args s) 0 0 4 [(0, .ref (al 103))] [] σ2 (B_X10_both_L4 N (R_X10_grp N d) r4 σ2)
      unfold B_X10_both_L4
      refine x_aload_n (pc := 4) g rfl 0 rfl dX10_both_4 ?_
      refine x_getI (pc := 5) g sh_103 fl_X10_195 rfl dX10_both_5 ?_
      refine x_if_ge (pc := 8) (tgt := 44) g (by decide) dX10_both_8 ?_ ?_
      · exact x_return (pc := 44) g hrt dX10_both_44
      · refine x_aload_n (pc := 11) g rfl 0 rfl dX10_both_11 ?_
        refine x_callVI (pc := 12) (As := []) g sh_103 (mc_X10_looksOn ) cw_X10_looksOn lk_X10_207 rfl ⟨by show 0 + 1 ≤ d + 1 + 2; omega, by show 8 + (1 + 11) + 0 ≤ (d + 1) * 21 + 44; omega⟩ rfl (Nat.le_of_ble_eq_true rfl) dX10_both_12 (fun v1 σ3 => ?_)
        refine x_bipush (pc := 15) (v := (38 : Int32)) g (by decide) dX10_both_15 ?_
        refine x_icmp_ne (pc := 17) (tgt := 44) g (by decide) dX10_both_17 ?_ ?_
        · exact x_return (pc := 44) g hrt dX10_both_44
        · refine x_aload_n (pc := 20) g rfl 0 rfl dX10_both_20 ?_
          refine x_dup (pc := 21) g rfl dX10_both_21 ?_
          refine x_getI (pc := 22) g sh_103 fl_X10_192 rfl dX10_both_22 ?_
          refine x_iconst (pc := 25) (v := (1 : Int32)) g (by decide) dX10_both_25 ?_
          refine x_iadd (pc := 26) g dX10_both_26 ?_
          refine x_putI (pc := 27) g sh_103 fl_X10_192 rfl dX10_both_27 (fun σ4 => ?_)
          refine x_aload_n (pc := 30) g rfl 0 rfl dX10_both_30 ?_
          refine x_callVU (pc := 31) (As := []) g sh_103 ih1 cw_X10_compared lk_X10_237 rfl ⟨by show d + 2 + 1 ≤ d + 1 + 2; omega, by show 8 + (2 + 11) + (d * 21 + 44) ≤ (d + 1) * 21 + 44; omega⟩ rfl (Nat.le_of_ble_eq_true rfl) dX10_both_31 (fun _ σ5 => ?_)
          refine x_aload_n (pc := 34) g rfl 0 rfl dX10_both_34 ?_
          refine x_bipush (pc := 35) (v := (38 : Int32)) g (by decide) dX10_both_35 ?_
          refine x_iconst (pc := 37) (v := (0 : Int32)) g (by decide) dX10_both_37 ?_
          refine x_callVU (pc := 38) (As := [.int (38 : Int32), .int (0 : Int32)]) g sh_103 (mc_X10_addStep (38 : Int32) (0 : Int32)) cw_X10_addStep lk_X10_211 rfl ⟨by show 0 + 1 ≤ d + 1 + 2; omega, by show 8 + (3 + 11) + 0 ≤ (d + 1) * 21 + 44; omega⟩ rfl (Nat.le_of_ble_eq_true rfl) dX10_both_38 (fun _ σ6 => ?_)
          refine x_goto (pc := 41) (tgt := 4) g (by decide) dX10_both_41 ?_
          exact hr4 σ6
    · show MCx D al cA ba yX10_compared cX10_compared 2 none (d + 1 + 2) ((d + 1) * 21 + 44) rvU [.ref (al 103)] (G_X10_compared N (R_X10_grp N d) )
      refine MCx_of (by decide +kernel) (Nat.le_of_ble_eq_true rfl) ?_
      intro p l e s m args below meth c σ0 g hrt
      unfold G_X10_compared
      refine x_lv (lv' := [(0, .ref (al 103))]) [0] rfl ?_
      refine x_aload_n (pc := 0) g rfl 0 rfl dX10_compared_0 ?_
      refine x_callVU (pc := 1) (As := []) g sh_103 ih5 cw_X10_sum lk_X10_234 rfl ⟨by show d + 2 + 1 ≤ d + 1 + 2; omega, by show 8 + (2 + 11) + (d * 21 + 44) ≤ (d + 1) * 21 + 44; omega⟩ rfl (Nat.le_of_ble_eq_true rfl) dX10_compared_1 (fun _ σ1 => ?_)
      refine x_aload_n (pc := 4) g rfl 0 rfl dX10_compared_4 ?_
      refine x_callVI (pc := 5) (As := []) g sh_103 (mc_X10_looksOn ) cw_X10_looksOn lk_X10_207 rfl ⟨by show 0 + 1 ≤ d + 1 + 2; omega, by show 8 + (1 + 11) + 0 ≤ (d + 1) * 21 + 44; omega⟩ rfl (Nat.le_of_ble_eq_true rfl) dX10_compared_5 (fun v1 σ2 => ?_)
      refine x_istore_n (pc := 8) (lv' := [(1, .int v1), (0, .ref (al 103))]) g rfl (by decide) rfl dX10_compared_8 ?_
      refine x_aload_n (pc := 9) g rfl 1 rfl dX10_compared_9 ?_
      refine x_getI (pc := 10) g sh_103 fl_X10_195 rfl dX10_compared_10 ?_
      refine x_if_ge (pc := 13) (tgt := 34) g (by decide) dX10_compared_13 ?_ ?_
      · exact x_return (pc := 34) g hrt dX10_compared_34
      · refine x_iload_n (pc := 16) g rfl 0 rfl dX10_compared_16 ?_
        refine x_bipush (pc := 17) (v := (60 : Int32)) g (by decide) dX10_compared_17 ?_
        refine x_jn (fun (j35 : Sx → Option (Unit × Sx)) => ∀ (σ3 : Sx), XTx p l e { frames := d + 1 + 2, cells := 0, slots := 0, locals := (d + 1) * 21 + 44 } s m args below meth c D al cA ba 2 (MQx rvU D al cA ba below args s) 0 0 35 [(0, .ref (al 103)), (1, .int v1)] [] σ3 (j35 σ3)) (fun σ3 => ?_) (fun j35 hj35 => ?_)
        · refine x_aload_n (pc := 35) g rfl 0 rfl dX10_compared_35 ?_
          refine x_dup (pc := 36) g rfl dX10_compared_36 ?_
          refine x_getI (pc := 37) g sh_103 fl_X10_192 rfl dX10_compared_37 ?_
          refine x_iconst (pc := 40) (v := (1 : Int32)) g (by decide) dX10_compared_40 ?_
          refine x_iadd (pc := 41) g dX10_compared_41 ?_
          refine x_putI (pc := 42) g sh_103 fl_X10_192 rfl dX10_compared_42 (fun σ4 => ?_)
          refine x_aload_n (pc := 45) g rfl 0 rfl dX10_compared_45 ?_
          refine x_callVU (pc := 46) (As := []) g sh_103 ih5 cw_X10_sum lk_X10_234 rfl ⟨by show d + 2 + 1 ≤ d + 1 + 2; omega, by show 8 + (2 + 11) + (d * 21 + 44) ≤ (d + 1) * 21 + 44; omega⟩ rfl (Nat.le_of_ble_eq_true rfl) dX10_compared_46 (fun _ σ5 => ?_)
          refine x_aload_n (pc := 49) g rfl 0 rfl dX10_compared_49 ?_
          refine x_iload_n (pc := 50) g rfl 1 rfl dX10_compared_50 ?_
          refine x_iconst (pc := 51) (v := (0 : Int32)) g (by decide) dX10_compared_51 ?_
          refine x_callVU (pc := 52) (As := [.int v1, .int (0 : Int32)]) g sh_103 (mc_X10_addStep v1 (0 : Int32)) cw_X10_addStep lk_X10_211 rfl ⟨by show 0 + 1 ≤ d + 1 + 2; omega, by show 8 + (3 + 11) + 0 ≤ (d + 1) * 21 + 44; omega⟩ rfl (Nat.le_of_ble_eq_true rfl) dX10_compared_52 (fun _ σ6 => ?_)
          exact x_return (pc := 55) g hrt dX10_compared_55
        · refine x_icmp_eq (pc := 19) (tgt := 35) g (by decide) dX10_compared_19 ?_ ?_
          · refine x_lv [1, 0] rfl ?_
            exact hj35 σ2
          · refine x_iload_n (pc := 22) g rfl 0 rfl dX10_compared_22 ?_
            refine x_bipush (pc := 23) (v := (61 : Int32)) g (by decide) dX10_compared_23 ?_
            refine x_icmp_eq (pc := 25) (tgt := 35) g (by decide) dX10_compared_25 ?_ ?_
            · refine x_lv [1, 0] rfl ?_
              exact hj35 σ2
            · refine x_iload_n (pc := 28) g rfl 0 rfl dX10_compared_28 ?_
              refine x_bipush (pc := 29) (v := (62 : Int32)) g (by decide) dX10_compared_29 ?_
              refine x_icmp_eq (pc := 31) (tgt := 35) g (by decide) dX10_compared_31 ?_ ?_
              · refine x_lv [1, 0] rfl ?_
                exact hj35 σ2
              · exact x_return (pc := 34) g hrt dX10_compared_34
    · show MCx D al cA ba yX10_either cX10_either 1 none (d + 1 + 2) ((d + 1) * 21 + 44) rvU [.ref (al 103)] (G_X10_either N (R_X10_grp N d) )
      refine MCx_of (by decide +kernel) (Nat.le_of_ble_eq_true rfl) ?_
      intro p l e s m args below meth c σ0 g hrt
      unfold G_X10_either
      refine x_lv (lv' := [(0, .ref (al 103))]) [0] rfl ?_
      refine x_aload_n (pc := 0) g rfl 0 rfl dX10_either_0 ?_
      refine x_callVU (pc := 1) (As := []) g sh_103 ih0 cw_X10_both lk_X10_240 rfl ⟨by show d + 2 + 1 ≤ d + 1 + 2; omega, by show 8 + (1 + 11) + (d * 21 + 44) ≤ (d + 1) * 21 + 44; omega⟩ rfl (Nat.le_of_ble_eq_true rfl) dX10_either_1 (fun _ σ1 => ?_)
      refine lpx0_ind (fun (σ2 : Sx) (K : Option (Unit × Sx)) => XTx p l e { frames := d + 1 + 2, cells := 0, slots := 0, locals := (d + 1) * 21 + 44 } s m args below meth c D al cA ba 1 (MQx rvU D al cA ba below args s) 0 0 4 [(0, .ref (al 103))] [] σ2 (K)) (fun _ => x_no) (fun r4 hr4 σ2 => ?_) N  σ1
      show XTx p l e { frames := d + 1 + 2, cells := 0, slots := 0, locals := (d + 1) * 21 + 44 } s m args below meth c D al cA ba 1 (MQx rvU D al cA ba below args s) 0 0 4 [(0, .ref (al 103))] [] σ2 (B_X10_either_L4 N (R_X10_grp N d) r4 σ2)
      unfold B_X10_either_L4
      refine x_aload_n (pc := 4) g rfl 0 rfl dX10_either_4 ?_
      refine x_getI (pc := 5) g sh_103 fl_X10_195 rfl dX10_either_5 ?_
      refine x_if_ge (pc := 8) (tgt := 44) g (by decide) dX10_either_8 ?_ ?_
      · exact x_return (pc := 44) g hrt dX10_either_44
      · refine x_aload_n (pc := 11) g rfl 0 rfl dX10_either_11 ?_
        refine x_callVI (pc := 12) (As := []) g sh_103 (mc_X10_looksOn ) cw_X10_looksOn lk_X10_207 rfl ⟨by show 0 + 1 ≤ d + 1 + 2; omega, by show 8 + (1 + 11) + 0 ≤ (d + 1) * 21 + 44; omega⟩ rfl (Nat.le_of_ble_eq_true rfl) dX10_either_12 (fun v1 σ3 => ?_)
        refine x_bipush (pc := 15) (v := (124 : Int32)) g (by decide) dX10_either_15 ?_
        refine x_icmp_ne (pc := 17) (tgt := 44) g (by decide) dX10_either_17 ?_ ?_
        · exact x_return (pc := 44) g hrt dX10_either_44
        · refine x_aload_n (pc := 20) g rfl 0 rfl dX10_either_20 ?_
          refine x_dup (pc := 21) g rfl dX10_either_21 ?_
          refine x_getI (pc := 22) g sh_103 fl_X10_192 rfl dX10_either_22 ?_
          refine x_iconst (pc := 25) (v := (1 : Int32)) g (by decide) dX10_either_25 ?_
          refine x_iadd (pc := 26) g dX10_either_26 ?_
          refine x_putI (pc := 27) g sh_103 fl_X10_192 rfl dX10_either_27 (fun σ4 => ?_)
          refine x_aload_n (pc := 30) g rfl 0 rfl dX10_either_30 ?_
          refine x_callVU (pc := 31) (As := []) g sh_103 ih0 cw_X10_both lk_X10_240 rfl ⟨by show d + 2 + 1 ≤ d + 1 + 2; omega, by show 8 + (1 + 11) + (d * 21 + 44) ≤ (d + 1) * 21 + 44; omega⟩ rfl (Nat.le_of_ble_eq_true rfl) dX10_either_31 (fun _ σ5 => ?_)
          refine x_aload_n (pc := 34) g rfl 0 rfl dX10_either_34 ?_
          refine x_bipush (pc := 35) (v := (124 : Int32)) g (by decide) dX10_either_35 ?_
          refine x_iconst (pc := 37) (v := (0 : Int32)) g (by decide) dX10_either_37 ?_
          refine x_callVU (pc := 38) (As := [.int (124 : Int32), .int (0 : Int32)]) g sh_103 (mc_X10_addStep (124 : Int32) (0 : Int32)) cw_X10_addStep lk_X10_211 rfl ⟨by show 0 + 1 ≤ d + 1 + 2; omega, by show 8 + (3 + 11) + 0 ≤ (d + 1) * 21 + 44; omega⟩ rfl (Nat.le_of_ble_eq_true rfl) dX10_either_38 (fun _ σ6 => ?_)
          refine x_goto (pc := 41) (tgt := 4) g (by decide) dX10_either_41 ?_
          exact hr4 σ6
    · show MCx D al cA ba yX10_operand cX10_operand 2 none (d + 1 + 2) ((d + 1) * 21 + 44) rvU [.ref (al 103)] (G_X10_operand N (R_X10_grp N d) )
      refine MCx_of (by decide +kernel) (Nat.le_of_ble_eq_true rfl) ?_
      intro p l e s m args below meth c σ0 g hrt
      unfold G_X10_operand
      refine x_lv (lv' := [(0, .ref (al 103))]) [0] rfl ?_
      refine x_aload_n (pc := 0) g rfl 0 rfl dX10_operand_0 ?_
      refine x_callVI (pc := 1) (As := []) g sh_103 (mc_X10_looksOn ) cw_X10_looksOn lk_X10_207 rfl ⟨by show 0 + 1 ≤ d + 1 + 2; omega, by show 8 + (1 + 11) + 0 ≤ (d + 1) * 21 + 44; omega⟩ rfl (Nat.le_of_ble_eq_true rfl) dX10_operand_1 (fun v1 σ1 => ?_)
      refine x_istore_n (pc := 4) (lv' := [(1, .int v1), (0, .ref (al 103))]) g rfl (by decide) rfl dX10_operand_4 ?_
      refine x_iload_n (pc := 5) g rfl 0 rfl dX10_operand_5 ?_
      refine x_callSI (pc := 6) (As := [.int v1]) g (mc_X10_nameOf v1) cw_X10_nameOf lk_X10_215 rfl ⟨by show 0 + 1 ≤ d + 1 + 2; omega, by show 8 + (1 + 11) + 0 ≤ (d + 1) * 21 + 44; omega⟩ rfl (Nat.le_of_ble_eq_true rfl) dX10_operand_6 (fun v2 σ2 => ?_)
      refine x_if_lt (pc := 9) (tgt := 34) g (by decide) dX10_operand_9 ?_ ?_
      · refine x_iload_n (pc := 34) g rfl 0 rfl dX10_operand_34 ?_
        refine x_bipush (pc := 35) (v := (33 : Int32)) g (by decide) dX10_operand_35 ?_
        refine x_jn (fun (j46 : Sx → Option (Unit × Sx)) => ∀ (σ3 : Sx), XTx p l e { frames := d + 1 + 2, cells := 0, slots := 0, locals := (d + 1) * 21 + 44 } s m args below meth c D al cA ba 2 (MQx rvU D al cA ba below args s) 0 0 46 [(0, .ref (al 103)), (1, .int v1)] [] σ3 (j46 σ3)) (fun σ3 => ?_) (fun j46 hj46 => ?_)
        · refine x_aload_n (pc := 46) g rfl 0 rfl dX10_operand_46 ?_
          refine x_callVI (pc := 47) (As := []) g sh_103 (mc_X10_opens ) cw_X10_opens lk_X10_218 rfl ⟨by show 1 + 1 ≤ d + 1 + 2; omega, by show 8 + (1 + 11) + 20 ≤ (d + 1) * 21 + 44; omega⟩ rfl (Nat.le_of_ble_eq_true rfl) dX10_operand_47 (fun v3 σ4 => ?_)
          refine x_if_ne (pc := 50) (tgt := 54) g (by decide) dX10_operand_50 ?_ ?_
          · refine x_aload_n (pc := 54) g rfl 0 rfl dX10_operand_54 ?_
            refine x_callVU (pc := 55) (As := []) g sh_103 ih3 cw_X10_operand lk_X10_222 rfl ⟨by show d + 2 + 1 ≤ d + 1 + 2; omega, by show 8 + (2 + 11) + (d * 21 + 44) ≤ (d + 1) * 21 + 44; omega⟩ rfl (Nat.le_of_ble_eq_true rfl) dX10_operand_55 (fun _ σ5 => ?_)
            refine x_aload_n (pc := 58) g rfl 0 rfl dX10_operand_58 ?_
            refine x_dup (pc := 59) g rfl dX10_operand_59 ?_
            refine x_getI (pc := 60) g sh_103 fl_X10_201 rfl dX10_operand_60 ?_
            refine x_iconst (pc := 63) (v := (1 : Int32)) g (by decide) dX10_operand_63 ?_
            refine x_isub (pc := 64) g dX10_operand_64 ?_
            refine x_putI (pc := 65) g sh_103 fl_X10_201 rfl dX10_operand_65 (fun σ6 => ?_)
            refine x_aload_n (pc := 68) g rfl 0 rfl dX10_operand_68 ?_
            refine x_iload_n (pc := 69) g rfl 1 rfl dX10_operand_69 ?_
            refine x_bipush (pc := 70) (v := (33 : Int32)) g (by decide) dX10_operand_70 ?_
            refine x_jn (fun (j80 : Int32 → Sx → Option (Unit × Sx)) => ∀ (y1 : Int32) (σ7 : Sx), XTx p l e { frames := d + 1 + 2, cells := 0, slots := 0, locals := (d + 1) * 21 + 44 } s m args below meth c D al cA ba 2 (MQx rvU D al cA ba below args s) 0 0 80 [] [.int y1, .ref (al 103)] σ7 (j80 y1 σ7)) (fun y1 σ7 => ?_) (fun j80 hj80 => ?_)
            · refine x_iconst (pc := 80) (v := (0 : Int32)) g (by decide) dX10_operand_80 ?_
              refine x_callVU (pc := 81) (As := [.int y1, .int (0 : Int32)]) g sh_103 (mc_X10_addStep y1 (0 : Int32)) cw_X10_addStep lk_X10_211 rfl ⟨by show 0 + 1 ≤ d + 1 + 2; omega, by show 8 + (3 + 11) + 0 ≤ (d + 1) * 21 + 44; omega⟩ rfl (Nat.le_of_ble_eq_true rfl) dX10_operand_81 (fun _ σ8 => ?_)
              refine x_goto (pc := 84) (tgt := 154) g (by decide) dX10_operand_84 ?_
              exact x_return (pc := 154) g hrt dX10_operand_154
            · refine x_icmp_ne (pc := 72) (tgt := 79) g (by decide) dX10_operand_72 ?_ ?_
              · refine x_iconst (pc := 79) (v := (4 : Int32)) g (by decide) dX10_operand_79 ?_
                refine x_lv [] rfl ?_
                exact hj80 (4 : Int32) σ6
              · refine x_iconst (pc := 75) (v := (3 : Int32)) g (by decide) dX10_operand_75 ?_
                refine x_goto (pc := 76) (tgt := 80) g (by decide) dX10_operand_76 ?_
                refine x_lv [] rfl ?_
                exact hj80 (3 : Int32) σ6
          · exact x_return (pc := 53) g hrt dX10_operand_53
        · refine x_icmp_eq (pc := 37) (tgt := 46) g (by decide) dX10_operand_37 ?_ ?_
          · refine x_lv [1, 0] rfl ?_
            exact hj46 σ2
          · refine x_iload_n (pc := 40) g rfl 0 rfl dX10_operand_40 ?_
            refine x_bipush (pc := 41) (v := (45 : Int32)) g (by decide) dX10_operand_41 ?_
            refine x_icmp_ne (pc := 43) (tgt := 87) g (by decide) dX10_operand_43 ?_ ?_
            · refine x_iload_n (pc := 87) g rfl 0 rfl dX10_operand_87 ?_
              refine x_bipush (pc := 88) (v := (40 : Int32)) g (by decide) dX10_operand_88 ?_
              refine x_icmp_ne (pc := 90) (tgt := 150) g (by decide) dX10_operand_90 ?_ ?_
              · refine x_aload_n (pc := 150) g rfl 1 rfl dX10_operand_150 ?_
                refine x_callVU (pc := 151) (As := []) g sh_103 (mc_X10_figure N ) cw_X10_figure lk_X10_228 rfl ⟨by show 1 + 1 ≤ d + 1 + 2; omega, by show 8 + (3 + 11) + 22 ≤ (d + 1) * 21 + 44; omega⟩ rfl (Nat.le_of_ble_eq_true rfl) dX10_operand_151 (fun _ σ9 => ?_)
                exact x_return (pc := 154) g hrt dX10_operand_154
              · refine x_aload_n (pc := 93) g rfl 1 rfl dX10_operand_93 ?_
                refine x_callVI (pc := 94) (As := []) g sh_103 (mc_X10_opens ) cw_X10_opens lk_X10_218 rfl ⟨by show 1 + 1 ≤ d + 1 + 2; omega, by show 8 + (1 + 11) + 20 ≤ (d + 1) * 21 + 44; omega⟩ rfl (Nat.le_of_ble_eq_true rfl) dX10_operand_94 (fun v4 σ10 => ?_)
                refine x_if_ne (pc := 97) (tgt := 101) g (by decide) dX10_operand_97 ?_ ?_
                · refine x_aload_n (pc := 101) g rfl 1 rfl dX10_operand_101 ?_
                  refine x_callVU (pc := 102) (As := []) g sh_103 ih2 cw_X10_either lk_X10_225 rfl ⟨by show d + 2 + 1 ≤ d + 1 + 2; omega, by show 8 + (1 + 11) + (d * 21 + 44) ≤ (d + 1) * 21 + 44; omega⟩ rfl (Nat.le_of_ble_eq_true rfl) dX10_operand_102 (fun _ σ11 => ?_)
                  refine x_aload_n (pc := 105) g rfl 1 rfl dX10_operand_105 ?_
                  refine x_getI (pc := 106) g sh_103 fl_X10_195 rfl dX10_operand_106 ?_
                  refine x_if_lt (pc := 109) (tgt := 113) g (by decide) dX10_operand_109 ?_ ?_
                  · refine x_aload_n (pc := 113) g rfl 1 rfl dX10_operand_113 ?_
                    refine x_callVI (pc := 114) (As := []) g sh_103 (mc_X10_looksOn ) cw_X10_looksOn lk_X10_207 rfl ⟨by show 0 + 1 ≤ d + 1 + 2; omega, by show 8 + (1 + 11) + 0 ≤ (d + 1) * 21 + 44; omega⟩ rfl (Nat.le_of_ble_eq_true rfl) dX10_operand_114 (fun v5 σ12 => ?_)
                    refine x_bipush (pc := 117) (v := (41 : Int32)) g (by decide) dX10_operand_117 ?_
                    refine x_icmp_eq (pc := 119) (tgt := 127) g (by decide) dX10_operand_119 ?_ ?_
                    · refine x_aload_n (pc := 127) g rfl 1 rfl dX10_operand_127 ?_
                      refine x_dup (pc := 128) g rfl dX10_operand_128 ?_
                      refine x_getI (pc := 129) g sh_103 fl_X10_192 rfl dX10_operand_129 ?_
                      refine x_iconst (pc := 132) (v := (1 : Int32)) g (by decide) dX10_operand_132 ?_
                      refine x_iadd (pc := 133) g dX10_operand_133 ?_
                      refine x_putI (pc := 134) g sh_103 fl_X10_192 rfl dX10_operand_134 (fun σ13 => ?_)
                      refine x_aload_n (pc := 137) g rfl 1 rfl dX10_operand_137 ?_
                      refine x_dup (pc := 138) g rfl dX10_operand_138 ?_
                      refine x_getI (pc := 139) g sh_103 fl_X10_201 rfl dX10_operand_139 ?_
                      refine x_iconst (pc := 142) (v := (1 : Int32)) g (by decide) dX10_operand_142 ?_
                      refine x_isub (pc := 143) g dX10_operand_143 ?_
                      refine x_putI (pc := 144) g sh_103 fl_X10_201 rfl dX10_operand_144 (fun σ14 => ?_)
                      refine x_goto (pc := 147) (tgt := 154) g (by decide) dX10_operand_147 ?_
                      exact x_return (pc := 154) g hrt dX10_operand_154
                    · refine x_aload_n (pc := 122) g rfl 1 rfl dX10_operand_122 ?_
                      refine x_callVU (pc := 123) (As := []) g sh_103 (mc_X10_faulty ) cw_X10_faulty lk_X10_204 rfl ⟨by show 0 + 1 ≤ d + 1 + 2; omega, by show 8 + (1 + 11) + 0 ≤ (d + 1) * 21 + 44; omega⟩ rfl (Nat.le_of_ble_eq_true rfl) dX10_operand_123 (fun _ σ15 => ?_)
                      exact x_return (pc := 126) g hrt dX10_operand_126
                  · exact x_return (pc := 112) g hrt dX10_operand_112
                · exact x_return (pc := 100) g hrt dX10_operand_100
            · refine x_lv [1, 0] rfl ?_
              exact hj46 σ2
      · refine x_aload_n (pc := 12) g rfl 1 rfl dX10_operand_12 ?_
        refine x_iconst (pc := 13) (v := (2 : Int32)) g (by decide) dX10_operand_13 ?_
        refine x_iload_n (pc := 14) g rfl 0 rfl dX10_operand_14 ?_
        refine x_callSI (pc := 15) (As := [.int v1]) g (mc_X10_nameOf v1) cw_X10_nameOf lk_X10_215 rfl ⟨by show 0 + 1 ≤ d + 1 + 2; omega, by show 8 + (1 + 11) + 0 ≤ (d + 1) * 21 + 44; omega⟩ rfl (Nat.le_of_ble_eq_true rfl) dX10_operand_15 (fun v6 σ16 => ?_)
        refine x_callVU (pc := 18) (As := [.int (2 : Int32), .int v6]) g sh_103 (mc_X10_addStep (2 : Int32) v6) cw_X10_addStep lk_X10_211 rfl ⟨by show 0 + 1 ≤ d + 1 + 2; omega, by show 8 + (3 + 11) + 0 ≤ (d + 1) * 21 + 44; omega⟩ rfl (Nat.le_of_ble_eq_true rfl) dX10_operand_18 (fun _ σ17 => ?_)
        refine x_aload_n (pc := 21) g rfl 1 rfl dX10_operand_21 ?_
        refine x_dup (pc := 22) g rfl dX10_operand_22 ?_
        refine x_getI (pc := 23) g sh_103 fl_X10_192 rfl dX10_operand_23 ?_
        refine x_iconst (pc := 26) (v := (1 : Int32)) g (by decide) dX10_operand_26 ?_
        refine x_iadd (pc := 27) g dX10_operand_27 ?_
        refine x_putI (pc := 28) g sh_103 fl_X10_192 rfl dX10_operand_28 (fun σ18 => ?_)
        refine x_goto (pc := 31) (tgt := 154) g (by decide) dX10_operand_31 ?_
        exact x_return (pc := 154) g hrt dX10_operand_154
    · show MCx D al cA ba yX10_product cX10_product 2 none (d + 1 + 2) ((d + 1) * 21 + 44) rvU [.ref (al 103)] (G_X10_product N (R_X10_grp N d) )
      refine MCx_of (by decide +kernel) (Nat.le_of_ble_eq_true rfl) ?_
      intro p l e s m args below meth c σ0 g hrt
      unfold G_X10_product
      refine x_lv (lv' := [(0, .ref (al 103))]) [0] rfl ?_
      refine x_aload_n (pc := 0) g rfl 0 rfl dX10_product_0 ?_
      refine x_callVU (pc := 1) (As := []) g sh_103 ih3 cw_X10_operand lk_X10_222 rfl ⟨by show d + 2 + 1 ≤ d + 1 + 2; omega, by show 8 + (2 + 11) + (d * 21 + 44) ≤ (d + 1) * 21 + 44; omega⟩ rfl (Nat.le_of_ble_eq_true rfl) dX10_product_1 (fun _ σ1 => ?_)
      refine lpx0_ind (fun (σ2 : Sx) (K : Option (Unit × Sx)) => XTx p l e { frames := d + 1 + 2, cells := 0, slots := 0, locals := (d + 1) * 21 + 44 } s m args below meth c D al cA ba 2 (MQx rvU D al cA ba below args s) 0 0 4 [(0, .ref (al 103))] [] σ2 (K)) (fun _ => x_no) (fun r4 hr4 σ2 => ?_) N  σ1
      show XTx p l e { frames := d + 1 + 2, cells := 0, slots := 0, locals := (d + 1) * 21 + 44 } s m args below meth c D al cA ba 2 (MQx rvU D al cA ba below args s) 0 0 4 [(0, .ref (al 103))] [] σ2 (B_X10_product_L4 N (R_X10_grp N d) r4 σ2)
      unfold B_X10_product_L4
      refine x_aload_n (pc := 4) g rfl 0 rfl dX10_product_4 ?_
      refine x_getI (pc := 5) g sh_103 fl_X10_195 rfl dX10_product_5 ?_
      refine x_if_ge (pc := 8) (tgt := 66) g (by decide) dX10_product_8 ?_ ?_
      · exact x_return (pc := 66) g hrt dX10_product_66
      · refine x_aload_n (pc := 11) g rfl 0 rfl dX10_product_11 ?_
        refine x_callVI (pc := 12) (As := []) g sh_103 (mc_X10_looksOn ) cw_X10_looksOn lk_X10_207 rfl ⟨by show 0 + 1 ≤ d + 1 + 2; omega, by show 8 + (1 + 11) + 0 ≤ (d + 1) * 21 + 44; omega⟩ rfl (Nat.le_of_ble_eq_true rfl) dX10_product_12 (fun v1 σ3 => ?_)
        refine x_bipush (pc := 15) (v := (42 : Int32)) g (by decide) dX10_product_15 ?_
        refine x_jn (fun (j38 : Sx → Option (Unit × Sx)) => ∀ (σ4 : Sx), XTx p l e { frames := d + 1 + 2, cells := 0, slots := 0, locals := (d + 1) * 21 + 44 } s m args below meth c D al cA ba 2 (MQx rvU D al cA ba below args s) 0 0 38 [(0, .ref (al 103))] [] σ4 (j38 σ4)) (fun σ4 => ?_) (fun j38 hj38 => ?_)
        · refine x_aload_n (pc := 38) g rfl 0 rfl dX10_product_38 ?_
          refine x_callVI (pc := 39) (As := []) g sh_103 (mc_X10_looksOn ) cw_X10_looksOn lk_X10_207 rfl ⟨by show 0 + 1 ≤ d + 1 + 2; omega, by show 8 + (1 + 11) + 0 ≤ (d + 1) * 21 + 44; omega⟩ rfl (Nat.le_of_ble_eq_true rfl) dX10_product_39 (fun v2 σ5 => ?_)
          refine x_istore_n (pc := 42) (lv' := [(1, .int v2), (0, .ref (al 103))]) g rfl (by decide) rfl dX10_product_42 ?_
          refine x_aload_n (pc := 43) g rfl 1 rfl dX10_product_43 ?_
          refine x_dup (pc := 44) g rfl dX10_product_44 ?_
          refine x_getI (pc := 45) g sh_103 fl_X10_192 rfl dX10_product_45 ?_
          refine x_iconst (pc := 48) (v := (1 : Int32)) g (by decide) dX10_product_48 ?_
          refine x_iadd (pc := 49) g dX10_product_49 ?_
          refine x_putI (pc := 50) g sh_103 fl_X10_192 rfl dX10_product_50 (fun σ6 => ?_)
          refine x_aload_n (pc := 53) g rfl 1 rfl dX10_product_53 ?_
          refine x_callVU (pc := 54) (As := []) g sh_103 ih3 cw_X10_operand lk_X10_222 rfl ⟨by show d + 2 + 1 ≤ d + 1 + 2; omega, by show 8 + (2 + 11) + (d * 21 + 44) ≤ (d + 1) * 21 + 44; omega⟩ rfl (Nat.le_of_ble_eq_true rfl) dX10_product_54 (fun _ σ7 => ?_)
          refine x_aload_n (pc := 57) g rfl 1 rfl dX10_product_57 ?_
          refine x_iload_n (pc := 58) g rfl 0 rfl dX10_product_58 ?_
          refine x_iconst (pc := 59) (v := (0 : Int32)) g (by decide) dX10_product_59 ?_
          refine x_callVU (pc := 60) (As := [.int v2, .int (0 : Int32)]) g sh_103 (mc_X10_addStep v2 (0 : Int32)) cw_X10_addStep lk_X10_211 rfl ⟨by show 0 + 1 ≤ d + 1 + 2; omega, by show 8 + (3 + 11) + 0 ≤ (d + 1) * 21 + 44; omega⟩ rfl (Nat.le_of_ble_eq_true rfl) dX10_product_60 (fun _ σ8 => ?_)
          refine x_goto (pc := 63) (tgt := 4) g (by decide) dX10_product_63 ?_
          refine x_lv [1] rfl ?_
          exact hr4 σ8
        · refine x_icmp_eq (pc := 17) (tgt := 38) g (by decide) dX10_product_17 ?_ ?_
          · exact hj38 σ3
          · refine x_aload_n (pc := 20) g rfl 0 rfl dX10_product_20 ?_
            refine x_callVI (pc := 21) (As := []) g sh_103 (mc_X10_looksOn ) cw_X10_looksOn lk_X10_207 rfl ⟨by show 0 + 1 ≤ d + 1 + 2; omega, by show 8 + (1 + 11) + 0 ≤ (d + 1) * 21 + 44; omega⟩ rfl (Nat.le_of_ble_eq_true rfl) dX10_product_21 (fun v3 σ9 => ?_)
            refine x_bipush (pc := 24) (v := (47 : Int32)) g (by decide) dX10_product_24 ?_
            refine x_icmp_eq (pc := 26) (tgt := 38) g (by decide) dX10_product_26 ?_ ?_
            · exact hj38 σ9
            · refine x_aload_n (pc := 29) g rfl 0 rfl dX10_product_29 ?_
              refine x_callVI (pc := 30) (As := []) g sh_103 (mc_X10_looksOn ) cw_X10_looksOn lk_X10_207 rfl ⟨by show 0 + 1 ≤ d + 1 + 2; omega, by show 8 + (1 + 11) + 0 ≤ (d + 1) * 21 + 44; omega⟩ rfl (Nat.le_of_ble_eq_true rfl) dX10_product_30 (fun v4 σ10 => ?_)
              refine x_bipush (pc := 33) (v := (37 : Int32)) g (by decide) dX10_product_33 ?_
              refine x_icmp_ne (pc := 35) (tgt := 66) g (by decide) dX10_product_35 ?_ ?_
              · exact x_return (pc := 66) g hrt dX10_product_66
              · exact hj38 σ10
    · show MCx D al cA ba yX10_sum cX10_sum 2 none (d + 1 + 2) ((d + 1) * 21 + 44) rvU [.ref (al 103)] (G_X10_sum N (R_X10_grp N d) )
      refine MCx_of (by decide +kernel) (Nat.le_of_ble_eq_true rfl) ?_
      intro p l e s m args below meth c σ0 g hrt
      unfold G_X10_sum
      refine x_lv (lv' := [(0, .ref (al 103))]) [0] rfl ?_
      refine x_aload_n (pc := 0) g rfl 0 rfl dX10_sum_0 ?_
      refine x_callVU (pc := 1) (As := []) g sh_103 ih4 cw_X10_product lk_X10_231 rfl ⟨by show d + 2 + 1 ≤ d + 1 + 2; omega, by show 8 + (2 + 11) + (d * 21 + 44) ≤ (d + 1) * 21 + 44; omega⟩ rfl (Nat.le_of_ble_eq_true rfl) dX10_sum_1 (fun _ σ1 => ?_)
      refine lpx0_ind (fun (σ2 : Sx) (K : Option (Unit × Sx)) => XTx p l e { frames := d + 1 + 2, cells := 0, slots := 0, locals := (d + 1) * 21 + 44 } s m args below meth c D al cA ba 2 (MQx rvU D al cA ba below args s) 0 0 4 [(0, .ref (al 103))] [] σ2 (K)) (fun _ => x_no) (fun r4 hr4 σ2 => ?_) N  σ1
      show XTx p l e { frames := d + 1 + 2, cells := 0, slots := 0, locals := (d + 1) * 21 + 44 } s m args below meth c D al cA ba 2 (MQx rvU D al cA ba below args s) 0 0 4 [(0, .ref (al 103))] [] σ2 (B_X10_sum_L4 N (R_X10_grp N d) r4 σ2)
      unfold B_X10_sum_L4
      refine x_aload_n (pc := 4) g rfl 0 rfl dX10_sum_4 ?_
      refine x_getI (pc := 5) g sh_103 fl_X10_195 rfl dX10_sum_5 ?_
      refine x_if_ge (pc := 8) (tgt := 57) g (by decide) dX10_sum_8 ?_ ?_
      · exact x_return (pc := 57) g hrt dX10_sum_57
      · refine x_aload_n (pc := 11) g rfl 0 rfl dX10_sum_11 ?_
        refine x_callVI (pc := 12) (As := []) g sh_103 (mc_X10_looksOn ) cw_X10_looksOn lk_X10_207 rfl ⟨by show 0 + 1 ≤ d + 1 + 2; omega, by show 8 + (1 + 11) + 0 ≤ (d + 1) * 21 + 44; omega⟩ rfl (Nat.le_of_ble_eq_true rfl) dX10_sum_12 (fun v1 σ3 => ?_)
        refine x_bipush (pc := 15) (v := (43 : Int32)) g (by decide) dX10_sum_15 ?_
        refine x_jn (fun (j29 : Sx → Option (Unit × Sx)) => ∀ (σ4 : Sx), XTx p l e { frames := d + 1 + 2, cells := 0, slots := 0, locals := (d + 1) * 21 + 44 } s m args below meth c D al cA ba 2 (MQx rvU D al cA ba below args s) 0 0 29 [(0, .ref (al 103))] [] σ4 (j29 σ4)) (fun σ4 => ?_) (fun j29 hj29 => ?_)
        · refine x_aload_n (pc := 29) g rfl 0 rfl dX10_sum_29 ?_
          refine x_callVI (pc := 30) (As := []) g sh_103 (mc_X10_looksOn ) cw_X10_looksOn lk_X10_207 rfl ⟨by show 0 + 1 ≤ d + 1 + 2; omega, by show 8 + (1 + 11) + 0 ≤ (d + 1) * 21 + 44; omega⟩ rfl (Nat.le_of_ble_eq_true rfl) dX10_sum_30 (fun v2 σ5 => ?_)
          refine x_istore_n (pc := 33) (lv' := [(1, .int v2), (0, .ref (al 103))]) g rfl (by decide) rfl dX10_sum_33 ?_
          refine x_aload_n (pc := 34) g rfl 1 rfl dX10_sum_34 ?_
          refine x_dup (pc := 35) g rfl dX10_sum_35 ?_
          refine x_getI (pc := 36) g sh_103 fl_X10_192 rfl dX10_sum_36 ?_
          refine x_iconst (pc := 39) (v := (1 : Int32)) g (by decide) dX10_sum_39 ?_
          refine x_iadd (pc := 40) g dX10_sum_40 ?_
          refine x_putI (pc := 41) g sh_103 fl_X10_192 rfl dX10_sum_41 (fun σ6 => ?_)
          refine x_aload_n (pc := 44) g rfl 1 rfl dX10_sum_44 ?_
          refine x_callVU (pc := 45) (As := []) g sh_103 ih4 cw_X10_product lk_X10_231 rfl ⟨by show d + 2 + 1 ≤ d + 1 + 2; omega, by show 8 + (2 + 11) + (d * 21 + 44) ≤ (d + 1) * 21 + 44; omega⟩ rfl (Nat.le_of_ble_eq_true rfl) dX10_sum_45 (fun _ σ7 => ?_)
          refine x_aload_n (pc := 48) g rfl 1 rfl dX10_sum_48 ?_
          refine x_iload_n (pc := 49) g rfl 0 rfl dX10_sum_49 ?_
          refine x_iconst (pc := 50) (v := (0 : Int32)) g (by decide) dX10_sum_50 ?_
          refine x_callVU (pc := 51) (As := [.int v2, .int (0 : Int32)]) g sh_103 (mc_X10_addStep v2 (0 : Int32)) cw_X10_addStep lk_X10_211 rfl ⟨by show 0 + 1 ≤ d + 1 + 2; omega, by show 8 + (3 + 11) + 0 ≤ (d + 1) * 21 + 44; omega⟩ rfl (Nat.le_of_ble_eq_true rfl) dX10_sum_51 (fun _ σ8 => ?_)
          refine x_goto (pc := 54) (tgt := 4) g (by decide) dX10_sum_54 ?_
          refine x_lv [1] rfl ?_
          exact hr4 σ8
        · refine x_icmp_eq (pc := 17) (tgt := 29) g (by decide) dX10_sum_17 ?_ ?_
          · exact hj29 σ3
          · refine x_aload_n (pc := 20) g rfl 0 rfl dX10_sum_20 ?_
            refine x_callVI (pc := 21) (As := []) g sh_103 (mc_X10_looksOn ) cw_X10_looksOn lk_X10_207 rfl ⟨by show 0 + 1 ≤ d + 1 + 2; omega, by show 8 + (1 + 11) + 0 ≤ (d + 1) * 21 + 44; omega⟩ rfl (Nat.le_of_ble_eq_true rfl) dX10_sum_21 (fun v3 σ9 => ?_)
            refine x_bipush (pc := 24) (v := (45 : Int32)) g (by decide) dX10_sum_24 ?_
            refine x_icmp_ne (pc := 26) (tgt := 57) g (by decide) dX10_sum_26 ?_ ?_
            · exact x_return (pc := 57) g hrt dX10_sum_57
            · exact hj29 σ9
def F_X10_both (N : Nat) (σ0 : Sx) : Option (Unit × Sx) := R_X10_grp N 64 0 σ0
theorem mc_X10_both {D : va_G} {al : Nat → Nat} {cA : Nat → ClassId} {ba : Nat} (N : Nat)  : MCx D al cA ba yX10_both cX10_both 1 none 66 1388 rvU [.ref (al 103)] (F_X10_both N ) := (rc_X10_grp N 64).1 
def F_X10_compared (N : Nat) (σ0 : Sx) : Option (Unit × Sx) := R_X10_grp N 64 1 σ0
theorem mc_X10_compared {D : va_G} {al : Nat → Nat} {cA : Nat → ClassId} {ba : Nat} (N : Nat)  : MCx D al cA ba yX10_compared cX10_compared 2 none 66 1388 rvU [.ref (al 103)] (F_X10_compared N ) := (rc_X10_grp N 64).2.1 
def F_X10_either (N : Nat) (σ0 : Sx) : Option (Unit × Sx) := R_X10_grp N 64 2 σ0
theorem mc_X10_either {D : va_G} {al : Nat → Nat} {cA : Nat → ClassId} {ba : Nat} (N : Nat)  : MCx D al cA ba yX10_either cX10_either 1 none 66 1388 rvU [.ref (al 103)] (F_X10_either N ) := (rc_X10_grp N 64).2.2.1 
def F_X10_operand (N : Nat) (σ0 : Sx) : Option (Unit × Sx) := R_X10_grp N 64 3 σ0
theorem mc_X10_operand {D : va_G} {al : Nat → Nat} {cA : Nat → ClassId} {ba : Nat} (N : Nat)  : MCx D al cA ba yX10_operand cX10_operand 2 none 66 1388 rvU [.ref (al 103)] (F_X10_operand N ) := (rc_X10_grp N 64).2.2.2.1 
def F_X10_product (N : Nat) (σ0 : Sx) : Option (Unit × Sx) := R_X10_grp N 64 4 σ0
theorem mc_X10_product {D : va_G} {al : Nat → Nat} {cA : Nat → ClassId} {ba : Nat} (N : Nat)  : MCx D al cA ba yX10_product cX10_product 2 none 66 1388 rvU [.ref (al 103)] (F_X10_product N ) := (rc_X10_grp N 64).2.2.2.2.1 
def F_X10_sum (N : Nat) (σ0 : Sx) : Option (Unit × Sx) := R_X10_grp N 64 5 σ0
theorem mc_X10_sum {D : va_G} {al : Nat → Nat} {cA : Nat → ClassId} {ba : Nat} (N : Nat)  : MCx D al cA ba yX10_sum cX10_sum 2 none 66 1388 rvU [.ref (al 103)] (F_X10_sum N ) := (rc_X10_grp N 64).2.2.2.2.2 
def F_X10_line (N : Nat) (σ0 : Sx) : Option (Unit × Sx) := aIx 118 2 (1 : Int32) σ0 (fun v1 => nmx (((61 : Int32) + v1)) (fun v2 => sIx 119 122 v2 (vp_nar .short (siI σ0 103 20).toInt16.toInt32) σ0 (fun σ1 => clx (F_X10_either N  σ1) (fun _ σ2 => nmx (fun (σ3 : Sx) => sIx 120 122 v2 (vp_nar .short (siI σ3 103 20).toInt16.toInt32) σ3 (fun σ4 => aIx 118 2 (1 : Int32) σ4 (fun v3 => sIx 118 2 (1 : Int32) (v3 + (1 : Int32)) σ4 (fun σ5 => some ((), σ5))))) (fun (j66 : Sx → Option (Unit × Sx)) => (if 0 ≤ (siI σ2 103 18) then j66 σ2 else clx (F_X10_looksOn  σ2) (fun v4 σ6 => (if v4 = (63 : Int32) then pIx 103 17 ((siI σ6 103 17) + (1 : Int32)) σ6 (fun σ7 => sIx 119 122 v2 (vp_nar .short (siI σ7 103 20).toInt16.toInt32) σ7 (fun σ8 => clx (F_X10_either N  σ8) (fun _ σ9 => j66 σ9))) else j66 σ6))))))))
set_option maxRecDepth 100000 in
set_option maxHeartbeats 4000000 in
theorem mc_X10_line {D : va_G} {al : Nat → Nat} {cA : Nat → ClassId} {ba : Nat} (N : Nat)  : MCx D al cA ba yX10_line cX10_line 2 none 67 1408 rvU [.ref (al 103)] (F_X10_line N) := by
  refine MCx_of (by decide +kernel) (Nat.le_of_ble_eq_true rfl) ?_
  intro p l e s m args below meth c σ0 g hrt
  unfold F_X10_line
  refine x_lv (lv' := [(0, .ref (al 103))]) [0] rfl ?_
  refine x_bipush (pc := 0) (v := (61 : Int32)) g (by decide) dX10_line_0 ?_
  refine x_aload_n (pc := 2) g rfl 0 rfl dX10_line_2 ?_
  refine x_getR (pc := 3) g sh_103 fl_X10_53 rfl dX10_line_3 ?_
  refine x_iconst (pc := 6) (v := (1 : Int32)) g (by decide) dX10_line_6 ?_
  refine x_iald (pc := 7) g sh_118 (by decide) dX10_line_7 (fun v1 => ?_)
  refine x_iadd (pc := 8) g dX10_line_8 ?_
  refine x_nm (fun v2 => ?_)
  refine x_istore_n (pc := 9) (lv' := [(1, .int v2), (0, .ref (al 103))]) g rfl (by decide) rfl dX10_line_9 ?_
  refine x_aload_n (pc := 10) g rfl 1 rfl dX10_line_10 ?_
  refine x_getR (pc := 11) g sh_103 fl_X10_56 rfl dX10_line_11 ?_
  refine x_iload_n (pc := 14) g rfl 0 rfl dX10_line_14 ?_
  refine x_aload_n (pc := 15) g rfl 1 rfl dX10_line_15 ?_
  refine x_getI (pc := 16) g sh_103 fl_X10_198 rfl dX10_line_16 ?_
  refine x_i2s (pc := 19) g dX10_line_19 ?_
  refine x_sast (pc := 20) g sh_119 (by decide) dX10_line_20 (fun σ1 => ?_)
  refine x_aload_n (pc := 21) g rfl 1 rfl dX10_line_21 ?_
  refine x_callVU (pc := 22) (As := []) g sh_103 (mc_X10_either N ) cw_X10_either lk_X10_225 rfl ⟨Nat.le_of_ble_eq_true rfl, Nat.le_of_ble_eq_true rfl⟩ rfl (Nat.le_of_ble_eq_true rfl) dX10_line_22 (fun _ σ2 => ?_)
  refine x_aload_n (pc := 25) g rfl 1 rfl dX10_line_25 ?_
  refine x_getI (pc := 26) g sh_103 fl_X10_195 rfl dX10_line_26 ?_
  refine x_jn (fun (j66 : Sx → Option (Unit × Sx)) => ∀ (σ3 : Sx), XTx p l e { frames := 67, cells := 0, slots := 0, locals := 1408 } s m args below meth c D al cA ba 2 (MQx rvU D al cA ba below args s) 0 0 66 [(0, .ref (al 103)), (1, .int v2)] [] σ3 (j66 σ3)) (fun σ3 => ?_) (fun j66 hj66 => ?_)
  · refine x_aload_n (pc := 66) g rfl 0 rfl dX10_line_66 ?_
    refine x_getR (pc := 67) g sh_103 fl_X10_60 rfl dX10_line_67 ?_
    refine x_iload_n (pc := 70) g rfl 1 rfl dX10_line_70 ?_
    refine x_aload_n (pc := 71) g rfl 0 rfl dX10_line_71 ?_
    refine x_getI (pc := 72) g sh_103 fl_X10_198 rfl dX10_line_72 ?_
    refine x_i2s (pc := 75) g dX10_line_75 ?_
    refine x_sast (pc := 76) g sh_120 (by decide) dX10_line_76 (fun σ4 => ?_)
    refine x_aload_n (pc := 77) g rfl 0 rfl dX10_line_77 ?_
    refine x_getR (pc := 78) g sh_103 fl_X10_53 rfl dX10_line_78 ?_
    refine x_iconst (pc := 81) (v := (1 : Int32)) g (by decide) dX10_line_81 ?_
    refine x_dup2 (pc := 82) g rfl rfl dX10_line_82 ?_
    refine x_iald (pc := 83) g sh_118 (by decide) dX10_line_83 (fun v3 => ?_)
    refine x_iconst (pc := 84) (v := (1 : Int32)) g (by decide) dX10_line_84 ?_
    refine x_iadd (pc := 85) g dX10_line_85 ?_
    refine x_iast (pc := 86) g sh_118 (by decide) dX10_line_86 (fun σ5 => ?_)
    exact x_return (pc := 87) g hrt dX10_line_87
  · refine x_if_ge (pc := 29) (tgt := 66) g (by decide) dX10_line_29 ?_ ?_
    · refine x_lv [1, 0] rfl ?_
      exact hj66 σ2
    · refine x_aload_n (pc := 32) g rfl 1 rfl dX10_line_32 ?_
      refine x_callVI (pc := 33) (As := []) g sh_103 (mc_X10_looksOn ) cw_X10_looksOn lk_X10_207 rfl ⟨Nat.le_of_ble_eq_true rfl, Nat.le_of_ble_eq_true rfl⟩ rfl (Nat.le_of_ble_eq_true rfl) dX10_line_33 (fun v4 σ6 => ?_)
      refine x_bipush (pc := 36) (v := (63 : Int32)) g (by decide) dX10_line_36 ?_
      refine x_icmp_ne (pc := 38) (tgt := 66) g (by decide) dX10_line_38 ?_ ?_
      · refine x_lv [1, 0] rfl ?_
        exact hj66 σ6
      · refine x_aload_n (pc := 41) g rfl 1 rfl dX10_line_41 ?_
        refine x_dup (pc := 42) g rfl dX10_line_42 ?_
        refine x_getI (pc := 43) g sh_103 fl_X10_192 rfl dX10_line_43 ?_
        refine x_iconst (pc := 46) (v := (1 : Int32)) g (by decide) dX10_line_46 ?_
        refine x_iadd (pc := 47) g dX10_line_47 ?_
        refine x_putI (pc := 48) g sh_103 fl_X10_192 rfl dX10_line_48 (fun σ7 => ?_)
        refine x_aload_n (pc := 51) g rfl 1 rfl dX10_line_51 ?_
        refine x_getR (pc := 52) g sh_103 fl_X10_56 rfl dX10_line_52 ?_
        refine x_iload_n (pc := 55) g rfl 0 rfl dX10_line_55 ?_
        refine x_aload_n (pc := 56) g rfl 1 rfl dX10_line_56 ?_
        refine x_getI (pc := 57) g sh_103 fl_X10_198 rfl dX10_line_57 ?_
        refine x_i2s (pc := 60) g dX10_line_60 ?_
        refine x_sast (pc := 61) g sh_119 (by decide) dX10_line_61 (fun σ8 => ?_)
        refine x_aload_n (pc := 62) g rfl 1 rfl dX10_line_62 ?_
        refine x_callVU (pc := 63) (As := []) g sh_103 (mc_X10_either N ) cw_X10_either lk_X10_225 rfl ⟨Nat.le_of_ble_eq_true rfl, Nat.le_of_ble_eq_true rfl⟩ rfl (Nat.le_of_ble_eq_true rfl) dX10_line_63 (fun _ σ9 => ?_)
        refine x_lv [1, 0] rfl ?_
        exact hj66 σ9
def B_X10_readText_L177 (N : Nat) (a0 : Int32) (r177 : Int32 → Sx → Option (Int32 × Sx)) (x1 : Int32) (σ12 : Sx) : Option (Int32 × Sx) := aIx 118 2 a0 σ12 (fun v2 => (if v2 ≤ x1 then some ((-1 : Int32), σ12) else aIx 119 122 ((61 : Int32) + x1) σ12 (fun v3 => sIx 119 122 (((61 : Int32) * a0) + x1) (vp_nar .short v3) σ12 (fun σ13 => aIx 120 122 ((61 : Int32) + x1) σ13 (fun v4 => sIx 120 122 (((61 : Int32) * a0) + x1) (vp_nar .short v4) σ13 (fun σ14 => r177 (x1 + (1 : Int32)) σ14))))))
def B_X10_readText_L105 (N : Nat) (a0 : Int32) (j163 : Sx → Option (Int32 × Sx)) (r105 : Int32 → Sx → Option (Int32 × Sx)) (x2 : Int32) (σ15 : Sx) : Option (Int32 × Sx) := (if (siI σ15 103 20) ≤ x2 then j163 σ15 else aIx 116 260 ((130 : Int32) + x2) σ15 (fun v5 => sIx 116 260 (((130 : Int32) * a0) + x2) (vp_nar .byte v5) σ15 (fun σ16 => aIx 117 260 ((130 : Int32) + x2) σ16 (fun v6 => sIx 117 260 (((130 : Int32) * a0) + x2) v6 σ16 (fun σ17 => r105 (x2 + (1 : Int32)) σ17)))))
def B_X10_readText_L31 (N : Nat) (j64 : Sx → Option (Int32 × Sx)) (r31 : Sx → Option (Int32 × Sx)) (σ19 : Sx) : Option (Int32 × Sx) := (if 0 ≤ (siI σ19 103 18) then j64 σ19 else clx (F_X10_looksOn  σ19) (fun v7 σ20 => (if v7 = (59 : Int32) then pIx 103 17 ((siI σ20 103 17) + (1 : Int32)) σ20 (fun σ21 => clx (F_X10_line N  σ21) (fun _ σ22 => r31 σ22)) else j64 σ20)))
def F_X10_readText (N : Nat) (a0 : Int32) (σ0 : Sx) : Option (Int32 × Sx) := pIx 103 17 (0 : Int32) σ0 (fun σ1 => pIx 103 18 (-1 : Int32) σ1 (fun σ2 => pIx 103 19 (0 : Int32) σ2 (fun σ3 => pIx 103 20 (0 : Int32) σ3 (fun σ4 => sIx 118 2 (1 : Int32) (0 : Int32) σ4 (fun σ5 => clx (F_X10_line N  σ5) (fun _ σ6 => nmx (fun (σ7 : Sx) => nmx (fun (σ8 : Sx) => pIx 103 16 (0 : Int32) σ8 (fun σ9 => (if (siI σ9 103 18) < 0 then nmx (fun (σ10 : Sx) => aIx 118 2 (1 : Int32) σ10 (fun v1 => sIx 118 2 a0 v1 σ10 (fun σ11 => lpx1 (B_X10_readText_L177 N a0) N (0 : Int32) σ11))) (fun (j163 : Sx → Option (Int32 × Sx)) => lpx1 (B_X10_readText_L105 N a0 j163) N (0 : Int32) σ9) else some ((siI σ9 103 18), σ9)))) (fun (j86 : Sx → Option (Int32 × Sx)) => (if 0 ≤ (siI σ7 103 18) then j86 σ7 else (if (siI σ7 103 16) ≤ (siI σ7 103 17) then j86 σ7 else clx (F_X10_faulty  σ7) (fun _ σ18 => j86 σ18))))) (fun (j64 : Sx → Option (Int32 × Sx)) => lpx0 (B_X10_readText_L31 N j64) N  σ6)))))))
set_option maxRecDepth 100000 in
set_option maxHeartbeats 4000000 in
theorem mc_X10_readText {D : va_G} {al : Nat → Nat} {cA : Nat → ClassId} {ba : Nat} (N : Nat) (a0 : Int32) : MCx D al cA ba yX10_readText cX10_readText 3 (some .int) 68 1429 rvI [.ref (al 103), .int a0] (F_X10_readText N a0) := by
  refine MCx_of (by decide +kernel) (Nat.le_of_ble_eq_true rfl) ?_
  intro p l e s m args below meth c σ0 g hrt
  unfold F_X10_readText
  refine x_lv (lv' := [(0, .ref (al 103)), (1, .int a0)]) [0, 1] rfl ?_
  refine x_aload_n (pc := 0) g rfl 0 rfl dX10_readText_0 ?_
  refine x_iconst (pc := 1) (v := (0 : Int32)) g (by decide) dX10_readText_1 ?_
  refine x_putI (pc := 2) g sh_103 fl_X10_192 rfl dX10_readText_2 (fun σ1 => ?_)
  refine x_aload_n (pc := 5) g rfl 0 rfl dX10_readText_5 ?_
  refine x_iconst (pc := 6) (v := (-1 : Int32)) g (by decide) dX10_readText_6 ?_
  refine x_putI (pc := 7) g sh_103 fl_X10_195 rfl dX10_readText_7 (fun σ2 => ?_)
  refine x_aload_n (pc := 10) g rfl 0 rfl dX10_readText_10 ?_
  refine x_iconst (pc := 11) (v := (0 : Int32)) g (by decide) dX10_readText_11 ?_
  refine x_putI (pc := 12) g sh_103 fl_X10_201 rfl dX10_readText_12 (fun σ3 => ?_)
  refine x_aload_n (pc := 15) g rfl 0 rfl dX10_readText_15 ?_
  refine x_iconst (pc := 16) (v := (0 : Int32)) g (by decide) dX10_readText_16 ?_
  refine x_putI (pc := 17) g sh_103 fl_X10_198 rfl dX10_readText_17 (fun σ4 => ?_)
  refine x_aload_n (pc := 20) g rfl 0 rfl dX10_readText_20 ?_
  refine x_getR (pc := 21) g sh_103 fl_X10_53 rfl dX10_readText_21 ?_
  refine x_iconst (pc := 24) (v := (1 : Int32)) g (by decide) dX10_readText_24 ?_
  refine x_iconst (pc := 25) (v := (0 : Int32)) g (by decide) dX10_readText_25 ?_
  refine x_iast (pc := 26) g sh_118 (by decide) dX10_readText_26 (fun σ5 => ?_)
  refine x_aload_n (pc := 27) g rfl 0 rfl dX10_readText_27 ?_
  refine x_callVU (pc := 28) (As := []) g sh_103 (mc_X10_line N ) cw_X10_line lk_X10_243 rfl ⟨Nat.le_of_ble_eq_true rfl, Nat.le_of_ble_eq_true rfl⟩ rfl (Nat.le_of_ble_eq_true rfl) dX10_readText_28 (fun _ σ6 => ?_)
  refine x_jn (fun (j64 : Sx → Option (Int32 × Sx)) => ∀ (σ7 : Sx), XTx p l e { frames := 68, cells := 0, slots := 0, locals := 1429 } s m args below meth c D al cA ba 3 (MQx rvI D al cA ba below args s) 0 0 64 [(0, .ref (al 103)), (1, .int a0)] [] σ7 (j64 σ7)) (fun σ7 => ?_) (fun j64 hj64 => ?_)
  · refine x_aload_n (pc := 64) g rfl 0 rfl dX10_readText_64 ?_
    refine x_getI (pc := 65) g sh_103 fl_X10_195 rfl dX10_readText_65 ?_
    refine x_jn (fun (j86 : Sx → Option (Int32 × Sx)) => ∀ (σ8 : Sx), XTx p l e { frames := 68, cells := 0, slots := 0, locals := 1429 } s m args below meth c D al cA ba 3 (MQx rvI D al cA ba below args s) 0 0 86 [(0, .ref (al 103)), (1, .int a0)] [] σ8 (j86 σ8)) (fun σ8 => ?_) (fun j86 hj86 => ?_)
    · refine x_aload_n (pc := 86) g rfl 0 rfl dX10_readText_86 ?_
      refine x_iconst (pc := 87) (v := (0 : Int32)) g (by decide) dX10_readText_87 ?_
      refine x_putI (pc := 88) g sh_103 fl_X10_189 rfl dX10_readText_88 (fun σ9 => ?_)
      refine x_aload_n (pc := 91) g rfl 0 rfl dX10_readText_91 ?_
      refine x_getI (pc := 92) g sh_103 fl_X10_195 rfl dX10_readText_92 ?_
      refine x_if_lt (pc := 95) (tgt := 103) g (by decide) dX10_readText_95 ?_ ?_
      · refine x_iconst (pc := 103) (v := (0 : Int32)) g (by decide) dX10_readText_103 ?_
        refine x_istore_n (pc := 104) (lv' := [(2, .int (0 : Int32)), (0, .ref (al 103)), (1, .int a0)]) g rfl (by decide) rfl dX10_readText_104 ?_
        refine x_jn (fun (j163 : Sx → Option (Int32 × Sx)) => ∀ (σ10 : Sx), XTx p l e { frames := 68, cells := 0, slots := 0, locals := 1429 } s m args below meth c D al cA ba 3 (MQx rvI D al cA ba below args s) 0 0 163 [(0, .ref (al 103)), (1, .int a0)] [] σ10 (j163 σ10)) (fun σ10 => ?_) (fun j163 hj163 => ?_)
        · refine x_aload_n (pc := 163) g rfl 0 rfl dX10_readText_163 ?_
          refine x_getR (pc := 164) g sh_103 fl_X10_53 rfl dX10_readText_164 ?_
          refine x_iload_n (pc := 167) g rfl 1 rfl dX10_readText_167 ?_
          refine x_aload_n (pc := 168) g rfl 0 rfl dX10_readText_168 ?_
          refine x_getR (pc := 169) g sh_103 fl_X10_53 rfl dX10_readText_169 ?_
          refine x_iconst (pc := 172) (v := (1 : Int32)) g (by decide) dX10_readText_172 ?_
          refine x_iald (pc := 173) g sh_118 (by decide) dX10_readText_173 (fun v1 => ?_)
          refine x_iast (pc := 174) g sh_118 (by decide) dX10_readText_174 (fun σ11 => ?_)
          refine x_iconst (pc := 175) (v := (0 : Int32)) g (by decide) dX10_readText_175 ?_
          refine x_istore_n (pc := 176) (lv' := [(2, .int (0 : Int32)), (0, .ref (al 103)), (1, .int a0)]) g rfl (by decide) rfl dX10_readText_176 ?_
          refine x_lv [1, 2, 0] rfl ?_
          refine lpx1_ind (fun (x1 : Int32) (σ12 : Sx) (K : Option (Int32 × Sx)) => XTx p l e { frames := 68, cells := 0, slots := 0, locals := 1429 } s m args below meth c D al cA ba 3 (MQx rvI D al cA ba below args s) 0 0 177 [(0, .ref (al 103)), (1, .int a0), (2, .int x1)] [] σ12 (K)) (fun _ _ => x_no) (fun r177 hr177 x1 σ12 => ?_) N (0 : Int32) σ11
          show XTx p l e { frames := 68, cells := 0, slots := 0, locals := 1429 } s m args below meth c D al cA ba 3 (MQx rvI D al cA ba below args s) 0 0 177 [(0, .ref (al 103)), (1, .int a0), (2, .int x1)] [] σ12 (B_X10_readText_L177 N a0 r177 x1 σ12)
          unfold B_X10_readText_L177
          refine x_iload_n (pc := 177) g rfl 2 rfl dX10_readText_177 ?_
          refine x_aload_n (pc := 178) g rfl 0 rfl dX10_readText_178 ?_
          refine x_getR (pc := 179) g sh_103 fl_X10_53 rfl dX10_readText_179 ?_
          refine x_iload_n (pc := 182) g rfl 1 rfl dX10_readText_182 ?_
          refine x_iald (pc := 183) g sh_118 (by decide) dX10_readText_183 (fun v2 => ?_)
          refine x_icmp_ge (pc := 184) (tgt := 233) g (by decide) dX10_readText_184 ?_ ?_
          · refine x_iconst (pc := 233) (v := (-1 : Int32)) g (by decide) dX10_readText_233 ?_
            exact x_ireturn (pc := 234) g hrt dX10_readText_234
          · refine x_aload_n (pc := 187) g rfl 0 rfl dX10_readText_187 ?_
            refine x_getR (pc := 188) g sh_103 fl_X10_56 rfl dX10_readText_188 ?_
            refine x_bipush (pc := 191) (v := (61 : Int32)) g (by decide) dX10_readText_191 ?_
            refine x_iload_n (pc := 193) g rfl 1 rfl dX10_readText_193 ?_
            refine x_imul (pc := 194) g dX10_readText_194 ?_
            refine x_iload_n (pc := 195) g rfl 2 rfl dX10_readText_195 ?_
            refine x_iadd (pc := 196) g dX10_readText_196 ?_
            refine x_aload_n (pc := 197) g rfl 0 rfl dX10_readText_197 ?_
            refine x_getR (pc := 198) g sh_103 fl_X10_56 rfl dX10_readText_198 ?_
            refine x_bipush (pc := 201) (v := (61 : Int32)) g (by decide) dX10_readText_201 ?_
            refine x_iload_n (pc := 203) g rfl 2 rfl dX10_readText_203 ?_
            refine x_iadd (pc := 204) g dX10_readText_204 ?_
            refine x_sald (pc := 205) g sh_119 (by decide) dX10_readText_205 (fun v3 => ?_)
            refine x_sast (pc := 206) g sh_119 (by decide) dX10_readText_206 (fun σ13 => ?_)
            refine x_aload_n (pc := 207) g rfl 0 rfl dX10_readText_207 ?_
            refine x_getR (pc := 208) g sh_103 fl_X10_60 rfl dX10_readText_208 ?_
            refine x_bipush (pc := 211) (v := (61 : Int32)) g (by decide) dX10_readText_211 ?_
            refine x_iload_n (pc := 213) g rfl 1 rfl dX10_readText_213 ?_
            refine x_imul (pc := 214) g dX10_readText_214 ?_
            refine x_iload_n (pc := 215) g rfl 2 rfl dX10_readText_215 ?_
            refine x_iadd (pc := 216) g dX10_readText_216 ?_
            refine x_aload_n (pc := 217) g rfl 0 rfl dX10_readText_217 ?_
            refine x_getR (pc := 218) g sh_103 fl_X10_60 rfl dX10_readText_218 ?_
            refine x_bipush (pc := 221) (v := (61 : Int32)) g (by decide) dX10_readText_221 ?_
            refine x_iload_n (pc := 223) g rfl 2 rfl dX10_readText_223 ?_
            refine x_iadd (pc := 224) g dX10_readText_224 ?_
            refine x_sald (pc := 225) g sh_120 (by decide) dX10_readText_225 (fun v4 => ?_)
            refine x_sast (pc := 226) g sh_120 (by decide) dX10_readText_226 (fun σ14 => ?_)
            refine x_iinc (pc := 227) (v := (x1 + (1 : Int32))) (lv' := [(2, .int (x1 + (1 : Int32))), (0, .ref (al 103)), (1, .int a0)]) g 2 rfl (by rfl) (by decide) rfl dX10_readText_227 ?_
            refine x_goto (pc := 230) (tgt := 177) g (by decide) dX10_readText_230 ?_
            refine x_lv [1, 2, 0] rfl ?_
            exact hr177 (x1 + (1 : Int32)) σ14
        · refine x_lv [1, 2, 0] rfl ?_
          refine lpx1_ind (fun (x2 : Int32) (σ15 : Sx) (K : Option (Int32 × Sx)) => XTx p l e { frames := 68, cells := 0, slots := 0, locals := 1429 } s m args below meth c D al cA ba 3 (MQx rvI D al cA ba below args s) 0 0 105 [(0, .ref (al 103)), (1, .int a0), (2, .int x2)] [] σ15 (K)) (fun _ _ => x_no) (fun r105 hr105 x2 σ15 => ?_) N (0 : Int32) σ9
          show XTx p l e { frames := 68, cells := 0, slots := 0, locals := 1429 } s m args below meth c D al cA ba 3 (MQx rvI D al cA ba below args s) 0 0 105 [(0, .ref (al 103)), (1, .int a0), (2, .int x2)] [] σ15 (B_X10_readText_L105 N a0 j163 r105 x2 σ15)
          unfold B_X10_readText_L105
          refine x_iload_n (pc := 105) g rfl 2 rfl dX10_readText_105 ?_
          refine x_aload_n (pc := 106) g rfl 0 rfl dX10_readText_106 ?_
          refine x_getI (pc := 107) g sh_103 fl_X10_198 rfl dX10_readText_107 ?_
          refine x_icmp_ge (pc := 110) (tgt := 163) g (by decide) dX10_readText_110 ?_ ?_
          · refine x_lv [0, 1] rfl ?_
            exact hj163 σ15
          · refine x_aload_n (pc := 113) g rfl 0 rfl dX10_readText_113 ?_
            refine x_getR (pc := 114) g sh_103 fl_X10_47 rfl dX10_readText_114 ?_
            refine x_sipush (pc := 117) (v := (130 : Int32)) g (by decide) dX10_readText_117 ?_
            refine x_iload_n (pc := 120) g rfl 1 rfl dX10_readText_120 ?_
            refine x_imul (pc := 121) g dX10_readText_121 ?_
            refine x_iload_n (pc := 122) g rfl 2 rfl dX10_readText_122 ?_
            refine x_iadd (pc := 123) g dX10_readText_123 ?_
            refine x_aload_n (pc := 124) g rfl 0 rfl dX10_readText_124 ?_
            refine x_getR (pc := 125) g sh_103 fl_X10_47 rfl dX10_readText_125 ?_
            refine x_sipush (pc := 128) (v := (130 : Int32)) g (by decide) dX10_readText_128 ?_
            refine x_iload_n (pc := 131) g rfl 2 rfl dX10_readText_131 ?_
            refine x_iadd (pc := 132) g dX10_readText_132 ?_
            refine x_bald (pc := 133) g sh_116 (by decide) dX10_readText_133 (fun v5 => ?_)
            refine x_bast (pc := 134) g sh_116 (by decide) dX10_readText_134 (fun σ16 => ?_)
            refine x_aload_n (pc := 135) g rfl 0 rfl dX10_readText_135 ?_
            refine x_getR (pc := 136) g sh_103 fl_X10_50 rfl dX10_readText_136 ?_
            refine x_sipush (pc := 139) (v := (130 : Int32)) g (by decide) dX10_readText_139 ?_
            refine x_iload_n (pc := 142) g rfl 1 rfl dX10_readText_142 ?_
            refine x_imul (pc := 143) g dX10_readText_143 ?_
            refine x_iload_n (pc := 144) g rfl 2 rfl dX10_readText_144 ?_
            refine x_iadd (pc := 145) g dX10_readText_145 ?_
            refine x_aload_n (pc := 146) g rfl 0 rfl dX10_readText_146 ?_
            refine x_getR (pc := 147) g sh_103 fl_X10_50 rfl dX10_readText_147 ?_
            refine x_sipush (pc := 150) (v := (130 : Int32)) g (by decide) dX10_readText_150 ?_
            refine x_iload_n (pc := 153) g rfl 2 rfl dX10_readText_153 ?_
            refine x_iadd (pc := 154) g dX10_readText_154 ?_
            refine x_iald (pc := 155) g sh_117 (by decide) dX10_readText_155 (fun v6 => ?_)
            refine x_iast (pc := 156) g sh_117 (by decide) dX10_readText_156 (fun σ17 => ?_)
            refine x_iinc (pc := 157) (v := (x2 + (1 : Int32))) (lv' := [(2, .int (x2 + (1 : Int32))), (0, .ref (al 103)), (1, .int a0)]) g 2 rfl (by rfl) (by decide) rfl dX10_readText_157 ?_
            refine x_goto (pc := 160) (tgt := 105) g (by decide) dX10_readText_160 ?_
            refine x_lv [1, 2, 0] rfl ?_
            exact hr105 (x2 + (1 : Int32)) σ17
      · refine x_aload_n (pc := 98) g rfl 0 rfl dX10_readText_98 ?_
        refine x_getI (pc := 99) g sh_103 fl_X10_195 rfl dX10_readText_99 ?_
        exact x_ireturn (pc := 102) g hrt dX10_readText_102
    · refine x_if_ge (pc := 68) (tgt := 86) g (by decide) dX10_readText_68 ?_ ?_
      · exact hj86 σ7
      · refine x_aload_n (pc := 71) g rfl 0 rfl dX10_readText_71 ?_
        refine x_getI (pc := 72) g sh_103 fl_X10_192 rfl dX10_readText_72 ?_
        refine x_aload_n (pc := 75) g rfl 0 rfl dX10_readText_75 ?_
        refine x_getI (pc := 76) g sh_103 fl_X10_189 rfl dX10_readText_76 ?_
        refine x_icmp_ge (pc := 79) (tgt := 86) g (by decide) dX10_readText_79 ?_ ?_
        · exact hj86 σ7
        · refine x_aload_n (pc := 82) g rfl 0 rfl dX10_readText_82 ?_
          refine x_callVU (pc := 83) (As := []) g sh_103 (mc_X10_faulty ) cw_X10_faulty lk_X10_204 rfl ⟨Nat.le_of_ble_eq_true rfl, Nat.le_of_ble_eq_true rfl⟩ rfl (Nat.le_of_ble_eq_true rfl) dX10_readText_83 (fun _ σ18 => ?_)
          exact hj86 σ18
  · refine lpx0_ind (fun (σ19 : Sx) (K : Option (Int32 × Sx)) => XTx p l e { frames := 68, cells := 0, slots := 0, locals := 1429 } s m args below meth c D al cA ba 3 (MQx rvI D al cA ba below args s) 0 0 31 [(0, .ref (al 103)), (1, .int a0)] [] σ19 (K)) (fun _ => x_no) (fun r31 hr31 σ19 => ?_) N  σ6
    show XTx p l e { frames := 68, cells := 0, slots := 0, locals := 1429 } s m args below meth c D al cA ba 3 (MQx rvI D al cA ba below args s) 0 0 31 [(0, .ref (al 103)), (1, .int a0)] [] σ19 (B_X10_readText_L31 N j64 r31 σ19)
    unfold B_X10_readText_L31
    refine x_aload_n (pc := 31) g rfl 0 rfl dX10_readText_31 ?_
    refine x_getI (pc := 32) g sh_103 fl_X10_195 rfl dX10_readText_32 ?_
    refine x_if_ge (pc := 35) (tgt := 64) g (by decide) dX10_readText_35 ?_ ?_
    · exact hj64 σ19
    · refine x_aload_n (pc := 38) g rfl 0 rfl dX10_readText_38 ?_
      refine x_callVI (pc := 39) (As := []) g sh_103 (mc_X10_looksOn ) cw_X10_looksOn lk_X10_207 rfl ⟨Nat.le_of_ble_eq_true rfl, Nat.le_of_ble_eq_true rfl⟩ rfl (Nat.le_of_ble_eq_true rfl) dX10_readText_39 (fun v7 σ20 => ?_)
      refine x_bipush (pc := 42) (v := (59 : Int32)) g (by decide) dX10_readText_42 ?_
      refine x_icmp_ne (pc := 44) (tgt := 64) g (by decide) dX10_readText_44 ?_ ?_
      · exact hj64 σ20
      · refine x_aload_n (pc := 47) g rfl 0 rfl dX10_readText_47 ?_
        refine x_dup (pc := 48) g rfl dX10_readText_48 ?_
        refine x_getI (pc := 49) g sh_103 fl_X10_192 rfl dX10_readText_49 ?_
        refine x_iconst (pc := 52) (v := (1 : Int32)) g (by decide) dX10_readText_52 ?_
        refine x_iadd (pc := 53) g dX10_readText_53 ?_
        refine x_putI (pc := 54) g sh_103 fl_X10_192 rfl dX10_readText_54 (fun σ21 => ?_)
        refine x_aload_n (pc := 57) g rfl 0 rfl dX10_readText_57 ?_
        refine x_callVU (pc := 58) (As := []) g sh_103 (mc_X10_line N ) cw_X10_line lk_X10_243 rfl ⟨Nat.le_of_ble_eq_true rfl, Nat.le_of_ble_eq_true rfl⟩ rfl (Nat.le_of_ble_eq_true rfl) dX10_readText_58 (fun _ σ22 => ?_)
        refine x_goto (pc := 61) (tgt := 31) g (by decide) dX10_readText_61 ?_
        exact hr31 σ22
def F_X10_twoOf (a0 : Int32) (a1 : Int32) (a2 : Int32) (σ0 : Sx) : Option (Int32 × Sx) := nmx (fun (σ1 : Sx) => (if a1 = 0 then (if a2 = 0 then some ((0 : Int32), σ1) else some ((1 : Int32), σ1)) else some ((1 : Int32), σ1))) (fun (j218 : Sx → Option (Int32 × Sx)) => (if a0 = (37 : Int32) then (if a2 = 0 then some ((0 : Int32), σ0) else (if a2 = (-1 : Int32) then some ((0 : Int32), σ0) else gdx (¬ a2 = 0) (some ((jrem a1 a2), σ0)))) else (if a0 = (38 : Int32) then (if a1 = 0 then some ((0 : Int32), σ0) else (if a2 = 0 then some ((0 : Int32), σ0) else some ((1 : Int32), σ0))) else (if a0 = (39 : Int32) then j218 σ0 else (if a0 = (40 : Int32) then j218 σ0 else (if a0 = (41 : Int32) then j218 σ0 else (if a0 = (42 : Int32) then some ((a1 * a2), σ0) else (if a0 = (43 : Int32) then some ((a1 + a2), σ0) else (if a0 = (44 : Int32) then j218 σ0 else (if a0 = (45 : Int32) then some ((a1 - a2), σ0) else (if a0 = (46 : Int32) then j218 σ0 else (if a0 = (47 : Int32) then (if a2 = 0 then some ((0 : Int32), σ0) else (if a2 = (-1 : Int32) then some ((-a1), σ0) else gdx (¬ a2 = 0) (some ((a1 / a2), σ0)))) else (if a0 = (48 : Int32) then j218 σ0 else (if a0 = (49 : Int32) then j218 σ0 else (if a0 = (50 : Int32) then j218 σ0 else (if a0 = (51 : Int32) then j218 σ0 else (if a0 = (52 : Int32) then j218 σ0 else (if a0 = (53 : Int32) then j218 σ0 else (if a0 = (54 : Int32) then j218 σ0 else (if a0 = (55 : Int32) then j218 σ0 else (if a0 = (56 : Int32) then j218 σ0 else (if a0 = (57 : Int32) then j218 σ0 else (if a0 = (58 : Int32) then j218 σ0 else (if a0 = (59 : Int32) then j218 σ0 else (if a0 = (60 : Int32) then (if a2 ≤ a1 then some ((0 : Int32), σ0) else some ((1 : Int32), σ0)) else (if a0 = (61 : Int32) then (if a1 = a2 then some ((1 : Int32), σ0) else some ((0 : Int32), σ0)) else (if a0 = (62 : Int32) then (if a1 ≤ a2 then some ((0 : Int32), σ0) else some ((1 : Int32), σ0)) else j218 σ0)))))))))))))))))))))))))))
set_option maxRecDepth 100000 in
set_option maxHeartbeats 4000000 in
theorem mc_X10_twoOf {D : va_G} {al : Nat → Nat} {cA : Nat → ClassId} {ba : Nat} (a0 : Int32) (a1 : Int32) (a2 : Int32) : MCx D al cA ba yX10_twoOf cX10_twoOf 3 (some .int) 0 0 rvI [.int a0, .int a1, .int a2] (F_X10_twoOf a0 a1 a2) := by
  refine MCx_of (by decide +kernel) (Nat.le_of_ble_eq_true rfl) ?_
  intro p l e s m args below meth c σ0 g hrt
  unfold F_X10_twoOf
  refine x_lv (lv' := [(0, .int a0), (1, .int a1), (2, .int a2)]) [0, 1, 2] rfl ?_
  refine x_iload_n (pc := 0) g rfl 0 rfl dX10_twoOf_0 ?_
  refine x_jn (fun (j218 : Sx → Option (Int32 × Sx)) => ∀ (σ1 : Sx), XTx p l e { frames := 0, cells := 0, slots := 0, locals := 0 } s m args below meth c D al cA ba 3 (MQx rvI D al cA ba below args s) 0 0 218 [(1, .int a1), (2, .int a2)] [] σ1 (j218 σ1)) (fun σ1 => ?_) (fun j218 hj218 => ?_)
  · refine x_iload_n (pc := 218) g rfl 0 rfl dX10_twoOf_218 ?_
    refine x_if_ne (pc := 219) (tgt := 226) g (by decide) dX10_twoOf_219 ?_ ?_
    · refine x_iconst (pc := 226) (v := (1 : Int32)) g (by decide) dX10_twoOf_226 ?_
      refine x_goto (pc := 227) (tgt := 231) g (by decide) dX10_twoOf_227 ?_
      exact x_ireturn (pc := 231) g hrt dX10_twoOf_231
    · refine x_iload_n (pc := 222) g rfl 1 rfl dX10_twoOf_222 ?_
      refine x_if_eq (pc := 223) (tgt := 230) g (by decide) dX10_twoOf_223 ?_ ?_
      · refine x_iconst (pc := 230) (v := (0 : Int32)) g (by decide) dX10_twoOf_230 ?_
        exact x_ireturn (pc := 231) g hrt dX10_twoOf_231
      · refine x_iconst (pc := 226) (v := (1 : Int32)) g (by decide) dX10_twoOf_226 ?_
        refine x_goto (pc := 227) (tgt := 231) g (by decide) dX10_twoOf_227 ?_
        exact x_ireturn (pc := 231) g hrt dX10_twoOf_231
  · refine x_eqs ?_ (fun hs1 => ?_)
    · refine x_tabIn (pc := 1) (tgt := 154) (off := 153) g (by decide) (by decide) dX10_twoOf_1 ?_
      refine x_iload_n (pc := 154) g rfl 2 rfl dX10_twoOf_154 ?_
      refine x_if_eq (pc := 155) (tgt := 163) g (by decide) dX10_twoOf_155 ?_ ?_
      · refine x_iconst (pc := 163) (v := (0 : Int32)) g (by decide) dX10_twoOf_163 ?_
        refine x_goto (pc := 164) (tgt := 170) g (by decide) dX10_twoOf_164 ?_
        exact x_ireturn (pc := 170) g hrt dX10_twoOf_170
      · refine x_iload_n (pc := 158) g rfl 2 rfl dX10_twoOf_158 ?_
        refine x_iconst (pc := 159) (v := (-1 : Int32)) g (by decide) dX10_twoOf_159 ?_
        refine x_icmp_ne (pc := 160) (tgt := 167) g (by decide) dX10_twoOf_160 ?_ ?_
        · refine x_iload_n (pc := 167) g rfl 1 rfl dX10_twoOf_167 ?_
          refine x_iload_n (pc := 168) g rfl 2 rfl dX10_twoOf_168 ?_
          refine x_gd (fun hd1 => ?_)
          refine x_irem (pc := 169) g hd1 dX10_twoOf_169 ?_
          exact x_ireturn (pc := 170) g hrt dX10_twoOf_170
        · refine x_iconst (pc := 163) (v := (0 : Int32)) g (by decide) dX10_twoOf_163 ?_
          refine x_goto (pc := 164) (tgt := 170) g (by decide) dX10_twoOf_164 ?_
          exact x_ireturn (pc := 170) g hrt dX10_twoOf_170
    refine x_eqs ?_ (fun hs2 => ?_)
    · refine x_tabIn (pc := 1) (tgt := 204) (off := 203) g (by decide) (by decide) dX10_twoOf_1 ?_
      refine x_iload_n (pc := 204) g rfl 1 rfl dX10_twoOf_204 ?_
      refine x_if_eq (pc := 205) (tgt := 216) g (by decide) dX10_twoOf_205 ?_ ?_
      · refine x_iconst (pc := 216) (v := (0 : Int32)) g (by decide) dX10_twoOf_216 ?_
        exact x_ireturn (pc := 217) g hrt dX10_twoOf_217
      · refine x_iload_n (pc := 208) g rfl 2 rfl dX10_twoOf_208 ?_
        refine x_if_eq (pc := 209) (tgt := 216) g (by decide) dX10_twoOf_209 ?_ ?_
        · refine x_iconst (pc := 216) (v := (0 : Int32)) g (by decide) dX10_twoOf_216 ?_
          exact x_ireturn (pc := 217) g hrt dX10_twoOf_217
        · refine x_iconst (pc := 212) (v := (1 : Int32)) g (by decide) dX10_twoOf_212 ?_
          refine x_goto (pc := 213) (tgt := 217) g (by decide) dX10_twoOf_213 ?_
          exact x_ireturn (pc := 217) g hrt dX10_twoOf_217
    refine x_eqs ?_ (fun hs3 => ?_)
    · refine x_tabIn (pc := 1) (tgt := 218) (off := 217) g (by decide) (by decide) dX10_twoOf_1 ?_
      refine x_lv [1, 2] rfl ?_
      exact hj218 σ0
    refine x_eqs ?_ (fun hs4 => ?_)
    · refine x_tabIn (pc := 1) (tgt := 218) (off := 217) g (by decide) (by decide) dX10_twoOf_1 ?_
      refine x_lv [1, 2] rfl ?_
      exact hj218 σ0
    refine x_eqs ?_ (fun hs5 => ?_)
    · refine x_tabIn (pc := 1) (tgt := 218) (off := 217) g (by decide) (by decide) dX10_twoOf_1 ?_
      refine x_lv [1, 2] rfl ?_
      exact hj218 σ0
    refine x_eqs ?_ (fun hs6 => ?_)
    · refine x_tabIn (pc := 1) (tgt := 128) (off := 127) g (by decide) (by decide) dX10_twoOf_1 ?_
      refine x_iload_n (pc := 128) g rfl 1 rfl dX10_twoOf_128 ?_
      refine x_iload_n (pc := 129) g rfl 2 rfl dX10_twoOf_129 ?_
      refine x_imul (pc := 130) g dX10_twoOf_130 ?_
      exact x_ireturn (pc := 131) g hrt dX10_twoOf_131
    refine x_eqs ?_ (fun hs7 => ?_)
    · refine x_tabIn (pc := 1) (tgt := 120) (off := 119) g (by decide) (by decide) dX10_twoOf_1 ?_
      refine x_iload_n (pc := 120) g rfl 1 rfl dX10_twoOf_120 ?_
      refine x_iload_n (pc := 121) g rfl 2 rfl dX10_twoOf_121 ?_
      refine x_iadd (pc := 122) g dX10_twoOf_122 ?_
      exact x_ireturn (pc := 123) g hrt dX10_twoOf_123
    refine x_eqs ?_ (fun hs8 => ?_)
    · refine x_tabIn (pc := 1) (tgt := 218) (off := 217) g (by decide) (by decide) dX10_twoOf_1 ?_
      refine x_lv [1, 2] rfl ?_
      exact hj218 σ0
    refine x_eqs ?_ (fun hs9 => ?_)
    · refine x_tabIn (pc := 1) (tgt := 124) (off := 123) g (by decide) (by decide) dX10_twoOf_1 ?_
      refine x_iload_n (pc := 124) g rfl 1 rfl dX10_twoOf_124 ?_
      refine x_iload_n (pc := 125) g rfl 2 rfl dX10_twoOf_125 ?_
      refine x_isub (pc := 126) g dX10_twoOf_126 ?_
      exact x_ireturn (pc := 127) g hrt dX10_twoOf_127
    refine x_eqs ?_ (fun hs10 => ?_)
    · refine x_tabIn (pc := 1) (tgt := 218) (off := 217) g (by decide) (by decide) dX10_twoOf_1 ?_
      refine x_lv [1, 2] rfl ?_
      exact hj218 σ0
    refine x_eqs ?_ (fun hs11 => ?_)
    · refine x_tabIn (pc := 1) (tgt := 132) (off := 131) g (by decide) (by decide) dX10_twoOf_1 ?_
      refine x_iload_n (pc := 132) g rfl 2 rfl dX10_twoOf_132 ?_
      refine x_if_ne (pc := 133) (tgt := 140) g (by decide) dX10_twoOf_133 ?_ ?_
      · refine x_iload_n (pc := 140) g rfl 2 rfl dX10_twoOf_140 ?_
        refine x_iconst (pc := 141) (v := (-1 : Int32)) g (by decide) dX10_twoOf_141 ?_
        refine x_icmp_ne (pc := 142) (tgt := 150) g (by decide) dX10_twoOf_142 ?_ ?_
        · refine x_iload_n (pc := 150) g rfl 1 rfl dX10_twoOf_150 ?_
          refine x_iload_n (pc := 151) g rfl 2 rfl dX10_twoOf_151 ?_
          refine x_gd (fun hd2 => ?_)
          refine x_idiv (pc := 152) g hd2 dX10_twoOf_152 ?_
          exact x_ireturn (pc := 153) g hrt dX10_twoOf_153
        · refine x_iload_n (pc := 145) g rfl 1 rfl dX10_twoOf_145 ?_
          refine x_ineg (pc := 146) g dX10_twoOf_146 ?_
          refine x_goto (pc := 147) (tgt := 153) g (by decide) dX10_twoOf_147 ?_
          exact x_ireturn (pc := 153) g hrt dX10_twoOf_153
      · refine x_iconst (pc := 136) (v := (0 : Int32)) g (by decide) dX10_twoOf_136 ?_
        refine x_goto (pc := 137) (tgt := 153) g (by decide) dX10_twoOf_137 ?_
        exact x_ireturn (pc := 153) g hrt dX10_twoOf_153
    refine x_eqs ?_ (fun hs12 => ?_)
    · refine x_tabIn (pc := 1) (tgt := 218) (off := 217) g (by decide) (by decide) dX10_twoOf_1 ?_
      refine x_lv [1, 2] rfl ?_
      exact hj218 σ0
    refine x_eqs ?_ (fun hs13 => ?_)
    · refine x_tabIn (pc := 1) (tgt := 218) (off := 217) g (by decide) (by decide) dX10_twoOf_1 ?_
      refine x_lv [1, 2] rfl ?_
      exact hj218 σ0
    refine x_eqs ?_ (fun hs14 => ?_)
    · refine x_tabIn (pc := 1) (tgt := 218) (off := 217) g (by decide) (by decide) dX10_twoOf_1 ?_
      refine x_lv [1, 2] rfl ?_
      exact hj218 σ0
    refine x_eqs ?_ (fun hs15 => ?_)
    · refine x_tabIn (pc := 1) (tgt := 218) (off := 217) g (by decide) (by decide) dX10_twoOf_1 ?_
      refine x_lv [1, 2] rfl ?_
      exact hj218 σ0
    refine x_eqs ?_ (fun hs16 => ?_)
    · refine x_tabIn (pc := 1) (tgt := 218) (off := 217) g (by decide) (by decide) dX10_twoOf_1 ?_
      refine x_lv [1, 2] rfl ?_
      exact hj218 σ0
    refine x_eqs ?_ (fun hs17 => ?_)
    · refine x_tabIn (pc := 1) (tgt := 218) (off := 217) g (by decide) (by decide) dX10_twoOf_1 ?_
      refine x_lv [1, 2] rfl ?_
      exact hj218 σ0
    refine x_eqs ?_ (fun hs18 => ?_)
    · refine x_tabIn (pc := 1) (tgt := 218) (off := 217) g (by decide) (by decide) dX10_twoOf_1 ?_
      refine x_lv [1, 2] rfl ?_
      exact hj218 σ0
    refine x_eqs ?_ (fun hs19 => ?_)
    · refine x_tabIn (pc := 1) (tgt := 218) (off := 217) g (by decide) (by decide) dX10_twoOf_1 ?_
      refine x_lv [1, 2] rfl ?_
      exact hj218 σ0
    refine x_eqs ?_ (fun hs20 => ?_)
    · refine x_tabIn (pc := 1) (tgt := 218) (off := 217) g (by decide) (by decide) dX10_twoOf_1 ?_
      refine x_lv [1, 2] rfl ?_
      exact hj218 σ0
    refine x_eqs ?_ (fun hs21 => ?_)
    · refine x_tabIn (pc := 1) (tgt := 218) (off := 217) g (by decide) (by decide) dX10_twoOf_1 ?_
      refine x_lv [1, 2] rfl ?_
      exact hj218 σ0
    refine x_eqs ?_ (fun hs22 => ?_)
    · refine x_tabIn (pc := 1) (tgt := 218) (off := 217) g (by decide) (by decide) dX10_twoOf_1 ?_
      refine x_lv [1, 2] rfl ?_
      exact hj218 σ0
    refine x_eqs ?_ (fun hs23 => ?_)
    · refine x_tabIn (pc := 1) (tgt := 218) (off := 217) g (by decide) (by decide) dX10_twoOf_1 ?_
      refine x_lv [1, 2] rfl ?_
      exact hj218 σ0
    refine x_eqs ?_ (fun hs24 => ?_)
    · refine x_tabIn (pc := 1) (tgt := 171) (off := 170) g (by decide) (by decide) dX10_twoOf_1 ?_
      refine x_iload_n (pc := 171) g rfl 1 rfl dX10_twoOf_171 ?_
      refine x_iload_n (pc := 172) g rfl 2 rfl dX10_twoOf_172 ?_
      refine x_icmp_ge (pc := 173) (tgt := 180) g (by decide) dX10_twoOf_173 ?_ ?_
      · refine x_iconst (pc := 180) (v := (0 : Int32)) g (by decide) dX10_twoOf_180 ?_
        exact x_ireturn (pc := 181) g hrt dX10_twoOf_181
      · refine x_iconst (pc := 176) (v := (1 : Int32)) g (by decide) dX10_twoOf_176 ?_
        refine x_goto (pc := 177) (tgt := 181) g (by decide) dX10_twoOf_177 ?_
        exact x_ireturn (pc := 181) g hrt dX10_twoOf_181
    refine x_eqs ?_ (fun hs25 => ?_)
    · refine x_tabIn (pc := 1) (tgt := 182) (off := 181) g (by decide) (by decide) dX10_twoOf_1 ?_
      refine x_iload_n (pc := 182) g rfl 1 rfl dX10_twoOf_182 ?_
      refine x_iload_n (pc := 183) g rfl 2 rfl dX10_twoOf_183 ?_
      refine x_icmp_ne (pc := 184) (tgt := 191) g (by decide) dX10_twoOf_184 ?_ ?_
      · refine x_iconst (pc := 191) (v := (0 : Int32)) g (by decide) dX10_twoOf_191 ?_
        exact x_ireturn (pc := 192) g hrt dX10_twoOf_192
      · refine x_iconst (pc := 187) (v := (1 : Int32)) g (by decide) dX10_twoOf_187 ?_
        refine x_goto (pc := 188) (tgt := 192) g (by decide) dX10_twoOf_188 ?_
        exact x_ireturn (pc := 192) g hrt dX10_twoOf_192
    refine x_eqs ?_ (fun hs26 => ?_)
    · refine x_tabIn (pc := 1) (tgt := 193) (off := 192) g (by decide) (by decide) dX10_twoOf_1 ?_
      refine x_iload_n (pc := 193) g rfl 1 rfl dX10_twoOf_193 ?_
      refine x_iload_n (pc := 194) g rfl 2 rfl dX10_twoOf_194 ?_
      refine x_icmp_le (pc := 195) (tgt := 202) g (by decide) dX10_twoOf_195 ?_ ?_
      · refine x_iconst (pc := 202) (v := (0 : Int32)) g (by decide) dX10_twoOf_202 ?_
        exact x_ireturn (pc := 203) g hrt dX10_twoOf_203
      · refine x_iconst (pc := 198) (v := (1 : Int32)) g (by decide) dX10_twoOf_198 ?_
        refine x_goto (pc := 199) (tgt := 203) g (by decide) dX10_twoOf_199 ?_
        exact x_ireturn (pc := 203) g hrt dX10_twoOf_203
    refine x_tabOut (pc := 1) (tgt := 218) g (fun i h1 h2 => ?_) (by decide) dX10_twoOf_1 ?_
    · rcases (show i = 37 ∨ i = 38 ∨ i = 39 ∨ i = 40 ∨ i = 41 ∨ i = 42 ∨ i = 43 ∨ i = 44 ∨ i = 45 ∨ i = 46 ∨ i = 47 ∨ i = 48 ∨ i = 49 ∨ i = 50 ∨ i = 51 ∨ i = 52 ∨ i = 53 ∨ i = 54 ∨ i = 55 ∨ i = 56 ∨ i = 57 ∨ i = 58 ∨ i = 59 ∨ i = 60 ∨ i = 61 ∨ i = 62 by omega) with rfl | rfl | rfl | rfl | rfl | rfl | rfl | rfl | rfl | rfl | rfl | rfl | rfl | rfl | rfl | rfl | rfl | rfl | rfl | rfl | rfl | rfl | rfl | rfl | rfl | rfl
      · exact hs1
      · exact hs2
      · exact hs3
      · exact hs4
      · exact hs5
      · exact hs6
      · exact hs7
      · exact hs8
      · exact hs9
      · exact hs10
      · exact hs11
      · exact hs12
      · exact hs13
      · exact hs14
      · exact hs15
      · exact hs16
      · exact hs17
      · exact hs18
      · exact hs19
      · exact hs20
      · exact hs21
      · exact hs22
      · exact hs23
      · exact hs24
      · exact hs25
      · exact hs26
    · refine x_lv [1, 2] rfl ?_
      exact hj218 σ0
def B_X10_worked_L12 (N : Nat) (a0 : Int32) (a2 : Int32) (j188 : Sx → Option (Int32 × Sx)) (r12 : Int32 → Int32 → Sx → Option (Int32 × Sx)) (x1 : Int32) (x2 : Int32) (σ2 : Sx) : Option (Int32 × Sx) := (if (((130 : Int32) * a0) + a2) ≤ x2 then j188 σ2 else aIx 116 260 x2 σ2 (fun v3 => nmx (fun (x3 : Int32) (σ3 : Sx) => r12 x3 (x2 + (1 : Int32)) σ3) (fun (j182 : Int32 → Sx → Option (Int32 × Sx)) => nmx (fun (σ4 : Sx) => nmx (fun (y1 : Int32) (σ5 : Sx) => sIx 122 130 x1 y1 σ5 (fun σ6 => j182 (x1 + (1 : Int32)) σ6)) (fun (j79 : Int32 → Sx → Option (Int32 × Sx)) => (if v3 = (1 : Int32) then aIx 117 260 x2 σ4 (fun v6 => j79 v6 σ4) else aIx 117 260 x2 σ4 (fun v4 => aIx 121 6 v4 σ4 (fun v5 => j79 v5 σ4))))) (fun (j45 : Sx → Option (Int32 × Sx)) => (if v3 = (1 : Int32) then j45 σ2 else (if v3 = (2 : Int32) then j45 σ2 else (if v3 = (3 : Int32) then aIx 122 130 (x1 - (1 : Int32)) σ2 (fun v11 => nmx (fun (y2 : Int32) (σ10 : Sx) => sIx 122 130 (x1 - (1 : Int32)) y2 σ10 (fun σ11 => j182 x1 σ11)) (fun (j117 : Int32 → Sx → Option (Int32 × Sx)) => (if v11 = 0 then j117 (1 : Int32) σ2 else j117 (0 : Int32) σ2))) else (if v3 = (4 : Int32) then aIx 122 130 (x1 - (1 : Int32)) σ2 (fun v10 => sIx 122 130 (x1 - (1 : Int32)) (-v10) σ2 (fun σ9 => j182 x1 σ9)) else aIx 122 130 ((x1 + (-1 : Int32)) - (1 : Int32)) σ2 (fun v7 => aIx 122 130 (x1 + (-1 : Int32)) σ2 (fun v8 => clx (F_X10_twoOf v3 v7 v8 σ2) (fun v9 σ7 => sIx 122 130 ((x1 + (-1 : Int32)) - (1 : Int32)) v9 σ7 (fun σ8 => j182 (x1 + (-1 : Int32)) σ8))))))))))))
def F_X10_worked (N : Nat) (a0 : Int32) (a1 : Int32) (a2 : Int32) (σ0 : Sx) : Option (Int32 × Sx) := nmx ((((130 : Int32) * a0) + a1)) (fun v1 => nmx (fun (σ1 : Sx) => aIx 122 130 (0 : Int32) σ1 (fun v2 => some (v2, σ1))) (fun (j188 : Sx → Option (Int32 × Sx)) => lpx2 (B_X10_worked_L12 N a0 a2 j188) N (0 : Int32) v1 σ0))
set_option maxRecDepth 100000 in
set_option maxHeartbeats 4000000 in
theorem mc_X10_worked {D : va_G} {al : Nat → Nat} {cA : Nat → ClassId} {ba : Nat} (N : Nat) (a0 : Int32) (a1 : Int32) (a2 : Int32) : MCx D al cA ba yX10_worked cX10_worked 7 (some .int) 1 22 rvI [.ref (al 103), .int a0, .int a1, .int a2] (F_X10_worked N a0 a1 a2) := by
  refine MCx_of (by decide +kernel) (Nat.le_of_ble_eq_true rfl) ?_
  intro p l e s m args below meth c σ0 g hrt
  unfold F_X10_worked
  refine x_lv (lv' := [(0, .ref (al 103)), (1, .int a0), (2, .int a1), (3, .int a2)]) [0, 1, 2, 3] rfl ?_
  refine x_iconst (pc := 0) (v := (0 : Int32)) g (by decide) dX10_worked_0 ?_
  refine x_istore (pc := 1) (lv' := [(4, .int (0 : Int32)), (0, .ref (al 103)), (1, .int a0), (2, .int a1), (3, .int a2)]) g (by decide) rfl dX10_worked_1 ?_
  refine x_sipush (pc := 3) (v := (130 : Int32)) g (by decide) dX10_worked_3 ?_
  refine x_iload_n (pc := 6) g rfl 2 rfl dX10_worked_6 ?_
  refine x_imul (pc := 7) g dX10_worked_7 ?_
  refine x_iload_n (pc := 8) g rfl 3 rfl dX10_worked_8 ?_
  refine x_iadd (pc := 9) g dX10_worked_9 ?_
  refine x_nm (fun v1 => ?_)
  refine x_istore (pc := 10) (lv' := [(5, .int v1), (4, .int (0 : Int32)), (0, .ref (al 103)), (1, .int a0), (2, .int a1), (3, .int a2)]) g (by decide) rfl dX10_worked_10 ?_
  refine x_jn (fun (j188 : Sx → Option (Int32 × Sx)) => ∀ (σ1 : Sx), XTx p l e { frames := 1, cells := 0, slots := 0, locals := 22 } s m args below meth c D al cA ba 7 (MQx rvI D al cA ba below args s) 0 0 188 [(0, .ref (al 103))] [] σ1 (j188 σ1)) (fun σ1 => ?_) (fun j188 hj188 => ?_)
  · refine x_aload_n (pc := 188) g rfl 0 rfl dX10_worked_188 ?_
    refine x_getR (pc := 189) g sh_103 fl_X10_66 rfl dX10_worked_189 ?_
    refine x_iconst (pc := 192) (v := (0 : Int32)) g (by decide) dX10_worked_192 ?_
    refine x_iald (pc := 193) g sh_122 (by decide) dX10_worked_193 (fun v2 => ?_)
    exact x_ireturn (pc := 194) g hrt dX10_worked_194
  · refine x_lv [2, 3, 5, 1, 0] rfl ?_
    refine lpx2_ind (fun (x1 : Int32) (x2 : Int32) (σ2 : Sx) (K : Option (Int32 × Sx)) => XTx p l e { frames := 1, cells := 0, slots := 0, locals := 22 } s m args below meth c D al cA ba 7 (MQx rvI D al cA ba below args s) 0 0 12 [(0, .ref (al 103)), (1, .int a0), (3, .int a2), (4, .int x1), (5, .int x2)] [] σ2 (K)) (fun _ _ _ => x_no) (fun r12 hr12 x1 x2 σ2 => ?_) N (0 : Int32) v1 σ0
    show XTx p l e { frames := 1, cells := 0, slots := 0, locals := 22 } s m args below meth c D al cA ba 7 (MQx rvI D al cA ba below args s) 0 0 12 [(0, .ref (al 103)), (1, .int a0), (3, .int a2), (4, .int x1), (5, .int x2)] [] σ2 (B_X10_worked_L12 N a0 a2 j188 r12 x1 x2 σ2)
    unfold B_X10_worked_L12
    refine x_iload (pc := 12) g 4 rfl dX10_worked_12 ?_
    refine x_sipush (pc := 14) (v := (130 : Int32)) g (by decide) dX10_worked_14 ?_
    refine x_iload_n (pc := 17) g rfl 1 rfl dX10_worked_17 ?_
    refine x_imul (pc := 18) g dX10_worked_18 ?_
    refine x_iload_n (pc := 19) g rfl 2 rfl dX10_worked_19 ?_
    refine x_iadd (pc := 20) g dX10_worked_20 ?_
    refine x_icmp_ge (pc := 21) (tgt := 188) g (by decide) dX10_worked_21 ?_ ?_
    · refine x_lv [0] rfl ?_
      exact hj188 σ2
    · refine x_aload_n (pc := 24) g rfl 0 rfl dX10_worked_24 ?_
      refine x_getR (pc := 25) g sh_103 fl_X10_47 rfl dX10_worked_25 ?_
      refine x_iload (pc := 28) g 4 rfl dX10_worked_28 ?_
      refine x_bald (pc := 30) g sh_116 (by decide) dX10_worked_30 (fun v3 => ?_)
      refine x_istore (pc := 31) (lv' := [(6, .int v3), (0, .ref (al 103)), (1, .int a0), (3, .int a2), (4, .int x1), (5, .int x2)]) g (by decide) rfl dX10_worked_31 ?_
      refine x_iload (pc := 33) g 0 rfl dX10_worked_33 ?_
      refine x_iconst (pc := 35) (v := (1 : Int32)) g (by decide) dX10_worked_35 ?_
      refine x_jn (fun (j182 : Int32 → Sx → Option (Int32 × Sx)) => ∀ (x3 : Int32) (σ3 : Sx), XTx p l e { frames := 1, cells := 0, slots := 0, locals := 22 } s m args below meth c D al cA ba 7 (MQx rvI D al cA ba below args s) 0 0 182 [(0, .ref (al 103)), (1, .int a0), (3, .int a2), (4, .int x3), (5, .int x2)] [] σ3 (j182 x3 σ3)) (fun x3 σ3 => ?_) (fun j182 hj182 => ?_)
      · refine x_iinc (pc := 182) (v := (x2 + (1 : Int32))) (lv' := [(5, .int (x2 + (1 : Int32))), (0, .ref (al 103)), (1, .int a0), (3, .int a2), (4, .int x3)]) g 4 rfl (by rfl) (by decide) rfl dX10_worked_182 ?_
        refine x_goto (pc := 185) (tgt := 12) g (by decide) dX10_worked_185 ?_
        refine x_lv [1, 2, 3, 4, 0] rfl ?_
        exact hr12 x3 (x2 + (1 : Int32)) σ3
      · refine x_jn (fun (j45 : Sx → Option (Int32 × Sx)) => ∀ (σ4 : Sx), XTx p l e { frames := 1, cells := 0, slots := 0, locals := 22 } s m args below meth c D al cA ba 7 (MQx rvI D al cA ba below args s) 0 0 45 [(0, .ref (al 103)), (1, .int a0), (3, .int a2), (4, .int x1), (5, .int x2), (6, .int v3)] [] σ4 (j45 σ4)) (fun σ4 => ?_) (fun j45 hj45 => ?_)
        · refine x_aload_n (pc := 45) g rfl 0 rfl dX10_worked_45 ?_
          refine x_getR (pc := 46) g sh_103 fl_X10_66 rfl dX10_worked_46 ?_
          refine x_iload (pc := 49) g 3 rfl dX10_worked_49 ?_
          refine x_iload (pc := 51) g 5 rfl dX10_worked_51 ?_
          refine x_iconst (pc := 53) (v := (1 : Int32)) g (by decide) dX10_worked_53 ?_
          refine x_jn (fun (j79 : Int32 → Sx → Option (Int32 × Sx)) => ∀ (y1 : Int32) (σ5 : Sx), XTx p l e { frames := 1, cells := 0, slots := 0, locals := 22 } s m args below meth c D al cA ba 7 (MQx rvI D al cA ba below args s) 0 0 79 [(0, .ref (al 103)), (1, .int a0), (3, .int a2), (4, .int x1), (5, .int x2)] [.int y1, .int x1, .ref (al 122)] σ5 (j79 y1 σ5)) (fun y1 σ5 => ?_) (fun j79 hj79 => ?_)
          · refine x_iast (pc := 79) g sh_122 (by decide) dX10_worked_79 (fun σ6 => ?_)
            refine x_iinc (pc := 80) (v := (x1 + (1 : Int32))) (lv' := [(4, .int (x1 + (1 : Int32))), (0, .ref (al 103)), (1, .int a0), (3, .int a2), (5, .int x2)]) g 3 rfl (by rfl) (by decide) rfl dX10_worked_80 ?_
            refine x_goto (pc := 83) (tgt := 182) g (by decide) dX10_worked_83 ?_
            refine x_lv [1, 2, 3, 0, 4] rfl ?_
            exact hj182 (x1 + (1 : Int32)) σ6
          · refine x_icmp_ne (pc := 54) (tgt := 67) g (by decide) dX10_worked_54 ?_ ?_
            · refine x_aload_n (pc := 67) g rfl 0 rfl dX10_worked_67 ?_
              refine x_getR (pc := 68) g sh_103 fl_X10_63 rfl dX10_worked_68 ?_
              refine x_aload_n (pc := 71) g rfl 0 rfl dX10_worked_71 ?_
              refine x_getR (pc := 72) g sh_103 fl_X10_50 rfl dX10_worked_72 ?_
              refine x_iload (pc := 75) g 4 rfl dX10_worked_75 ?_
              refine x_iald (pc := 77) g sh_117 (by decide) dX10_worked_77 (fun v4 => ?_)
              refine x_iald (pc := 78) g sh_121 (by decide) dX10_worked_78 (fun v5 => ?_)
              refine x_lv [0, 1, 2, 3, 4] rfl ?_
              exact hj79 v5 σ4
            · refine x_aload_n (pc := 57) g rfl 0 rfl dX10_worked_57 ?_
              refine x_getR (pc := 58) g sh_103 fl_X10_50 rfl dX10_worked_58 ?_
              refine x_iload (pc := 61) g 4 rfl dX10_worked_61 ?_
              refine x_iald (pc := 63) g sh_117 (by decide) dX10_worked_63 (fun v6 => ?_)
              refine x_goto (pc := 64) (tgt := 79) g (by decide) dX10_worked_64 ?_
              refine x_lv [0, 1, 2, 3, 4] rfl ?_
              exact hj79 v6 σ4
        · refine x_icmp_eq (pc := 36) (tgt := 45) g (by decide) dX10_worked_36 ?_ ?_
          · refine x_lv [1, 2, 3, 4, 5, 0] rfl ?_
            exact hj45 σ2
          · refine x_iload (pc := 39) g 0 rfl dX10_worked_39 ?_
            refine x_iconst (pc := 41) (v := (2 : Int32)) g (by decide) dX10_worked_41 ?_
            refine x_icmp_ne (pc := 42) (tgt := 86) g (by decide) dX10_worked_42 ?_ ?_
            · refine x_iload (pc := 86) g 0 rfl dX10_worked_86 ?_
              refine x_iconst (pc := 88) (v := (3 : Int32)) g (by decide) dX10_worked_88 ?_
              refine x_icmp_ne (pc := 89) (tgt := 121) g (by decide) dX10_worked_89 ?_ ?_
              · refine x_iload (pc := 121) g 0 rfl dX10_worked_121 ?_
                refine x_iconst (pc := 123) (v := (4 : Int32)) g (by decide) dX10_worked_123 ?_
                refine x_icmp_ne (pc := 124) (tgt := 149) g (by decide) dX10_worked_124 ?_ ?_
                · refine x_iinc (pc := 149) (v := (x1 + (-1 : Int32))) (lv' := [(4, .int (x1 + (-1 : Int32))), (6, .int v3), (0, .ref (al 103)), (1, .int a0), (3, .int a2), (5, .int x2)]) g 4 rfl (by rfl) (by decide) rfl dX10_worked_149 ?_
                  refine x_aload_n (pc := 152) g rfl 2 rfl dX10_worked_152 ?_
                  refine x_getR (pc := 153) g sh_103 fl_X10_66 rfl dX10_worked_153 ?_
                  refine x_iload (pc := 156) g 0 rfl dX10_worked_156 ?_
                  refine x_iconst (pc := 158) (v := (1 : Int32)) g (by decide) dX10_worked_158 ?_
                  refine x_isub (pc := 159) g dX10_worked_159 ?_
                  refine x_iload (pc := 160) g 1 rfl dX10_worked_160 ?_
                  refine x_aload_n (pc := 162) g rfl 2 rfl dX10_worked_162 ?_
                  refine x_getR (pc := 163) g sh_103 fl_X10_66 rfl dX10_worked_163 ?_
                  refine x_iload (pc := 166) g 0 rfl dX10_worked_166 ?_
                  refine x_iconst (pc := 168) (v := (1 : Int32)) g (by decide) dX10_worked_168 ?_
                  refine x_isub (pc := 169) g dX10_worked_169 ?_
                  refine x_iald (pc := 170) g sh_122 (by decide) dX10_worked_170 (fun v7 => ?_)
                  refine x_aload_n (pc := 171) g rfl 2 rfl dX10_worked_171 ?_
                  refine x_getR (pc := 172) g sh_103 fl_X10_66 rfl dX10_worked_172 ?_
                  refine x_iload (pc := 175) g 0 rfl dX10_worked_175 ?_
                  refine x_iald (pc := 177) g sh_122 (by decide) dX10_worked_177 (fun v8 => ?_)
                  refine x_callSI (pc := 178) (As := [.int v3, .int v7, .int v8]) g (mc_X10_twoOf v3 v7 v8) cw_X10_twoOf lk_X10_246 rfl ⟨Nat.le_of_ble_eq_true rfl, Nat.le_of_ble_eq_true rfl⟩ rfl (Nat.le_of_ble_eq_true rfl) dX10_worked_178 (fun v9 σ7 => ?_)
                  refine x_iast (pc := 181) g sh_122 (by decide) dX10_worked_181 (fun σ8 => ?_)
                  refine x_lv [2, 3, 4, 0, 5] rfl ?_
                  exact hj182 (x1 + (-1 : Int32)) σ8
                · refine x_aload_n (pc := 127) g rfl 1 rfl dX10_worked_127 ?_
                  refine x_getR (pc := 128) g sh_103 fl_X10_66 rfl dX10_worked_128 ?_
                  refine x_iload (pc := 131) g 4 rfl dX10_worked_131 ?_
                  refine x_iconst (pc := 133) (v := (1 : Int32)) g (by decide) dX10_worked_133 ?_
                  refine x_isub (pc := 134) g dX10_worked_134 ?_
                  refine x_aload_n (pc := 135) g rfl 1 rfl dX10_worked_135 ?_
                  refine x_getR (pc := 136) g sh_103 fl_X10_66 rfl dX10_worked_136 ?_
                  refine x_iload (pc := 139) g 4 rfl dX10_worked_139 ?_
                  refine x_iconst (pc := 141) (v := (1 : Int32)) g (by decide) dX10_worked_141 ?_
                  refine x_isub (pc := 142) g dX10_worked_142 ?_
                  refine x_iald (pc := 143) g sh_122 (by decide) dX10_worked_143 (fun v10 => ?_)
                  refine x_ineg (pc := 144) g dX10_worked_144 ?_
                  refine x_iast (pc := 145) g sh_122 (by decide) dX10_worked_145 (fun σ9 => ?_)
                  refine x_goto (pc := 146) (tgt := 182) g (by decide) dX10_worked_146 ?_
                  refine x_lv [1, 2, 3, 4, 5] rfl ?_
                  exact hj182 x1 σ9
              · refine x_aload_n (pc := 92) g rfl 1 rfl dX10_worked_92 ?_
                refine x_getR (pc := 93) g sh_103 fl_X10_66 rfl dX10_worked_93 ?_
                refine x_iload (pc := 96) g 4 rfl dX10_worked_96 ?_
                refine x_iconst (pc := 98) (v := (1 : Int32)) g (by decide) dX10_worked_98 ?_
                refine x_isub (pc := 99) g dX10_worked_99 ?_
                refine x_aload_n (pc := 100) g rfl 1 rfl dX10_worked_100 ?_
                refine x_getR (pc := 101) g sh_103 fl_X10_66 rfl dX10_worked_101 ?_
                refine x_iload (pc := 104) g 4 rfl dX10_worked_104 ?_
                refine x_iconst (pc := 106) (v := (1 : Int32)) g (by decide) dX10_worked_106 ?_
                refine x_isub (pc := 107) g dX10_worked_107 ?_
                refine x_iald (pc := 108) g sh_122 (by decide) dX10_worked_108 (fun v11 => ?_)
                refine x_jn (fun (j117 : Int32 → Sx → Option (Int32 × Sx)) => ∀ (y2 : Int32) (σ10 : Sx), XTx p l e { frames := 1, cells := 0, slots := 0, locals := 22 } s m args below meth c D al cA ba 7 (MQx rvI D al cA ba below args s) 0 0 117 [(0, .ref (al 103)), (1, .int a0), (3, .int a2), (4, .int x1), (5, .int x2)] [.int y2, .int (x1 - (1 : Int32)), .ref (al 122)] σ10 (j117 y2 σ10)) (fun y2 σ10 => ?_) (fun j117 hj117 => ?_)
                · refine x_iast (pc := 117) g sh_122 (by decide) dX10_worked_117 (fun σ11 => ?_)
                  refine x_goto (pc := 118) (tgt := 182) g (by decide) dX10_worked_118 ?_
                  exact hj182 x1 σ11
                · refine x_if_ne (pc := 109) (tgt := 116) g (by decide) dX10_worked_109 ?_ ?_
                  · refine x_iconst (pc := 116) (v := (0 : Int32)) g (by decide) dX10_worked_116 ?_
                    refine x_lv [1, 2, 3, 4, 5] rfl ?_
                    exact hj117 (0 : Int32) σ2
                  · refine x_iconst (pc := 112) (v := (1 : Int32)) g (by decide) dX10_worked_112 ?_
                    refine x_goto (pc := 113) (tgt := 117) g (by decide) dX10_worked_113 ?_
                    refine x_lv [1, 2, 3, 4, 5] rfl ?_
                    exact hj117 (1 : Int32) σ2
            · refine x_lv [1, 2, 3, 4, 5, 0] rfl ?_
              exact hj45 σ2
def B_X10_gives_L7 (N : Nat) (a0 : Int32) (j47 : Int32 → Sx → Option (Int32 × Sx)) (r7 : Int32 → Int32 → Sx → Option (Int32 × Sx)) (x2 : Int32) (x3 : Int32) (σ3 : Sx) : Option (Int32 × Sx) := aIx 118 2 a0 σ3 (fun v5 => (if (((61 : Int32) * a0) + v5) ≤ x3 then some ((0 : Int32), σ3) else aIx 119 122 x3 σ3 (fun v6 => (if v6 = x2 then j47 x3 σ3 else aIx 119 122 x3 σ3 (fun v7 => clx (F_X10_worked N a0 x2 v7 σ3) (fun v8 σ4 => (if v8 = 0 then aIx 120 122 x3 σ4 (fun v9 => r7 v9 (x3 + (1 : Int32)) σ4) else j47 x3 σ4)))))))
def F_X10_gives (N : Nat) (a0 : Int32) (σ0 : Sx) : Option (Int32 × Sx) := nmx (((61 : Int32) * a0)) (fun v1 => nmx (fun (x1 : Int32) (σ1 : Sx) => aIx 119 122 x1 σ1 (fun v2 => aIx 120 122 x1 σ1 (fun v3 => clx (F_X10_worked N a0 v2 v3 σ1) (fun v4 σ2 => some (v4, σ2))))) (fun (j47 : Int32 → Sx → Option (Int32 × Sx)) => lpx2 (B_X10_gives_L7 N a0 j47) N (0 : Int32) v1 σ0))
set_option maxRecDepth 100000 in
set_option maxHeartbeats 4000000 in
theorem mc_X10_gives {D : va_G} {al : Nat → Nat} {cA : Nat → ClassId} {ba : Nat} (N : Nat) (a0 : Int32) : MCx D al cA ba yX10_gives cX10_gives 4 (some .int) 2 48 rvI [.ref (al 103), .int a0] (F_X10_gives N a0) := by
  refine MCx_of (by decide +kernel) (Nat.le_of_ble_eq_true rfl) ?_
  intro p l e s m args below meth c σ0 g hrt
  unfold F_X10_gives
  refine x_lv (lv' := [(0, .ref (al 103)), (1, .int a0)]) [0, 1] rfl ?_
  refine x_iconst (pc := 0) (v := (0 : Int32)) g (by decide) dX10_gives_0 ?_
  refine x_istore_n (pc := 1) (lv' := [(2, .int (0 : Int32)), (0, .ref (al 103)), (1, .int a0)]) g rfl (by decide) rfl dX10_gives_1 ?_
  refine x_bipush (pc := 2) (v := (61 : Int32)) g (by decide) dX10_gives_2 ?_
  refine x_iload_n (pc := 4) g rfl 2 rfl dX10_gives_4 ?_
  refine x_imul (pc := 5) g dX10_gives_5 ?_
  refine x_nm (fun v1 => ?_)
  refine x_istore_n (pc := 6) (lv' := [(3, .int v1), (2, .int (0 : Int32)), (0, .ref (al 103)), (1, .int a0)]) g rfl (by decide) rfl dX10_gives_6 ?_
  refine x_jn (fun (j47 : Int32 → Sx → Option (Int32 × Sx)) => ∀ (x1 : Int32) (σ1 : Sx), XTx p l e { frames := 2, cells := 0, slots := 0, locals := 48 } s m args below meth c D al cA ba 4 (MQx rvI D al cA ba below args s) 0 0 47 [(0, .ref (al 103)), (1, .int a0), (3, .int x1)] [] σ1 (j47 x1 σ1)) (fun x1 σ1 => ?_) (fun j47 hj47 => ?_)
  · refine x_aload_n (pc := 47) g rfl 0 rfl dX10_gives_47 ?_
    refine x_iload_n (pc := 48) g rfl 1 rfl dX10_gives_48 ?_
    refine x_aload_n (pc := 49) g rfl 0 rfl dX10_gives_49 ?_
    refine x_getR (pc := 50) g sh_103 fl_X10_56 rfl dX10_gives_50 ?_
    refine x_iload_n (pc := 53) g rfl 2 rfl dX10_gives_53 ?_
    refine x_sald (pc := 54) g sh_119 (by decide) dX10_gives_54 (fun v2 => ?_)
    refine x_aload_n (pc := 55) g rfl 0 rfl dX10_gives_55 ?_
    refine x_getR (pc := 56) g sh_103 fl_X10_60 rfl dX10_gives_56 ?_
    refine x_iload_n (pc := 59) g rfl 2 rfl dX10_gives_59 ?_
    refine x_sald (pc := 60) g sh_120 (by decide) dX10_gives_60 (fun v3 => ?_)
    refine x_callVI (pc := 61) (As := [.int a0, .int v2, .int v3]) g sh_103 (mc_X10_worked N a0 v2 v3) cw_X10_worked lk_X10_249 rfl ⟨Nat.le_of_ble_eq_true rfl, Nat.le_of_ble_eq_true rfl⟩ rfl (Nat.le_of_ble_eq_true rfl) dX10_gives_61 (fun v4 σ2 => ?_)
    exact x_ireturn (pc := 64) g hrt dX10_gives_64
  · refine x_lv [2, 3, 1, 0] rfl ?_
    refine lpx2_ind (fun (x2 : Int32) (x3 : Int32) (σ3 : Sx) (K : Option (Int32 × Sx)) => XTx p l e { frames := 2, cells := 0, slots := 0, locals := 48 } s m args below meth c D al cA ba 4 (MQx rvI D al cA ba below args s) 0 0 7 [(0, .ref (al 103)), (1, .int a0), (2, .int x2), (3, .int x3)] [] σ3 (K)) (fun _ _ _ => x_no) (fun r7 hr7 x2 x3 σ3 => ?_) N (0 : Int32) v1 σ0
    show XTx p l e { frames := 2, cells := 0, slots := 0, locals := 48 } s m args below meth c D al cA ba 4 (MQx rvI D al cA ba below args s) 0 0 7 [(0, .ref (al 103)), (1, .int a0), (2, .int x2), (3, .int x3)] [] σ3 (B_X10_gives_L7 N a0 j47 r7 x2 x3 σ3)
    unfold B_X10_gives_L7
    refine x_iload_n (pc := 7) g rfl 3 rfl dX10_gives_7 ?_
    refine x_bipush (pc := 8) (v := (61 : Int32)) g (by decide) dX10_gives_8 ?_
    refine x_iload_n (pc := 10) g rfl 1 rfl dX10_gives_10 ?_
    refine x_imul (pc := 11) g dX10_gives_11 ?_
    refine x_aload_n (pc := 12) g rfl 0 rfl dX10_gives_12 ?_
    refine x_getR (pc := 13) g sh_103 fl_X10_53 rfl dX10_gives_13 ?_
    refine x_iload_n (pc := 16) g rfl 1 rfl dX10_gives_16 ?_
    refine x_iald (pc := 17) g sh_118 (by decide) dX10_gives_17 (fun v5 => ?_)
    refine x_iadd (pc := 18) g dX10_gives_18 ?_
    refine x_icmp_ge (pc := 19) (tgt := 78) g (by decide) dX10_gives_19 ?_ ?_
    · refine x_iconst (pc := 78) (v := (0 : Int32)) g (by decide) dX10_gives_78 ?_
      exact x_ireturn (pc := 79) g hrt dX10_gives_79
    · refine x_aload_n (pc := 22) g rfl 0 rfl dX10_gives_22 ?_
      refine x_getR (pc := 23) g sh_103 fl_X10_56 rfl dX10_gives_23 ?_
      refine x_iload_n (pc := 26) g rfl 3 rfl dX10_gives_26 ?_
      refine x_sald (pc := 27) g sh_119 (by decide) dX10_gives_27 (fun v6 => ?_)
      refine x_iload_n (pc := 28) g rfl 2 rfl dX10_gives_28 ?_
      refine x_icmp_eq (pc := 29) (tgt := 47) g (by decide) dX10_gives_29 ?_ ?_
      · refine x_lv [0, 1, 3] rfl ?_
        exact hj47 x3 σ3
      · refine x_aload_n (pc := 32) g rfl 0 rfl dX10_gives_32 ?_
        refine x_iload_n (pc := 33) g rfl 1 rfl dX10_gives_33 ?_
        refine x_iload_n (pc := 34) g rfl 2 rfl dX10_gives_34 ?_
        refine x_aload_n (pc := 35) g rfl 0 rfl dX10_gives_35 ?_
        refine x_getR (pc := 36) g sh_103 fl_X10_56 rfl dX10_gives_36 ?_
        refine x_iload_n (pc := 39) g rfl 3 rfl dX10_gives_39 ?_
        refine x_sald (pc := 40) g sh_119 (by decide) dX10_gives_40 (fun v7 => ?_)
        refine x_callVI (pc := 41) (As := [.int a0, .int x2, .int v7]) g sh_103 (mc_X10_worked N a0 x2 v7) cw_X10_worked lk_X10_249 rfl ⟨Nat.le_of_ble_eq_true rfl, Nat.le_of_ble_eq_true rfl⟩ rfl (Nat.le_of_ble_eq_true rfl) dX10_gives_41 (fun v8 σ4 => ?_)
        refine x_if_eq (pc := 44) (tgt := 65) g (by decide) dX10_gives_44 ?_ ?_
        · refine x_aload_n (pc := 65) g rfl 0 rfl dX10_gives_65 ?_
          refine x_getR (pc := 66) g sh_103 fl_X10_60 rfl dX10_gives_66 ?_
          refine x_iload_n (pc := 69) g rfl 3 rfl dX10_gives_69 ?_
          refine x_sald (pc := 70) g sh_120 (by decide) dX10_gives_70 (fun v9 => ?_)
          refine x_istore_n (pc := 71) (lv' := [(2, .int v9), (0, .ref (al 103)), (1, .int a0), (3, .int x3)]) g rfl (by decide) rfl dX10_gives_71 ?_
          refine x_iinc (pc := 72) (v := (x3 + (1 : Int32))) (lv' := [(3, .int (x3 + (1 : Int32))), (2, .int v9), (0, .ref (al 103)), (1, .int a0)]) g 3 rfl (by rfl) (by decide) rfl dX10_gives_72 ?_
          refine x_goto (pc := 75) (tgt := 7) g (by decide) dX10_gives_75 ?_
          refine x_lv [2, 3, 1, 0] rfl ?_
          exact hr7 v9 (x3 + (1 : Int32)) σ4
        · refine x_lv [0, 1, 3] rfl ?_
          exact hj47 x3 σ4
def F_X10_law (N : Nat) (σ0 : Sx) : Option (Int32 × Sx) := clx (F_X10_readText N (0 : Int32) σ0) (fun v1 σ1 => (if v1 < 0 then pZx 103 28 (1 : Int32) σ1 (fun σ2 => some ((1 : Int32), σ2)) else some (((-100 : Int32) - v1), σ1)))
set_option maxRecDepth 100000 in
set_option maxHeartbeats 4000000 in
theorem mc_X10_law {D : va_G} {al : Nat → Nat} {cA : Nat → ClassId} {ba : Nat} (N : Nat)  : MCx D al cA ba yX10_law cX10_law 2 (some .int) 69 1451 rvI [.ref (al 103)] (F_X10_law N) := by
  refine MCx_of (by decide +kernel) (Nat.le_of_ble_eq_true rfl) ?_
  intro p l e s m args below meth c σ0 g hrt
  unfold F_X10_law
  refine x_lv (lv' := [(0, .ref (al 103))]) [0] rfl ?_
  refine x_aload_n (pc := 0) g rfl 0 rfl dX10_law_0 ?_
  refine x_iconst (pc := 1) (v := (0 : Int32)) g (by decide) dX10_law_1 ?_
  refine x_callVI (pc := 2) (As := [.int (0 : Int32)]) g sh_103 (mc_X10_readText N (0 : Int32)) cw_X10_readText lk_X10_252 rfl ⟨Nat.le_of_ble_eq_true rfl, Nat.le_of_ble_eq_true rfl⟩ rfl (Nat.le_of_ble_eq_true rfl) dX10_law_2 (fun v1 σ1 => ?_)
  refine x_istore_n (pc := 5) (lv' := [(1, .int v1), (0, .ref (al 103))]) g rfl (by decide) rfl dX10_law_5 ?_
  refine x_iload_n (pc := 6) g rfl 0 rfl dX10_law_6 ?_
  refine x_if_lt (pc := 7) (tgt := 15) g (by decide) dX10_law_7 ?_ ?_
  · refine x_aload_n (pc := 15) g rfl 1 rfl dX10_law_15 ?_
    refine x_iconst (pc := 16) (v := (1 : Int32)) g (by decide) dX10_law_16 ?_
    refine x_putZ (pc := 17) g sh_103 fl_X10_255 rfl dX10_law_17 (fun σ2 => ?_)
    refine x_iconst (pc := 20) (v := (1 : Int32)) g (by decide) dX10_law_20 ?_
    exact x_ireturn (pc := 21) g hrt dX10_law_21
  · refine x_bipush (pc := 10) (v := (-100 : Int32)) g (by decide) dX10_law_10 ?_
    refine x_iload_n (pc := 12) g rfl 0 rfl dX10_law_12 ?_
    refine x_isub (pc := 13) g dX10_law_13 ?_
    exact x_ireturn (pc := 14) g hrt dX10_law_14
def B_X10_findMinutes_L43 (N : Nat) (x1 : Int32) (x2 : Int32) (v2 : Int32) (j141 : Sx → Option (Unit × Sx)) (r43 : Int32 → Int32 → Sx → Option (Unit × Sx)) (x3 : Int32) (x4 : Int32) (σ5 : Sx) : Option (Unit × Sx) := aIx 108 20 (((4 : Int32) * x1) + x2) σ5 (fun v4 => (if v4 ≤ x4 then j141 σ5 else nmx (fun (x5 : Int32) (σ6 : Sx) => sIx 123 160 (v2 + x4) x5 σ6 (fun σ7 => r43 x5 (x4 + (1 : Int32)) σ7)) (fun (j124 : Int32 → Sx → Option (Unit × Sx)) => (if x4 ≤ 0 then j124 x3 σ5 else aIx 109 160 (v2 + x4) σ5 (fun v5 => aIx 109 160 ((v2 + x4) - (1 : Int32)) σ5 (fun v6 => nmx (fun (y1 : Int32) (σ8 : Sx) => nmx ((x3 + y1)) (fun v7 => j124 v7 σ8)) (fun (j121 : Int32 → Sx → Option (Unit × Sx)) => (if v5 = v6 then j121 (1 : Int32) σ5 else aIx 109 160 ((v2 + x4) - (1 : Int32)) σ5 (fun v8 => aIx 109 160 (v2 + x4) σ5 (fun v9 => aIx 110 64 (((8 : Int32) * v8) + v9) σ5 (fun v10 => j121 v10 σ5)))))))))))
def B_X10_findMinutes_L12 (N : Nat) (x1 : Int32) (j147 : Sx → Option (Unit × Sx)) (r12 : Int32 → Sx → Option (Unit × Sx)) (x2 : Int32) (σ3 : Sx) : Option (Unit × Sx) := aIx 107 5 x1 σ3 (fun v1 => (if v1 ≤ x2 then j147 σ3 else nmx ((((32 : Int32) * x1) + ((8 : Int32) * x2))) (fun v2 => aIx 105 5 x1 σ3 (fun v3 => nmx (fun (σ4 : Sx) => r12 (x2 + (1 : Int32)) σ4) (fun (j141 : Sx → Option (Unit × Sx)) => lpx2 (B_X10_findMinutes_L43 N x1 x2 v2 j141) N v3 (0 : Int32) σ3)))))
def B_X10_findMinutes_L2 (N : Nat) (r2 : Int32 → Sx → Option (Unit × Sx)) (x1 : Int32) (σ1 : Sx) : Option (Unit × Sx) := (if (siI σ1 103 1) ≤ x1 then some ((), σ1) else nmx (fun (σ2 : Sx) => r2 (x1 + (1 : Int32)) σ2) (fun (j147 : Sx → Option (Unit × Sx)) => lpx1 (B_X10_findMinutes_L12 N x1 j147) N (0 : Int32) σ1))
def F_X10_findMinutes (N : Nat) (σ0 : Sx) : Option (Unit × Sx) := lpx1 (B_X10_findMinutes_L2 N) N (0 : Int32) σ0
set_option maxRecDepth 100000 in
set_option maxHeartbeats 4000000 in
theorem mc_X10_findMinutes {D : va_G} {al : Nat → Nat} {cA : Nat → ClassId} {ba : Nat} (N : Nat)  : MCx D al cA ba yX10_findMinutes cX10_findMinutes 6 none 0 0 rvU [.ref (al 103)] (F_X10_findMinutes N) := by
  refine MCx_of (by decide +kernel) (Nat.le_of_ble_eq_true rfl) ?_
  intro p l e s m args below meth c σ0 g hrt
  unfold F_X10_findMinutes
  refine x_lv (lv' := [(0, .ref (al 103))]) [0] rfl ?_
  refine x_iconst (pc := 0) (v := (0 : Int32)) g (by decide) dX10_findMinutes_0 ?_
  refine x_istore_n (pc := 1) (lv' := [(1, .int (0 : Int32)), (0, .ref (al 103))]) g rfl (by decide) rfl dX10_findMinutes_1 ?_
  refine x_lv [1, 0] rfl ?_
  refine lpx1_ind (fun (x1 : Int32) (σ1 : Sx) (K : Option (Unit × Sx)) => XTx p l e { frames := 0, cells := 0, slots := 0, locals := 0 } s m args below meth c D al cA ba 6 (MQx rvU D al cA ba below args s) 0 0 2 [(0, .ref (al 103)), (1, .int x1)] [] σ1 (K)) (fun _ _ => x_no) (fun r2 hr2 x1 σ1 => ?_) N (0 : Int32) σ0
  show XTx p l e { frames := 0, cells := 0, slots := 0, locals := 0 } s m args below meth c D al cA ba 6 (MQx rvU D al cA ba below args s) 0 0 2 [(0, .ref (al 103)), (1, .int x1)] [] σ1 (B_X10_findMinutes_L2 N r2 x1 σ1)
  unfold B_X10_findMinutes_L2
  refine x_iload_n (pc := 2) g rfl 1 rfl dX10_findMinutes_2 ?_
  refine x_aload_n (pc := 3) g rfl 0 rfl dX10_findMinutes_3 ?_
  refine x_getI (pc := 4) g sh_103 fl_X10_128 rfl dX10_findMinutes_4 ?_
  refine x_icmp_ge (pc := 7) (tgt := 153) g (by decide) dX10_findMinutes_7 ?_ ?_
  · exact x_return (pc := 153) g hrt dX10_findMinutes_153
  · refine x_iconst (pc := 10) (v := (0 : Int32)) g (by decide) dX10_findMinutes_10 ?_
    refine x_istore_n (pc := 11) (lv' := [(2, .int (0 : Int32)), (0, .ref (al 103)), (1, .int x1)]) g rfl (by decide) rfl dX10_findMinutes_11 ?_
    refine x_jn (fun (j147 : Sx → Option (Unit × Sx)) => ∀ (σ2 : Sx), XTx p l e { frames := 0, cells := 0, slots := 0, locals := 0 } s m args below meth c D al cA ba 6 (MQx rvU D al cA ba below args s) 0 0 147 [(0, .ref (al 103)), (1, .int x1)] [] σ2 (j147 σ2)) (fun σ2 => ?_) (fun j147 hj147 => ?_)
    · refine x_iinc (pc := 147) (v := (x1 + (1 : Int32))) (lv' := [(1, .int (x1 + (1 : Int32))), (0, .ref (al 103))]) g 1 rfl (by rfl) (by decide) rfl dX10_findMinutes_147 ?_
      refine x_goto (pc := 150) (tgt := 2) g (by decide) dX10_findMinutes_150 ?_
      refine x_lv [1, 0] rfl ?_
      exact hr2 (x1 + (1 : Int32)) σ2
    · refine x_lv [1, 2, 0] rfl ?_
      refine lpx1_ind (fun (x2 : Int32) (σ3 : Sx) (K : Option (Unit × Sx)) => XTx p l e { frames := 0, cells := 0, slots := 0, locals := 0 } s m args below meth c D al cA ba 6 (MQx rvU D al cA ba below args s) 0 0 12 [(0, .ref (al 103)), (1, .int x1), (2, .int x2)] [] σ3 (K)) (fun _ _ => x_no) (fun r12 hr12 x2 σ3 => ?_) N (0 : Int32) σ1
      show XTx p l e { frames := 0, cells := 0, slots := 0, locals := 0 } s m args below meth c D al cA ba 6 (MQx rvU D al cA ba below args s) 0 0 12 [(0, .ref (al 103)), (1, .int x1), (2, .int x2)] [] σ3 (B_X10_findMinutes_L12 N x1 j147 r12 x2 σ3)
      unfold B_X10_findMinutes_L12
      refine x_iload_n (pc := 12) g rfl 2 rfl dX10_findMinutes_12 ?_
      refine x_aload_n (pc := 13) g rfl 0 rfl dX10_findMinutes_13 ?_
      refine x_getR (pc := 14) g sh_103 fl_X10_19 rfl dX10_findMinutes_14 ?_
      refine x_iload_n (pc := 17) g rfl 1 rfl dX10_findMinutes_17 ?_
      refine x_iald (pc := 18) g sh_107 (by decide) dX10_findMinutes_18 (fun v1 => ?_)
      refine x_icmp_ge (pc := 19) (tgt := 147) g (by decide) dX10_findMinutes_19 ?_ ?_
      · refine x_lv [0, 1] rfl ?_
        exact hj147 σ3
      · refine x_bipush (pc := 22) (v := (32 : Int32)) g (by decide) dX10_findMinutes_22 ?_
        refine x_iload_n (pc := 24) g rfl 1 rfl dX10_findMinutes_24 ?_
        refine x_imul (pc := 25) g dX10_findMinutes_25 ?_
        refine x_bipush (pc := 26) (v := (8 : Int32)) g (by decide) dX10_findMinutes_26 ?_
        refine x_iload_n (pc := 28) g rfl 2 rfl dX10_findMinutes_28 ?_
        refine x_imul (pc := 29) g dX10_findMinutes_29 ?_
        refine x_iadd (pc := 30) g dX10_findMinutes_30 ?_
        refine x_nm (fun v2 => ?_)
        refine x_istore_n (pc := 31) (lv' := [(3, .int v2), (0, .ref (al 103)), (1, .int x1), (2, .int x2)]) g rfl (by decide) rfl dX10_findMinutes_31 ?_
        refine x_aload_n (pc := 32) g rfl 1 rfl dX10_findMinutes_32 ?_
        refine x_getR (pc := 33) g sh_103 fl_X10_13 rfl dX10_findMinutes_33 ?_
        refine x_iload_n (pc := 36) g rfl 2 rfl dX10_findMinutes_36 ?_
        refine x_iald (pc := 37) g sh_105 (by decide) dX10_findMinutes_37 (fun v3 => ?_)
        refine x_istore (pc := 38) (lv' := [(4, .int v3), (3, .int v2), (0, .ref (al 103)), (1, .int x1), (2, .int x2)]) g (by decide) rfl dX10_findMinutes_38 ?_
        refine x_iconst (pc := 40) (v := (0 : Int32)) g (by decide) dX10_findMinutes_40 ?_
        refine x_istore (pc := 41) (lv' := [(5, .int (0 : Int32)), (4, .int v3), (3, .int v2), (0, .ref (al 103)), (1, .int x1), (2, .int x2)]) g (by decide) rfl dX10_findMinutes_41 ?_
        refine x_jn (fun (j141 : Sx → Option (Unit × Sx)) => ∀ (σ4 : Sx), XTx p l e { frames := 0, cells := 0, slots := 0, locals := 0 } s m args below meth c D al cA ba 6 (MQx rvU D al cA ba below args s) 0 0 141 [(0, .ref (al 103)), (1, .int x1), (2, .int x2)] [] σ4 (j141 σ4)) (fun σ4 => ?_) (fun j141 hj141 => ?_)
        · refine x_iinc (pc := 141) (v := (x2 + (1 : Int32))) (lv' := [(2, .int (x2 + (1 : Int32))), (0, .ref (al 103)), (1, .int x1)]) g 2 rfl (by rfl) (by decide) rfl dX10_findMinutes_141 ?_
          refine x_goto (pc := 144) (tgt := 12) g (by decide) dX10_findMinutes_144 ?_
          refine x_lv [1, 2, 0] rfl ?_
          exact hr12 (x2 + (1 : Int32)) σ4
        · refine x_lv [3, 4, 5, 2, 1, 0] rfl ?_
          refine lpx2_ind (fun (x3 : Int32) (x4 : Int32) (σ5 : Sx) (K : Option (Unit × Sx)) => XTx p l e { frames := 0, cells := 0, slots := 0, locals := 0 } s m args below meth c D al cA ba 6 (MQx rvU D al cA ba below args s) 0 0 43 [(0, .ref (al 103)), (1, .int x1), (2, .int x2), (3, .int v2), (4, .int x3), (5, .int x4)] [] σ5 (K)) (fun _ _ _ => x_no) (fun r43 hr43 x3 x4 σ5 => ?_) N v3 (0 : Int32) σ3
          show XTx p l e { frames := 0, cells := 0, slots := 0, locals := 0 } s m args below meth c D al cA ba 6 (MQx rvU D al cA ba below args s) 0 0 43 [(0, .ref (al 103)), (1, .int x1), (2, .int x2), (3, .int v2), (4, .int x3), (5, .int x4)] [] σ5 (B_X10_findMinutes_L43 N x1 x2 v2 j141 r43 x3 x4 σ5)
          unfold B_X10_findMinutes_L43
          refine x_iload (pc := 43) g 5 rfl dX10_findMinutes_43 ?_
          refine x_aload_n (pc := 45) g rfl 0 rfl dX10_findMinutes_45 ?_
          refine x_getR (pc := 46) g sh_103 fl_X10_22 rfl dX10_findMinutes_46 ?_
          refine x_iconst (pc := 49) (v := (4 : Int32)) g (by decide) dX10_findMinutes_49 ?_
          refine x_iload_n (pc := 50) g rfl 1 rfl dX10_findMinutes_50 ?_
          refine x_imul (pc := 51) g dX10_findMinutes_51 ?_
          refine x_iload_n (pc := 52) g rfl 2 rfl dX10_findMinutes_52 ?_
          refine x_iadd (pc := 53) g dX10_findMinutes_53 ?_
          refine x_iald (pc := 54) g sh_108 (by decide) dX10_findMinutes_54 (fun v4 => ?_)
          refine x_icmp_ge (pc := 55) (tgt := 141) g (by decide) dX10_findMinutes_55 ?_ ?_
          · refine x_lv [0, 1, 2] rfl ?_
            exact hj141 σ5
          · refine x_iload (pc := 58) g 5 rfl dX10_findMinutes_58 ?_
            refine x_jn (fun (j124 : Int32 → Sx → Option (Unit × Sx)) => ∀ (x5 : Int32) (σ6 : Sx), XTx p l e { frames := 0, cells := 0, slots := 0, locals := 0 } s m args below meth c D al cA ba 6 (MQx rvU D al cA ba below args s) 0 0 124 [(0, .ref (al 103)), (1, .int x1), (2, .int x2), (3, .int v2), (4, .int x5), (5, .int x4)] [] σ6 (j124 x5 σ6)) (fun x5 σ6 => ?_) (fun j124 hj124 => ?_)
            · refine x_aload_n (pc := 124) g rfl 0 rfl dX10_findMinutes_124 ?_
              refine x_getR (pc := 125) g sh_103 fl_X10_69 rfl dX10_findMinutes_125 ?_
              refine x_iload_n (pc := 128) g rfl 3 rfl dX10_findMinutes_128 ?_
              refine x_iload (pc := 129) g 5 rfl dX10_findMinutes_129 ?_
              refine x_iadd (pc := 131) g dX10_findMinutes_131 ?_
              refine x_iload (pc := 132) g 4 rfl dX10_findMinutes_132 ?_
              refine x_iast (pc := 134) g sh_123 (by decide) dX10_findMinutes_134 (fun σ7 => ?_)
              refine x_iinc (pc := 135) (v := (x4 + (1 : Int32))) (lv' := [(5, .int (x4 + (1 : Int32))), (0, .ref (al 103)), (1, .int x1), (2, .int x2), (3, .int v2), (4, .int x5)]) g 5 rfl (by rfl) (by decide) rfl dX10_findMinutes_135 ?_
              refine x_goto (pc := 138) (tgt := 43) g (by decide) dX10_findMinutes_138 ?_
              refine x_lv [1, 2, 3, 4, 5, 0] rfl ?_
              exact hr43 x5 (x4 + (1 : Int32)) σ7
            · refine x_if_le (pc := 60) (tgt := 124) g (by decide) dX10_findMinutes_60 ?_ ?_
              · exact hj124 x3 σ5
              · refine x_iload (pc := 63) g 4 rfl dX10_findMinutes_63 ?_
                refine x_aload_n (pc := 65) g rfl 0 rfl dX10_findMinutes_65 ?_
                refine x_getR (pc := 66) g sh_103 fl_X10_25 rfl dX10_findMinutes_66 ?_
                refine x_iload_n (pc := 69) g rfl 3 rfl dX10_findMinutes_69 ?_
                refine x_iload (pc := 70) g 5 rfl dX10_findMinutes_70 ?_
                refine x_iadd (pc := 72) g dX10_findMinutes_72 ?_
                refine x_iald (pc := 73) g sh_109 (by decide) dX10_findMinutes_73 (fun v5 => ?_)
                refine x_aload_n (pc := 74) g rfl 0 rfl dX10_findMinutes_74 ?_
                refine x_getR (pc := 75) g sh_103 fl_X10_25 rfl dX10_findMinutes_75 ?_
                refine x_iload_n (pc := 78) g rfl 3 rfl dX10_findMinutes_78 ?_
                refine x_iload (pc := 79) g 5 rfl dX10_findMinutes_79 ?_
                refine x_iadd (pc := 81) g dX10_findMinutes_81 ?_
                refine x_iconst (pc := 82) (v := (1 : Int32)) g (by decide) dX10_findMinutes_82 ?_
                refine x_isub (pc := 83) g dX10_findMinutes_83 ?_
                refine x_iald (pc := 84) g sh_109 (by decide) dX10_findMinutes_84 (fun v6 => ?_)
                refine x_jn (fun (j121 : Int32 → Sx → Option (Unit × Sx)) => ∀ (y1 : Int32) (σ8 : Sx), XTx p l e { frames := 0, cells := 0, slots := 0, locals := 0 } s m args below meth c D al cA ba 6 (MQx rvU D al cA ba below args s) 0 0 121 [(0, .ref (al 103)), (1, .int x1), (2, .int x2), (3, .int v2), (5, .int x4)] [.int y1, .int x3] σ8 (j121 y1 σ8)) (fun y1 σ8 => ?_) (fun j121 hj121 => ?_)
                · refine x_iadd (pc := 121) g dX10_findMinutes_121 ?_
                  refine x_nm (fun v7 => ?_)
                  refine x_istore (pc := 122) (lv' := [(4, .int v7), (0, .ref (al 103)), (1, .int x1), (2, .int x2), (3, .int v2), (5, .int x4)]) g (by decide) rfl dX10_findMinutes_122 ?_
                  refine x_lv [1, 2, 3, 4, 0, 5] rfl ?_
                  exact hj124 v7 σ8
                · refine x_icmp_ne (pc := 85) (tgt := 92) g (by decide) dX10_findMinutes_85 ?_ ?_
                  · refine x_aload_n (pc := 92) g rfl 0 rfl dX10_findMinutes_92 ?_
                    refine x_getR (pc := 93) g sh_103 fl_X10_28 rfl dX10_findMinutes_93 ?_
                    refine x_bipush (pc := 96) (v := (8 : Int32)) g (by decide) dX10_findMinutes_96 ?_
                    refine x_aload_n (pc := 98) g rfl 0 rfl dX10_findMinutes_98 ?_
                    refine x_getR (pc := 99) g sh_103 fl_X10_25 rfl dX10_findMinutes_99 ?_
                    refine x_iload_n (pc := 102) g rfl 3 rfl dX10_findMinutes_102 ?_
                    refine x_iload (pc := 103) g 5 rfl dX10_findMinutes_103 ?_
                    refine x_iadd (pc := 105) g dX10_findMinutes_105 ?_
                    refine x_iconst (pc := 106) (v := (1 : Int32)) g (by decide) dX10_findMinutes_106 ?_
                    refine x_isub (pc := 107) g dX10_findMinutes_107 ?_
                    refine x_iald (pc := 108) g sh_109 (by decide) dX10_findMinutes_108 (fun v8 => ?_)
                    refine x_imul (pc := 109) g dX10_findMinutes_109 ?_
                    refine x_aload_n (pc := 110) g rfl 0 rfl dX10_findMinutes_110 ?_
                    refine x_getR (pc := 111) g sh_103 fl_X10_25 rfl dX10_findMinutes_111 ?_
                    refine x_iload_n (pc := 114) g rfl 3 rfl dX10_findMinutes_114 ?_
                    refine x_iload (pc := 115) g 5 rfl dX10_findMinutes_115 ?_
                    refine x_iadd (pc := 117) g dX10_findMinutes_117 ?_
                    refine x_iald (pc := 118) g sh_109 (by decide) dX10_findMinutes_118 (fun v9 => ?_)
                    refine x_iadd (pc := 119) g dX10_findMinutes_119 ?_
                    refine x_iald (pc := 120) g sh_110 (by decide) dX10_findMinutes_120 (fun v10 => ?_)
                    refine x_lv [0, 1, 2, 3, 5] rfl ?_
                    exact hj121 v10 σ5
                  · refine x_iconst (pc := 88) (v := (1 : Int32)) g (by decide) dX10_findMinutes_88 ?_
                    refine x_goto (pc := 89) (tgt := 121) g (by decide) dX10_findMinutes_89 ?_
                    refine x_lv [0, 1, 2, 3, 5] rfl ?_
                    exact hj121 (1 : Int32) σ5
def B_X10_hasTracks_L14 (N : Nat) (a0 : Int32) (a1 : Int32) (a2 : Int32) (a3 : Int32) (v1 : Int32) (r14 : Int32 → Sx → Option (Int32 × Sx)) (x1 : Int32) (σ1 : Sx) : Option (Int32 × Sx) := aIx 108 20 (((4 : Int32) * a0) + a1) σ1 (fun v2 => (if v2 ≤ x1 then some ((0 : Int32), σ1) else aIx 109 160 (v1 + x1) σ1 (fun v3 => nmx (fun (σ2 : Sx) => r14 (x1 + (1 : Int32)) σ2) (fun (j82 : Sx → Option (Int32 × Sx)) => (if v3 = a2 then aIx 123 160 (v1 + x1) σ1 (fun v4 => (if v4 ≤ a3 then j82 σ1 else aIx 123 160 (v1 + x1) σ1 (fun v5 => aIx 104 5 a0 σ1 (fun v6 => (if (a3 + v6) < v5 then j82 σ1 else some ((1 : Int32), σ1)))))) else j82 σ1)))))
def F_X10_hasTracks (N : Nat) (a0 : Int32) (a1 : Int32) (a2 : Int32) (a3 : Int32) (σ0 : Sx) : Option (Int32 × Sx) := nmx ((((32 : Int32) * a0) + ((8 : Int32) * a1))) (fun v1 => lpx1 (B_X10_hasTracks_L14 N a0 a1 a2 a3 v1) N (0 : Int32) σ0)
set_option maxRecDepth 100000 in
set_option maxHeartbeats 4000000 in
theorem mc_X10_hasTracks {D : va_G} {al : Nat → Nat} {cA : Nat → ClassId} {ba : Nat} (N : Nat) (a0 : Int32) (a1 : Int32) (a2 : Int32) (a3 : Int32) : MCx D al cA ba yX10_hasTracks cX10_hasTracks 7 (some .boolean) 0 0 rvI [.ref (al 103), .int a0, .int a1, .int a2, .int a3] (F_X10_hasTracks N a0 a1 a2 a3) := by
  refine MCx_of (by decide +kernel) (Nat.le_of_ble_eq_true rfl) ?_
  intro p l e s m args below meth c σ0 g hrt
  unfold F_X10_hasTracks
  refine x_lv (lv' := [(0, .ref (al 103)), (1, .int a0), (2, .int a1), (3, .int a2), (4, .int a3)]) [0, 1, 2, 3, 4] rfl ?_
  refine x_bipush (pc := 0) (v := (32 : Int32)) g (by decide) dX10_hasTracks_0 ?_
  refine x_iload_n (pc := 2) g rfl 1 rfl dX10_hasTracks_2 ?_
  refine x_imul (pc := 3) g dX10_hasTracks_3 ?_
  refine x_bipush (pc := 4) (v := (8 : Int32)) g (by decide) dX10_hasTracks_4 ?_
  refine x_iload_n (pc := 6) g rfl 2 rfl dX10_hasTracks_6 ?_
  refine x_imul (pc := 7) g dX10_hasTracks_7 ?_
  refine x_iadd (pc := 8) g dX10_hasTracks_8 ?_
  refine x_nm (fun v1 => ?_)
  refine x_istore (pc := 9) (lv' := [(5, .int v1), (0, .ref (al 103)), (1, .int a0), (2, .int a1), (3, .int a2), (4, .int a3)]) g (by decide) rfl dX10_hasTracks_9 ?_
  refine x_iconst (pc := 11) (v := (0 : Int32)) g (by decide) dX10_hasTracks_11 ?_
  refine x_istore (pc := 12) (lv' := [(6, .int (0 : Int32)), (5, .int v1), (0, .ref (al 103)), (1, .int a0), (2, .int a1), (3, .int a2), (4, .int a3)]) g (by decide) rfl dX10_hasTracks_12 ?_
  refine x_lv [2, 3, 4, 5, 6, 1, 0] rfl ?_
  refine lpx1_ind (fun (x1 : Int32) (σ1 : Sx) (K : Option (Int32 × Sx)) => XTx p l e { frames := 0, cells := 0, slots := 0, locals := 0 } s m args below meth c D al cA ba 7 (MQx rvI D al cA ba below args s) 0 0 14 [(0, .ref (al 103)), (1, .int a0), (2, .int a1), (3, .int a2), (4, .int a3), (5, .int v1), (6, .int x1)] [] σ1 (K)) (fun _ _ => x_no) (fun r14 hr14 x1 σ1 => ?_) N (0 : Int32) σ0
  show XTx p l e { frames := 0, cells := 0, slots := 0, locals := 0 } s m args below meth c D al cA ba 7 (MQx rvI D al cA ba below args s) 0 0 14 [(0, .ref (al 103)), (1, .int a0), (2, .int a1), (3, .int a2), (4, .int a3), (5, .int v1), (6, .int x1)] [] σ1 (B_X10_hasTracks_L14 N a0 a1 a2 a3 v1 r14 x1 σ1)
  unfold B_X10_hasTracks_L14
  refine x_iload (pc := 14) g 6 rfl dX10_hasTracks_14 ?_
  refine x_aload_n (pc := 16) g rfl 0 rfl dX10_hasTracks_16 ?_
  refine x_getR (pc := 17) g sh_103 fl_X10_22 rfl dX10_hasTracks_17 ?_
  refine x_iconst (pc := 20) (v := (4 : Int32)) g (by decide) dX10_hasTracks_20 ?_
  refine x_iload_n (pc := 21) g rfl 1 rfl dX10_hasTracks_21 ?_
  refine x_imul (pc := 22) g dX10_hasTracks_22 ?_
  refine x_iload_n (pc := 23) g rfl 2 rfl dX10_hasTracks_23 ?_
  refine x_iadd (pc := 24) g dX10_hasTracks_24 ?_
  refine x_iald (pc := 25) g sh_108 (by decide) dX10_hasTracks_25 (fun v2 => ?_)
  refine x_icmp_ge (pc := 26) (tgt := 88) g (by decide) dX10_hasTracks_26 ?_ ?_
  · refine x_iconst (pc := 88) (v := (0 : Int32)) g (by decide) dX10_hasTracks_88 ?_
    exact x_zreturn (pc := 89) g hrt (by decide) dX10_hasTracks_89
  · refine x_aload_n (pc := 29) g rfl 0 rfl dX10_hasTracks_29 ?_
    refine x_getR (pc := 30) g sh_103 fl_X10_25 rfl dX10_hasTracks_30 ?_
    refine x_iload (pc := 33) g 5 rfl dX10_hasTracks_33 ?_
    refine x_iload (pc := 35) g 6 rfl dX10_hasTracks_35 ?_
    refine x_iadd (pc := 37) g dX10_hasTracks_37 ?_
    refine x_iald (pc := 38) g sh_109 (by decide) dX10_hasTracks_38 (fun v3 => ?_)
    refine x_iload_n (pc := 39) g rfl 3 rfl dX10_hasTracks_39 ?_
    refine x_jn (fun (j82 : Sx → Option (Int32 × Sx)) => ∀ (σ2 : Sx), XTx p l e { frames := 0, cells := 0, slots := 0, locals := 0 } s m args below meth c D al cA ba 7 (MQx rvI D al cA ba below args s) 0 0 82 [(0, .ref (al 103)), (1, .int a0), (2, .int a1), (3, .int a2), (4, .int a3), (5, .int v1), (6, .int x1)] [] σ2 (j82 σ2)) (fun σ2 => ?_) (fun j82 hj82 => ?_)
    · refine x_iinc (pc := 82) (v := (x1 + (1 : Int32))) (lv' := [(6, .int (x1 + (1 : Int32))), (0, .ref (al 103)), (1, .int a0), (2, .int a1), (3, .int a2), (4, .int a3), (5, .int v1)]) g 6 rfl (by rfl) (by decide) rfl dX10_hasTracks_82 ?_
      refine x_goto (pc := 85) (tgt := 14) g (by decide) dX10_hasTracks_85 ?_
      refine x_lv [1, 2, 3, 4, 5, 6, 0] rfl ?_
      exact hr14 (x1 + (1 : Int32)) σ2
    · refine x_icmp_ne (pc := 40) (tgt := 82) g (by decide) dX10_hasTracks_40 ?_ ?_
      · exact hj82 σ1
      · refine x_aload_n (pc := 43) g rfl 0 rfl dX10_hasTracks_43 ?_
        refine x_getR (pc := 44) g sh_103 fl_X10_69 rfl dX10_hasTracks_44 ?_
        refine x_iload (pc := 47) g 5 rfl dX10_hasTracks_47 ?_
        refine x_iload (pc := 49) g 6 rfl dX10_hasTracks_49 ?_
        refine x_iadd (pc := 51) g dX10_hasTracks_51 ?_
        refine x_iald (pc := 52) g sh_123 (by decide) dX10_hasTracks_52 (fun v4 => ?_)
        refine x_iload (pc := 53) g 4 rfl dX10_hasTracks_53 ?_
        refine x_icmp_le (pc := 55) (tgt := 82) g (by decide) dX10_hasTracks_55 ?_ ?_
        · exact hj82 σ1
        · refine x_aload_n (pc := 58) g rfl 0 rfl dX10_hasTracks_58 ?_
          refine x_getR (pc := 59) g sh_103 fl_X10_69 rfl dX10_hasTracks_59 ?_
          refine x_iload (pc := 62) g 5 rfl dX10_hasTracks_62 ?_
          refine x_iload (pc := 64) g 6 rfl dX10_hasTracks_64 ?_
          refine x_iadd (pc := 66) g dX10_hasTracks_66 ?_
          refine x_iald (pc := 67) g sh_123 (by decide) dX10_hasTracks_67 (fun v5 => ?_)
          refine x_iload (pc := 68) g 4 rfl dX10_hasTracks_68 ?_
          refine x_aload_n (pc := 70) g rfl 0 rfl dX10_hasTracks_70 ?_
          refine x_getR (pc := 71) g sh_103 fl_X10_7 rfl dX10_hasTracks_71 ?_
          refine x_iload_n (pc := 74) g rfl 1 rfl dX10_hasTracks_74 ?_
          refine x_iald (pc := 75) g sh_104 (by decide) dX10_hasTracks_75 (fun v6 => ?_)
          refine x_iadd (pc := 76) g dX10_hasTracks_76 ?_
          refine x_icmp_gt (pc := 77) (tgt := 82) g (by decide) dX10_hasTracks_77 ?_ ?_
          · exact hj82 σ1
          · refine x_iconst (pc := 80) (v := (1 : Int32)) g (by decide) dX10_hasTracks_80 ?_
            exact x_zreturn (pc := 81) g hrt (by decide) dX10_hasTracks_81
def B_X10_placeIn_L14 (N : Nat) (a0 : Int32) (a1 : Int32) (a2 : Int32) (v1 : Int32) (j43 : Int32 → Sx → Option (Int32 × Sx)) (r14 : Int32 → Sx → Option (Int32 × Sx)) (x2 : Int32) (σ2 : Sx) : Option (Int32 × Sx) := aIx 108 20 (((4 : Int32) * a0) + a1) σ2 (fun v3 => (if v3 ≤ x2 then some ((-2 : Int32), σ2) else aIx 123 160 (v1 + x2) σ2 (fun v4 => (if v4 = a2 then j43 x2 σ2 else r14 (x2 + (1 : Int32)) σ2))))
def F_X10_placeIn (N : Nat) (a0 : Int32) (a1 : Int32) (a2 : Int32) (σ0 : Sx) : Option (Int32 × Sx) := nmx ((((32 : Int32) * a0) + ((8 : Int32) * a1))) (fun v1 => nmx (fun (x1 : Int32) (σ1 : Sx) => aIx 109 160 (v1 + x1) σ1 (fun v2 => some (v2, σ1))) (fun (j43 : Int32 → Sx → Option (Int32 × Sx)) => lpx1 (B_X10_placeIn_L14 N a0 a1 a2 v1 j43) N (0 : Int32) σ0))
set_option maxRecDepth 100000 in
set_option maxHeartbeats 4000000 in
theorem mc_X10_placeIn {D : va_G} {al : Nat → Nat} {cA : Nat → ClassId} {ba : Nat} (N : Nat) (a0 : Int32) (a1 : Int32) (a2 : Int32) : MCx D al cA ba yX10_placeIn cX10_placeIn 6 (some .int) 0 0 rvI [.ref (al 103), .int a0, .int a1, .int a2] (F_X10_placeIn N a0 a1 a2) := by
  refine MCx_of (by decide +kernel) (Nat.le_of_ble_eq_true rfl) ?_
  intro p l e s m args below meth c σ0 g hrt
  unfold F_X10_placeIn
  refine x_lv (lv' := [(0, .ref (al 103)), (1, .int a0), (2, .int a1), (3, .int a2)]) [0, 1, 2, 3] rfl ?_
  refine x_bipush (pc := 0) (v := (32 : Int32)) g (by decide) dX10_placeIn_0 ?_
  refine x_iload_n (pc := 2) g rfl 1 rfl dX10_placeIn_2 ?_
  refine x_imul (pc := 3) g dX10_placeIn_3 ?_
  refine x_bipush (pc := 4) (v := (8 : Int32)) g (by decide) dX10_placeIn_4 ?_
  refine x_iload_n (pc := 6) g rfl 2 rfl dX10_placeIn_6 ?_
  refine x_imul (pc := 7) g dX10_placeIn_7 ?_
  refine x_iadd (pc := 8) g dX10_placeIn_8 ?_
  refine x_nm (fun v1 => ?_)
  refine x_istore (pc := 9) (lv' := [(4, .int v1), (0, .ref (al 103)), (1, .int a0), (2, .int a1), (3, .int a2)]) g (by decide) rfl dX10_placeIn_9 ?_
  refine x_iconst (pc := 11) (v := (0 : Int32)) g (by decide) dX10_placeIn_11 ?_
  refine x_istore (pc := 12) (lv' := [(5, .int (0 : Int32)), (4, .int v1), (0, .ref (al 103)), (1, .int a0), (2, .int a1), (3, .int a2)]) g (by decide) rfl dX10_placeIn_12 ?_
  refine x_jn (fun (j43 : Int32 → Sx → Option (Int32 × Sx)) => ∀ (x1 : Int32) (σ1 : Sx), XTx p l e { frames := 0, cells := 0, slots := 0, locals := 0 } s m args below meth c D al cA ba 6 (MQx rvI D al cA ba below args s) 0 0 43 [(0, .ref (al 103)), (4, .int v1), (5, .int x1)] [] σ1 (j43 x1 σ1)) (fun x1 σ1 => ?_) (fun j43 hj43 => ?_)
  · refine x_aload_n (pc := 43) g rfl 0 rfl dX10_placeIn_43 ?_
    refine x_getR (pc := 44) g sh_103 fl_X10_25 rfl dX10_placeIn_44 ?_
    refine x_iload (pc := 47) g 1 rfl dX10_placeIn_47 ?_
    refine x_iload (pc := 49) g 2 rfl dX10_placeIn_49 ?_
    refine x_iadd (pc := 51) g dX10_placeIn_51 ?_
    refine x_iald (pc := 52) g sh_109 (by decide) dX10_placeIn_52 (fun v2 => ?_)
    exact x_ireturn (pc := 53) g hrt dX10_placeIn_53
  · refine x_lv [2, 3, 4, 5, 1, 0] rfl ?_
    refine lpx1_ind (fun (x2 : Int32) (σ2 : Sx) (K : Option (Int32 × Sx)) => XTx p l e { frames := 0, cells := 0, slots := 0, locals := 0 } s m args below meth c D al cA ba 6 (MQx rvI D al cA ba below args s) 0 0 14 [(0, .ref (al 103)), (1, .int a0), (2, .int a1), (3, .int a2), (4, .int v1), (5, .int x2)] [] σ2 (K)) (fun _ _ => x_no) (fun r14 hr14 x2 σ2 => ?_) N (0 : Int32) σ0
    show XTx p l e { frames := 0, cells := 0, slots := 0, locals := 0 } s m args below meth c D al cA ba 6 (MQx rvI D al cA ba below args s) 0 0 14 [(0, .ref (al 103)), (1, .int a0), (2, .int a1), (3, .int a2), (4, .int v1), (5, .int x2)] [] σ2 (B_X10_placeIn_L14 N a0 a1 a2 v1 j43 r14 x2 σ2)
    unfold B_X10_placeIn_L14
    refine x_iload (pc := 14) g 5 rfl dX10_placeIn_14 ?_
    refine x_aload_n (pc := 16) g rfl 0 rfl dX10_placeIn_16 ?_
    refine x_getR (pc := 17) g sh_103 fl_X10_22 rfl dX10_placeIn_17 ?_
    refine x_iconst (pc := 20) (v := (4 : Int32)) g (by decide) dX10_placeIn_20 ?_
    refine x_iload_n (pc := 21) g rfl 1 rfl dX10_placeIn_21 ?_
    refine x_imul (pc := 22) g dX10_placeIn_22 ?_
    refine x_iload_n (pc := 23) g rfl 2 rfl dX10_placeIn_23 ?_
    refine x_iadd (pc := 24) g dX10_placeIn_24 ?_
    refine x_iald (pc := 25) g sh_108 (by decide) dX10_placeIn_25 (fun v3 => ?_)
    refine x_icmp_ge (pc := 26) (tgt := 60) g (by decide) dX10_placeIn_26 ?_ ?_
    · refine x_bipush (pc := 60) (v := (-2 : Int32)) g (by decide) dX10_placeIn_60 ?_
      exact x_ireturn (pc := 62) g hrt dX10_placeIn_62
    · refine x_aload_n (pc := 29) g rfl 0 rfl dX10_placeIn_29 ?_
      refine x_getR (pc := 30) g sh_103 fl_X10_69 rfl dX10_placeIn_30 ?_
      refine x_iload (pc := 33) g 4 rfl dX10_placeIn_33 ?_
      refine x_iload (pc := 35) g 5 rfl dX10_placeIn_35 ?_
      refine x_iadd (pc := 37) g dX10_placeIn_37 ?_
      refine x_iald (pc := 38) g sh_123 (by decide) dX10_placeIn_38 (fun v4 => ?_)
      refine x_iload_n (pc := 39) g rfl 3 rfl dX10_placeIn_39 ?_
      refine x_icmp_ne (pc := 40) (tgt := 54) g (by decide) dX10_placeIn_40 ?_ ?_
      · refine x_iinc (pc := 54) (v := (x2 + (1 : Int32))) (lv' := [(5, .int (x2 + (1 : Int32))), (0, .ref (al 103)), (1, .int a0), (2, .int a1), (3, .int a2), (4, .int v1)]) g 5 rfl (by rfl) (by decide) rfl dX10_placeIn_54 ?_
        refine x_goto (pc := 57) (tgt := 14) g (by decide) dX10_placeIn_57 ?_
        refine x_lv [1, 2, 3, 4, 5, 0] rfl ?_
        exact hr14 (x2 + (1 : Int32)) σ2
      · refine x_lv [0, 4, 5] rfl ?_
        exact hj43 x2 σ2
def F_X10_wayIn (a0 : Int32) (a1 : Int32) (σ0 : Sx) : Option (Int32 × Sx) := some (((jshr a0 ((2 : Int32) * a1)) &&& (3 : Int32)), σ0)
set_option maxRecDepth 100000 in
set_option maxHeartbeats 4000000 in
theorem mc_X10_wayIn {D : va_G} {al : Nat → Nat} {cA : Nat → ClassId} {ba : Nat} (a0 : Int32) (a1 : Int32) : MCx D al cA ba yX10_wayIn cX10_wayIn 2 (some .int) 0 0 rvI [.int a0, .int a1] (F_X10_wayIn a0 a1) := by
  refine MCx_of (by decide +kernel) (Nat.le_of_ble_eq_true rfl) ?_
  intro p l e s m args below meth c σ0 g hrt
  unfold F_X10_wayIn
  refine x_lv (lv' := [(0, .int a0), (1, .int a1)]) [0, 1] rfl ?_
  refine x_iload_n (pc := 0) g rfl 0 rfl dX10_wayIn_0 ?_
  refine x_iconst (pc := 1) (v := (2 : Int32)) g (by decide) dX10_wayIn_1 ?_
  refine x_iload_n (pc := 2) g rfl 1 rfl dX10_wayIn_2 ?_
  refine x_imul (pc := 3) g dX10_wayIn_3 ?_
  refine x_ishr (pc := 4) g dX10_wayIn_4 ?_
  refine x_iconst (pc := 5) (v := (3 : Int32)) g (by decide) dX10_wayIn_5 ?_
  refine x_iand (pc := 6) g dX10_wayIn_6 ?_
  exact x_ireturn (pc := 7) g hrt dX10_wayIn_7
def B_X10_isDay_L15 (N : Nat) (a0 : Int32) (r15 : Int32 → Sx → Option (Int32 × Sx)) (x1 : Int32) (σ2 : Sx) : Option (Int32 × Sx) := (if (5 : Int32) ≤ x1 then some ((1 : Int32), σ2) else clx (F_X10_wayIn a0 x1 σ2) (fun v2 σ3 => nmx (fun (σ4 : Sx) => r15 (x1 + (1 : Int32)) σ4) (fun (j43 : Sx → Option (Int32 × Sx)) => (if v2 = 0 then j43 σ3 else clx (F_X10_wayIn a0 x1 σ3) (fun v3 σ5 => clx (F_X10_isWay x1 v3 σ5) (fun v4 σ6 => (if v4 = 0 then some ((0 : Int32), σ6) else j43 σ6)))))))
def F_X10_isDay (N : Nat) (a0 : Int32) (σ0 : Sx) : Option (Int32 × Sx) := clx (F_X10_in a0 (0 : Int32) (1023 : Int32) σ0) (fun v1 σ1 => (if v1 = 0 then some ((0 : Int32), σ1) else lpx1 (B_X10_isDay_L15 N a0) N (0 : Int32) σ1))
set_option maxRecDepth 100000 in
set_option maxHeartbeats 4000000 in
theorem mc_X10_isDay {D : va_G} {al : Nat → Nat} {cA : Nat → ClassId} {ba : Nat} (N : Nat) (a0 : Int32) : MCx D al cA ba yX10_isDay cX10_isDay 3 (some .boolean) 3 65 rvI [.ref (al 103), .int a0] (F_X10_isDay N a0) := by
  refine MCx_of (by decide +kernel) (Nat.le_of_ble_eq_true rfl) ?_
  intro p l e s m args below meth c σ0 g hrt
  unfold F_X10_isDay
  refine x_lv (lv' := [(0, .ref (al 103)), (1, .int a0)]) [0, 1] rfl ?_
  refine x_iload_n (pc := 0) g rfl 1 rfl dX10_isDay_0 ?_
  refine x_iconst (pc := 1) (v := (0 : Int32)) g (by decide) dX10_isDay_1 ?_
  refine x_sipush (pc := 2) (v := (1023 : Int32)) g (by decide) dX10_isDay_2 ?_
  refine x_callSI (pc := 5) (As := [.int a0, .int (0 : Int32), .int (1023 : Int32)]) g (mc_X10_in a0 (0 : Int32) (1023 : Int32)) cw_X10_in lk_X10_131 rfl ⟨Nat.le_of_ble_eq_true rfl, Nat.le_of_ble_eq_true rfl⟩ rfl (Nat.le_of_ble_eq_true rfl) dX10_isDay_5 (fun v1 σ1 => ?_)
  refine x_if_ne (pc := 8) (tgt := 13) g (by decide) dX10_isDay_8 ?_ ?_
  · refine x_iconst (pc := 13) (v := (0 : Int32)) g (by decide) dX10_isDay_13 ?_
    refine x_istore_n (pc := 14) (lv' := [(2, .int (0 : Int32)), (0, .ref (al 103)), (1, .int a0)]) g rfl (by decide) rfl dX10_isDay_14 ?_
    refine x_lv [1, 2, 0] rfl ?_
    refine lpx1_ind (fun (x1 : Int32) (σ2 : Sx) (K : Option (Int32 × Sx)) => XTx p l e { frames := 3, cells := 0, slots := 0, locals := 65 } s m args below meth c D al cA ba 3 (MQx rvI D al cA ba below args s) 0 0 15 [(0, .ref (al 103)), (1, .int a0), (2, .int x1)] [] σ2 (K)) (fun _ _ => x_no) (fun r15 hr15 x1 σ2 => ?_) N (0 : Int32) σ1
    show XTx p l e { frames := 3, cells := 0, slots := 0, locals := 65 } s m args below meth c D al cA ba 3 (MQx rvI D al cA ba below args s) 0 0 15 [(0, .ref (al 103)), (1, .int a0), (2, .int x1)] [] σ2 (B_X10_isDay_L15 N a0 r15 x1 σ2)
    unfold B_X10_isDay_L15
    refine x_iload_n (pc := 15) g rfl 2 rfl dX10_isDay_15 ?_
    refine x_iconst (pc := 16) (v := (5 : Int32)) g (by decide) dX10_isDay_16 ?_
    refine x_icmp_ge (pc := 17) (tgt := 49) g (by decide) dX10_isDay_17 ?_ ?_
    · refine x_iconst (pc := 49) (v := (1 : Int32)) g (by decide) dX10_isDay_49 ?_
      exact x_zreturn (pc := 50) g hrt (by decide) dX10_isDay_50
    · refine x_iload_n (pc := 20) g rfl 1 rfl dX10_isDay_20 ?_
      refine x_iload_n (pc := 21) g rfl 2 rfl dX10_isDay_21 ?_
      refine x_callSI (pc := 22) (As := [.int a0, .int x1]) g (mc_X10_wayIn a0 x1) cw_X10_wayIn lk_X10_259 rfl ⟨Nat.le_of_ble_eq_true rfl, Nat.le_of_ble_eq_true rfl⟩ rfl (Nat.le_of_ble_eq_true rfl) dX10_isDay_22 (fun v2 σ3 => ?_)
      refine x_jn (fun (j43 : Sx → Option (Int32 × Sx)) => ∀ (σ4 : Sx), XTx p l e { frames := 3, cells := 0, slots := 0, locals := 65 } s m args below meth c D al cA ba 3 (MQx rvI D al cA ba below args s) 0 0 43 [(0, .ref (al 103)), (1, .int a0), (2, .int x1)] [] σ4 (j43 σ4)) (fun σ4 => ?_) (fun j43 hj43 => ?_)
      · refine x_iinc (pc := 43) (v := (x1 + (1 : Int32))) (lv' := [(2, .int (x1 + (1 : Int32))), (0, .ref (al 103)), (1, .int a0)]) g 2 rfl (by rfl) (by decide) rfl dX10_isDay_43 ?_
        refine x_goto (pc := 46) (tgt := 15) g (by decide) dX10_isDay_46 ?_
        refine x_lv [1, 2, 0] rfl ?_
        exact hr15 (x1 + (1 : Int32)) σ4
      · refine x_if_eq (pc := 25) (tgt := 43) g (by decide) dX10_isDay_25 ?_ ?_
        · exact hj43 σ3
        · refine x_aload_n (pc := 28) g rfl 0 rfl dX10_isDay_28 ?_
          refine x_iload_n (pc := 29) g rfl 2 rfl dX10_isDay_29 ?_
          refine x_iload_n (pc := 30) g rfl 1 rfl dX10_isDay_30 ?_
          refine x_iload_n (pc := 31) g rfl 2 rfl dX10_isDay_31 ?_
          refine x_callSI (pc := 32) (As := [.int a0, .int x1]) g (mc_X10_wayIn a0 x1) cw_X10_wayIn lk_X10_259 rfl ⟨Nat.le_of_ble_eq_true rfl, Nat.le_of_ble_eq_true rfl⟩ rfl (Nat.le_of_ble_eq_true rfl) dX10_isDay_32 (fun v3 σ5 => ?_)
          refine x_callVI (pc := 35) (As := [.int x1, .int v3]) g sh_103 (mc_X10_isWay x1 v3) cw_X10_isWay lk_X10_186 rfl ⟨Nat.le_of_ble_eq_true rfl, Nat.le_of_ble_eq_true rfl⟩ rfl (Nat.le_of_ble_eq_true rfl) dX10_isDay_35 (fun v4 σ6 => ?_)
          refine x_if_ne (pc := 38) (tgt := 43) g (by decide) dX10_isDay_38 ?_ ?_
          · exact hj43 σ6
          · refine x_iconst (pc := 41) (v := (0 : Int32)) g (by decide) dX10_isDay_41 ?_
            exact x_zreturn (pc := 42) g hrt (by decide) dX10_isDay_42
  · refine x_iconst (pc := 11) (v := (0 : Int32)) g (by decide) dX10_isDay_11 ?_
    exact x_zreturn (pc := 12) g hrt (by decide) dX10_isDay_12
def F_X10_remainder (a0 : Int32) (a1 : Int32) (σ0 : Sx) : Option (Int32 × Sx) := gdx (¬ a1 = 0) (nmx ((jrem a0 a1)) (fun v1 => (if 0 ≤ v1 then some (v1, σ0) else some ((v1 + a1), σ0))))
set_option maxRecDepth 100000 in
set_option maxHeartbeats 4000000 in
theorem mc_X10_remainder {D : va_G} {al : Nat → Nat} {cA : Nat → ClassId} {ba : Nat} (a0 : Int32) (a1 : Int32) : MCx D al cA ba yX10_remainder cX10_remainder 4 (some .int) 0 0 rvI [.ref (al 103), .int a0, .int a1] (F_X10_remainder a0 a1) := by
  refine MCx_of (by decide +kernel) (Nat.le_of_ble_eq_true rfl) ?_
  intro p l e s m args below meth c σ0 g hrt
  unfold F_X10_remainder
  refine x_lv (lv' := [(0, .ref (al 103)), (1, .int a0), (2, .int a1)]) [0, 1, 2] rfl ?_
  refine x_iload_n (pc := 0) g rfl 1 rfl dX10_remainder_0 ?_
  refine x_iload_n (pc := 1) g rfl 2 rfl dX10_remainder_1 ?_
  refine x_gd (fun hd1 => ?_)
  refine x_irem (pc := 2) g hd1 dX10_remainder_2 ?_
  refine x_nm (fun v1 => ?_)
  refine x_istore_n (pc := 3) (lv' := [(3, .int v1), (0, .ref (al 103)), (1, .int a0), (2, .int a1)]) g rfl (by decide) rfl dX10_remainder_3 ?_
  refine x_iload_n (pc := 4) g rfl 0 rfl dX10_remainder_4 ?_
  refine x_if_ge (pc := 5) (tgt := 14) g (by decide) dX10_remainder_5 ?_ ?_
  · refine x_iload_n (pc := 14) g rfl 0 rfl dX10_remainder_14 ?_
    exact x_ireturn (pc := 15) g hrt dX10_remainder_15
  · refine x_iload_n (pc := 8) g rfl 0 rfl dX10_remainder_8 ?_
    refine x_iload_n (pc := 9) g rfl 3 rfl dX10_remainder_9 ?_
    refine x_iadd (pc := 10) g dX10_remainder_10 ?_
    refine x_goto (pc := 11) (tgt := 15) g (by decide) dX10_remainder_11 ?_
    exact x_ireturn (pc := 15) g hrt dX10_remainder_15
def F_X10_lawTakes (N : Nat) (a0 : Int32) (a1 : Int32) (σ0 : Sx) : Option (Int32 × Sx) := clx (F_X10_bitsOf N a1 σ0) (fun v1 σ1 => nmx (fun (x1 : Int32) (σ2 : Sx) => aIx 107 5 a0 σ2 (fun v2 => clx (F_X10_remainder x1 v2 σ2) (fun v3 σ3 => some (v3, σ3)))) (fun (j78 : Int32 → Sx → Option (Int32 × Sx)) => (if (siI σ1 103 28) = 0 then j78 v1 σ1 else clx (F_X10_bitsOf N a1 σ1) (fun v4 σ4 => sIx 121 6 (0 : Int32) v4 σ4 (fun σ5 => sIx 121 6 (1 : Int32) a1 σ5 (fun σ6 => sIx 121 6 (2 : Int32) a0 σ6 (fun σ7 => aIx 104 5 a0 σ7 (fun v5 => sIx 121 6 (3 : Int32) v5 σ7 (fun σ8 => aIx 107 5 a0 σ8 (fun v6 => sIx 121 6 (4 : Int32) v6 σ8 (fun σ9 => aIx 105 5 a0 σ9 (fun v7 => sIx 121 6 (5 : Int32) v7 σ9 (fun σ10 => clx (F_X10_gives N (0 : Int32) σ10) (fun v8 σ11 => j78 v8 σ11))))))))))))))
set_option maxRecDepth 100000 in
set_option maxHeartbeats 4000000 in
theorem mc_X10_lawTakes {D : va_G} {al : Nat → Nat} {cA : Nat → ClassId} {ba : Nat} (N : Nat) (a0 : Int32) (a1 : Int32) : MCx D al cA ba yX10_lawTakes cX10_lawTakes 4 (some .int) 3 71 rvI [.ref (al 103), .int a0, .int a1] (F_X10_lawTakes N a0 a1) := by
  refine MCx_of (by decide +kernel) (Nat.le_of_ble_eq_true rfl) ?_
  intro p l e s m args below meth c σ0 g hrt
  unfold F_X10_lawTakes
  refine x_lv (lv' := [(0, .ref (al 103)), (1, .int a0), (2, .int a1)]) [0, 1, 2] rfl ?_
  refine x_iload_n (pc := 0) g rfl 2 rfl dX10_lawTakes_0 ?_
  refine x_callSI (pc := 1) (As := [.int a1]) g (mc_X10_bitsOf N a1) cw_X10_bitsOf lk_X10_262 rfl ⟨Nat.le_of_ble_eq_true rfl, Nat.le_of_ble_eq_true rfl⟩ rfl (Nat.le_of_ble_eq_true rfl) dX10_lawTakes_1 (fun v1 σ1 => ?_)
  refine x_istore_n (pc := 4) (lv' := [(3, .int v1), (0, .ref (al 103)), (1, .int a0), (2, .int a1)]) g rfl (by decide) rfl dX10_lawTakes_4 ?_
  refine x_aload_n (pc := 5) g rfl 1 rfl dX10_lawTakes_5 ?_
  refine x_getI (pc := 6) g sh_103 fl_X10_255 rfl dX10_lawTakes_6 ?_
  refine x_jn (fun (j78 : Int32 → Sx → Option (Int32 × Sx)) => ∀ (x1 : Int32) (σ2 : Sx), XTx p l e { frames := 3, cells := 0, slots := 0, locals := 71 } s m args below meth c D al cA ba 4 (MQx rvI D al cA ba below args s) 0 0 78 [(0, .ref (al 103)), (1, .int a0), (3, .int x1)] [] σ2 (j78 x1 σ2)) (fun x1 σ2 => ?_) (fun j78 hj78 => ?_)
  · refine x_aload_n (pc := 78) g rfl 0 rfl dX10_lawTakes_78 ?_
    refine x_iload_n (pc := 79) g rfl 2 rfl dX10_lawTakes_79 ?_
    refine x_aload_n (pc := 80) g rfl 0 rfl dX10_lawTakes_80 ?_
    refine x_getR (pc := 81) g sh_103 fl_X10_19 rfl dX10_lawTakes_81 ?_
    refine x_iload_n (pc := 84) g rfl 1 rfl dX10_lawTakes_84 ?_
    refine x_iald (pc := 85) g sh_107 (by decide) dX10_lawTakes_85 (fun v2 => ?_)
    refine x_callVI (pc := 86) (As := [.int x1, .int v2]) g sh_103 (mc_X10_remainder x1 v2) cw_X10_remainder lk_X10_268 rfl ⟨Nat.le_of_ble_eq_true rfl, Nat.le_of_ble_eq_true rfl⟩ rfl (Nat.le_of_ble_eq_true rfl) dX10_lawTakes_86 (fun v3 σ3 => ?_)
    exact x_ireturn (pc := 89) g hrt dX10_lawTakes_89
  · refine x_if_eq (pc := 9) (tgt := 78) g (by decide) dX10_lawTakes_9 ?_ ?_
    · refine x_lv [1, 2, 0] rfl ?_
      exact hj78 v1 σ1
    · refine x_aload_n (pc := 12) g rfl 1 rfl dX10_lawTakes_12 ?_
      refine x_getR (pc := 13) g sh_103 fl_X10_63 rfl dX10_lawTakes_13 ?_
      refine x_iconst (pc := 16) (v := (0 : Int32)) g (by decide) dX10_lawTakes_16 ?_
      refine x_iload_n (pc := 17) g rfl 3 rfl dX10_lawTakes_17 ?_
      refine x_callSI (pc := 18) (As := [.int a1]) g (mc_X10_bitsOf N a1) cw_X10_bitsOf lk_X10_262 rfl ⟨Nat.le_of_ble_eq_true rfl, Nat.le_of_ble_eq_true rfl⟩ rfl (Nat.le_of_ble_eq_true rfl) dX10_lawTakes_18 (fun v4 σ4 => ?_)
      refine x_iast (pc := 21) g sh_121 (by decide) dX10_lawTakes_21 (fun σ5 => ?_)
      refine x_aload_n (pc := 22) g rfl 1 rfl dX10_lawTakes_22 ?_
      refine x_getR (pc := 23) g sh_103 fl_X10_63 rfl dX10_lawTakes_23 ?_
      refine x_iconst (pc := 26) (v := (1 : Int32)) g (by decide) dX10_lawTakes_26 ?_
      refine x_iload_n (pc := 27) g rfl 3 rfl dX10_lawTakes_27 ?_
      refine x_iast (pc := 28) g sh_121 (by decide) dX10_lawTakes_28 (fun σ6 => ?_)
      refine x_aload_n (pc := 29) g rfl 1 rfl dX10_lawTakes_29 ?_
      refine x_getR (pc := 30) g sh_103 fl_X10_63 rfl dX10_lawTakes_30 ?_
      refine x_iconst (pc := 33) (v := (2 : Int32)) g (by decide) dX10_lawTakes_33 ?_
      refine x_iload_n (pc := 34) g rfl 2 rfl dX10_lawTakes_34 ?_
      refine x_iast (pc := 35) g sh_121 (by decide) dX10_lawTakes_35 (fun σ7 => ?_)
      refine x_aload_n (pc := 36) g rfl 1 rfl dX10_lawTakes_36 ?_
      refine x_getR (pc := 37) g sh_103 fl_X10_63 rfl dX10_lawTakes_37 ?_
      refine x_iconst (pc := 40) (v := (3 : Int32)) g (by decide) dX10_lawTakes_40 ?_
      refine x_aload_n (pc := 41) g rfl 1 rfl dX10_lawTakes_41 ?_
      refine x_getR (pc := 42) g sh_103 fl_X10_7 rfl dX10_lawTakes_42 ?_
      refine x_iload_n (pc := 45) g rfl 2 rfl dX10_lawTakes_45 ?_
      refine x_iald (pc := 46) g sh_104 (by decide) dX10_lawTakes_46 (fun v5 => ?_)
      refine x_iast (pc := 47) g sh_121 (by decide) dX10_lawTakes_47 (fun σ8 => ?_)
      refine x_aload_n (pc := 48) g rfl 1 rfl dX10_lawTakes_48 ?_
      refine x_getR (pc := 49) g sh_103 fl_X10_63 rfl dX10_lawTakes_49 ?_
      refine x_iconst (pc := 52) (v := (4 : Int32)) g (by decide) dX10_lawTakes_52 ?_
      refine x_aload_n (pc := 53) g rfl 1 rfl dX10_lawTakes_53 ?_
      refine x_getR (pc := 54) g sh_103 fl_X10_19 rfl dX10_lawTakes_54 ?_
      refine x_iload_n (pc := 57) g rfl 2 rfl dX10_lawTakes_57 ?_
      refine x_iald (pc := 58) g sh_107 (by decide) dX10_lawTakes_58 (fun v6 => ?_)
      refine x_iast (pc := 59) g sh_121 (by decide) dX10_lawTakes_59 (fun σ9 => ?_)
      refine x_aload_n (pc := 60) g rfl 1 rfl dX10_lawTakes_60 ?_
      refine x_getR (pc := 61) g sh_103 fl_X10_63 rfl dX10_lawTakes_61 ?_
      refine x_iconst (pc := 64) (v := (5 : Int32)) g (by decide) dX10_lawTakes_64 ?_
      refine x_aload_n (pc := 65) g rfl 1 rfl dX10_lawTakes_65 ?_
      refine x_getR (pc := 66) g sh_103 fl_X10_13 rfl dX10_lawTakes_66 ?_
      refine x_iload_n (pc := 69) g rfl 2 rfl dX10_lawTakes_69 ?_
      refine x_iald (pc := 70) g sh_105 (by decide) dX10_lawTakes_70 (fun v7 => ?_)
      refine x_iast (pc := 71) g sh_121 (by decide) dX10_lawTakes_71 (fun σ10 => ?_)
      refine x_aload_n (pc := 72) g rfl 1 rfl dX10_lawTakes_72 ?_
      refine x_iconst (pc := 73) (v := (0 : Int32)) g (by decide) dX10_lawTakes_73 ?_
      refine x_callVI (pc := 74) (As := [.int (0 : Int32)]) g sh_103 (mc_X10_gives N (0 : Int32)) cw_X10_gives lk_X10_265 rfl ⟨Nat.le_of_ble_eq_true rfl, Nat.le_of_ble_eq_true rfl⟩ rfl (Nat.le_of_ble_eq_true rfl) dX10_lawTakes_74 (fun v8 σ11 => ?_)
      refine x_istore_n (pc := 77) (lv' := [(3, .int v8), (0, .ref (al 103)), (1, .int a0), (2, .int a1)]) g rfl (by decide) rfl dX10_lawTakes_77 ?_
      refine x_lv [1, 2, 0] rfl ?_
      exact hj78 v8 σ11
def B_X10_findSights_L178 (N : Nat) (x1 : Int32) (j225 : Sx → Option (Unit × Sx)) (r178 : Int32 → Sx → Option (Unit × Sx)) (x2 : Int32) (σ6 : Sx) : Option (Unit × Sx) := (if (32 : Int32) ≤ x2 then j225 σ6 else nmx (fun (y2 : Int32) (σ7 : Sx) => sIx 125 160 (((32 : Int32) * x1) + x2) y2 σ7 (fun σ8 => r178 (x2 + (1 : Int32)) σ8)) (fun (j218 : Int32 → Sx → Option (Unit × Sx)) => (if (jshl (1 : Int32) (siI σ6 103 1)) ≤ x2 then j218 (0 : Int32) σ6 else clx (F_X10_lawTakes N x1 x2 σ6) (fun v3 σ9 => j218 v3 σ9))))
def B_X10_findSights_L76 (N : Nat) (x1 : Int32) (v1 : Int32) (v2 : Int32) (y1 : Int32) (x3 : Int32) (j169 : Sx → Option (Unit × Sx)) (r76 : Int32 → Sx → Option (Unit × Sx)) (x4 : Int32) (σ12 : Sx) : Option (Unit × Sx) := aIx 107 5 x3 σ12 (fun v4 => (if v4 ≤ x4 then j169 σ12 else clx (F_X10_hasTracks N x3 x4 v1 v2 σ12) (fun v5 σ13 => nmx (fun (y3 : Int32) (σ14 : Sx) => nmx (fun (y4 : Int32) (σ15 : Sx) => sIx 124 100 ((((20 : Int32) * x1) + ((4 : Int32) * x3)) + x4) y4 σ15 (fun σ16 => r76 (x4 + (1 : Int32)) σ16)) (fun (j162 : Int32 → Sx → Option (Unit × Sx)) => nmx (fun (σ17 : Sx) => j162 (0 : Int32) σ17) (fun (j161 : Sx → Option (Unit × Sx)) => (if y3 = 0 then j161 σ14 else (if y1 = 0 then (if x3 = x1 then j161 σ14 else j162 (1 : Int32) σ14) else j161 σ14))))) (fun (j123 : Int32 → Sx → Option (Unit × Sx)) => nmx (fun (σ18 : Sx) => j123 (1 : Int32) σ18) (fun (j118 : Sx → Option (Unit × Sx)) => (if v5 = 0 then nmx (fun (σ19 : Sx) => j123 (0 : Int32) σ19) (fun (j122 : Sx → Option (Unit × Sx)) => (if x3 = (siI σ13 103 32) then (if v1 = (siI σ13 103 33) then j118 σ13 else j122 σ13) else j122 σ13)) else j118 σ13))))))
def B_X10_findSights_L64 (N : Nat) (x1 : Int32) (v1 : Int32) (v2 : Int32) (y1 : Int32) (j175 : Sx → Option (Unit × Sx)) (r64 : Int32 → Sx → Option (Unit × Sx)) (x3 : Int32) (σ10 : Sx) : Option (Unit × Sx) := (if (siI σ10 103 1) ≤ x3 then j175 σ10 else nmx (fun (σ11 : Sx) => r64 (x3 + (1 : Int32)) σ11) (fun (j169 : Sx → Option (Unit × Sx)) => lpx1 (B_X10_findSights_L76 N x1 v1 v2 y1 x3 j169) N (0 : Int32) σ10))
def B_X10_findSights_L6 (N : Nat) (r6 : Int32 → Sx → Option (Unit × Sx)) (x1 : Int32) (σ2 : Sx) : Option (Unit × Sx) := (if (siI σ2 103 1) ≤ x1 then some ((), σ2) else aIx 109 160 ((32 : Int32) * x1) σ2 (fun v1 => aIx 105 5 x1 σ2 (fun v2 => nmx (fun (y1 : Int32) (σ3 : Sx) => nmx (fun (σ4 : Sx) => nmx (fun (σ5 : Sx) => r6 (x1 + (1 : Int32)) σ5) (fun (j225 : Sx → Option (Unit × Sx)) => lpx1 (B_X10_findSights_L178 N x1 j225) N (0 : Int32) σ4)) (fun (j175 : Sx → Option (Unit × Sx)) => lpx1 (B_X10_findSights_L64 N x1 v1 v2 y1 j175) N (0 : Int32) σ3)) (fun (j59 : Int32 → Sx → Option (Unit × Sx)) => nmx (fun (σ20 : Sx) => j59 (0 : Int32) σ20) (fun (j58 : Sx → Option (Unit × Sx)) => (if v1 = (siI σ2 103 34) then clx (F_X10_in v2 (siI σ2 103 35) (siI σ2 103 36) σ2) (fun v6 σ21 => (if v6 = 0 then j58 σ21 else j59 (1 : Int32) σ21)) else j58 σ2))))))
def F_X10_findSights (N : Nat) (σ0 : Sx) : Option (Unit × Sx) := clx (F_X10_findMinutes N  σ0) (fun _ σ1 => lpx1 (B_X10_findSights_L6 N) N (0 : Int32) σ1)
set_option maxRecDepth 100000 in
set_option maxHeartbeats 4000000 in
theorem mc_X10_findSights {D : va_G} {al : Nat → Nat} {cA : Nat → ClassId} {ba : Nat} (N : Nat)  : MCx D al cA ba yX10_findSights cX10_findSights 8 none 4 94 rvU [.ref (al 103)] (F_X10_findSights N) := by
  refine MCx_of (by decide +kernel) (Nat.le_of_ble_eq_true rfl) ?_
  intro p l e s m args below meth c σ0 g hrt
  unfold F_X10_findSights
  refine x_lv (lv' := [(0, .ref (al 103))]) [0] rfl ?_
  refine x_aload_n (pc := 0) g rfl 0 rfl dX10_findSights_0 ?_
  refine x_callVU (pc := 1) (As := []) g sh_103 (mc_X10_findMinutes N ) cw_X10_findMinutes lk_X10_271 rfl ⟨Nat.le_of_ble_eq_true rfl, Nat.le_of_ble_eq_true rfl⟩ rfl (Nat.le_of_ble_eq_true rfl) dX10_findSights_1 (fun _ σ1 => ?_)
  refine x_iconst (pc := 4) (v := (0 : Int32)) g (by decide) dX10_findSights_4 ?_
  refine x_istore_n (pc := 5) (lv' := [(1, .int (0 : Int32)), (0, .ref (al 103))]) g rfl (by decide) rfl dX10_findSights_5 ?_
  refine x_lv [1, 0] rfl ?_
  refine lpx1_ind (fun (x1 : Int32) (σ2 : Sx) (K : Option (Unit × Sx)) => XTx p l e { frames := 4, cells := 0, slots := 0, locals := 94 } s m args below meth c D al cA ba 8 (MQx rvU D al cA ba below args s) 0 0 6 [(0, .ref (al 103)), (1, .int x1)] [] σ2 (K)) (fun _ _ => x_no) (fun r6 hr6 x1 σ2 => ?_) N (0 : Int32) σ1
  show XTx p l e { frames := 4, cells := 0, slots := 0, locals := 94 } s m args below meth c D al cA ba 8 (MQx rvU D al cA ba below args s) 0 0 6 [(0, .ref (al 103)), (1, .int x1)] [] σ2 (B_X10_findSights_L6 N r6 x1 σ2)
  unfold B_X10_findSights_L6
  refine x_iload_n (pc := 6) g rfl 1 rfl dX10_findSights_6 ?_
  refine x_aload_n (pc := 7) g rfl 0 rfl dX10_findSights_7 ?_
  refine x_getI (pc := 8) g sh_103 fl_X10_128 rfl dX10_findSights_8 ?_
  refine x_icmp_ge (pc := 11) (tgt := 231) g (by decide) dX10_findSights_11 ?_ ?_
  · exact x_return (pc := 231) g hrt dX10_findSights_231
  · refine x_aload_n (pc := 14) g rfl 0 rfl dX10_findSights_14 ?_
    refine x_getR (pc := 15) g sh_103 fl_X10_25 rfl dX10_findSights_15 ?_
    refine x_bipush (pc := 18) (v := (32 : Int32)) g (by decide) dX10_findSights_18 ?_
    refine x_iload_n (pc := 20) g rfl 1 rfl dX10_findSights_20 ?_
    refine x_imul (pc := 21) g dX10_findSights_21 ?_
    refine x_iald (pc := 22) g sh_109 (by decide) dX10_findSights_22 (fun v1 => ?_)
    refine x_istore_n (pc := 23) (lv' := [(2, .int v1), (0, .ref (al 103)), (1, .int x1)]) g rfl (by decide) rfl dX10_findSights_23 ?_
    refine x_aload_n (pc := 24) g rfl 1 rfl dX10_findSights_24 ?_
    refine x_getR (pc := 25) g sh_103 fl_X10_13 rfl dX10_findSights_25 ?_
    refine x_iload_n (pc := 28) g rfl 2 rfl dX10_findSights_28 ?_
    refine x_iald (pc := 29) g sh_105 (by decide) dX10_findSights_29 (fun v2 => ?_)
    refine x_istore_n (pc := 30) (lv' := [(3, .int v2), (2, .int v1), (0, .ref (al 103)), (1, .int x1)]) g rfl (by decide) rfl dX10_findSights_30 ?_
    refine x_iload_n (pc := 31) g rfl 1 rfl dX10_findSights_31 ?_
    refine x_aload_n (pc := 32) g rfl 2 rfl dX10_findSights_32 ?_
    refine x_getI (pc := 33) g sh_103 fl_X10_82 rfl dX10_findSights_33 ?_
    refine x_jn (fun (j59 : Int32 → Sx → Option (Unit × Sx)) => ∀ (y1 : Int32) (σ3 : Sx), XTx p l e { frames := 4, cells := 0, slots := 0, locals := 94 } s m args below meth c D al cA ba 8 (MQx rvU D al cA ba below args s) 0 0 59 [(0, .ref (al 103)), (1, .int x1), (2, .int v1), (3, .int v2)] [.int y1] σ3 (j59 y1 σ3)) (fun y1 σ3 => ?_) (fun j59 hj59 => ?_)
    · refine x_istore (pc := 59) (lv' := [(4, .int y1), (0, .ref (al 103)), (1, .int x1), (2, .int v1), (3, .int v2)]) g (by decide) rfl dX10_findSights_59 ?_
      refine x_iconst (pc := 61) (v := (0 : Int32)) g (by decide) dX10_findSights_61 ?_
      refine x_istore (pc := 62) (lv' := [(5, .int (0 : Int32)), (4, .int y1), (0, .ref (al 103)), (1, .int x1), (2, .int v1), (3, .int v2)]) g (by decide) rfl dX10_findSights_62 ?_
      refine x_jn (fun (j175 : Sx → Option (Unit × Sx)) => ∀ (σ4 : Sx), XTx p l e { frames := 4, cells := 0, slots := 0, locals := 94 } s m args below meth c D al cA ba 8 (MQx rvU D al cA ba below args s) 0 0 175 [(0, .ref (al 103)), (1, .int x1)] [] σ4 (j175 σ4)) (fun σ4 => ?_) (fun j175 hj175 => ?_)
      · refine x_iconst (pc := 175) (v := (0 : Int32)) g (by decide) dX10_findSights_175 ?_
        refine x_istore (pc := 176) (lv' := [(5, .int (0 : Int32)), (0, .ref (al 103)), (1, .int x1)]) g (by decide) rfl dX10_findSights_176 ?_
        refine x_jn (fun (j225 : Sx → Option (Unit × Sx)) => ∀ (σ5 : Sx), XTx p l e { frames := 4, cells := 0, slots := 0, locals := 94 } s m args below meth c D al cA ba 8 (MQx rvU D al cA ba below args s) 0 0 225 [(0, .ref (al 103)), (1, .int x1)] [] σ5 (j225 σ5)) (fun σ5 => ?_) (fun j225 hj225 => ?_)
        · refine x_iinc (pc := 225) (v := (x1 + (1 : Int32))) (lv' := [(1, .int (x1 + (1 : Int32))), (0, .ref (al 103))]) g 1 rfl (by rfl) (by decide) rfl dX10_findSights_225 ?_
          refine x_goto (pc := 228) (tgt := 6) g (by decide) dX10_findSights_228 ?_
          refine x_lv [1, 0] rfl ?_
          exact hr6 (x1 + (1 : Int32)) σ5
        · refine x_lv [1, 2, 0] rfl ?_
          refine lpx1_ind (fun (x2 : Int32) (σ6 : Sx) (K : Option (Unit × Sx)) => XTx p l e { frames := 4, cells := 0, slots := 0, locals := 94 } s m args below meth c D al cA ba 8 (MQx rvU D al cA ba below args s) 0 0 178 [(0, .ref (al 103)), (1, .int x1), (5, .int x2)] [] σ6 (K)) (fun _ _ => x_no) (fun r178 hr178 x2 σ6 => ?_) N (0 : Int32) σ4
          show XTx p l e { frames := 4, cells := 0, slots := 0, locals := 94 } s m args below meth c D al cA ba 8 (MQx rvU D al cA ba below args s) 0 0 178 [(0, .ref (al 103)), (1, .int x1), (5, .int x2)] [] σ6 (B_X10_findSights_L178 N x1 j225 r178 x2 σ6)
          unfold B_X10_findSights_L178
          refine x_iload (pc := 178) g 2 rfl dX10_findSights_178 ?_
          refine x_bipush (pc := 180) (v := (32 : Int32)) g (by decide) dX10_findSights_180 ?_
          refine x_icmp_ge (pc := 182) (tgt := 225) g (by decide) dX10_findSights_182 ?_ ?_
          · refine x_lv [0, 1] rfl ?_
            exact hj225 σ6
          · refine x_aload_n (pc := 185) g rfl 0 rfl dX10_findSights_185 ?_
            refine x_getR (pc := 186) g sh_103 fl_X10_75 rfl dX10_findSights_186 ?_
            refine x_bipush (pc := 189) (v := (32 : Int32)) g (by decide) dX10_findSights_189 ?_
            refine x_iload_n (pc := 191) g rfl 1 rfl dX10_findSights_191 ?_
            refine x_imul (pc := 192) g dX10_findSights_192 ?_
            refine x_iload (pc := 193) g 2 rfl dX10_findSights_193 ?_
            refine x_iadd (pc := 195) g dX10_findSights_195 ?_
            refine x_iload (pc := 196) g 2 rfl dX10_findSights_196 ?_
            refine x_iconst (pc := 198) (v := (1 : Int32)) g (by decide) dX10_findSights_198 ?_
            refine x_aload_n (pc := 199) g rfl 0 rfl dX10_findSights_199 ?_
            refine x_getI (pc := 200) g sh_103 fl_X10_128 rfl dX10_findSights_200 ?_
            refine x_ishl (pc := 203) g dX10_findSights_203 ?_
            refine x_jn (fun (j218 : Int32 → Sx → Option (Unit × Sx)) => ∀ (y2 : Int32) (σ7 : Sx), XTx p l e { frames := 4, cells := 0, slots := 0, locals := 94 } s m args below meth c D al cA ba 8 (MQx rvU D al cA ba below args s) 0 0 218 [(0, .ref (al 103)), (1, .int x1), (5, .int x2)] [.int y2, .int (((32 : Int32) * x1) + x2), .ref (al 125)] σ7 (j218 y2 σ7)) (fun y2 σ7 => ?_) (fun j218 hj218 => ?_)
            · refine x_iast (pc := 218) g sh_125 (by decide) dX10_findSights_218 (fun σ8 => ?_)
              refine x_iinc (pc := 219) (v := (x2 + (1 : Int32))) (lv' := [(5, .int (x2 + (1 : Int32))), (0, .ref (al 103)), (1, .int x1)]) g 2 rfl (by rfl) (by decide) rfl dX10_findSights_219 ?_
              refine x_goto (pc := 222) (tgt := 178) g (by decide) dX10_findSights_222 ?_
              refine x_lv [1, 2, 0] rfl ?_
              exact hr178 (x2 + (1 : Int32)) σ8
            · refine x_icmp_ge (pc := 204) (tgt := 217) g (by decide) dX10_findSights_204 ?_ ?_
              · refine x_iconst (pc := 217) (v := (0 : Int32)) g (by decide) dX10_findSights_217 ?_
                exact hj218 (0 : Int32) σ6
              · refine x_aload_n (pc := 207) g rfl 0 rfl dX10_findSights_207 ?_
                refine x_iload_n (pc := 208) g rfl 1 rfl dX10_findSights_208 ?_
                refine x_iload (pc := 209) g 2 rfl dX10_findSights_209 ?_
                refine x_callVI (pc := 211) (As := [.int x1, .int x2]) g sh_103 (mc_X10_lawTakes N x1 x2) cw_X10_lawTakes lk_X10_287 rfl ⟨Nat.le_of_ble_eq_true rfl, Nat.le_of_ble_eq_true rfl⟩ rfl (Nat.le_of_ble_eq_true rfl) dX10_findSights_211 (fun v3 σ9 => ?_)
                refine x_goto (pc := 214) (tgt := 218) g (by decide) dX10_findSights_214 ?_
                exact hj218 v3 σ9
      · refine x_lv [2, 3, 4, 5, 1, 0] rfl ?_
        refine lpx1_ind (fun (x3 : Int32) (σ10 : Sx) (K : Option (Unit × Sx)) => XTx p l e { frames := 4, cells := 0, slots := 0, locals := 94 } s m args below meth c D al cA ba 8 (MQx rvU D al cA ba below args s) 0 0 64 [(0, .ref (al 103)), (1, .int x1), (2, .int v1), (3, .int v2), (4, .int y1), (5, .int x3)] [] σ10 (K)) (fun _ _ => x_no) (fun r64 hr64 x3 σ10 => ?_) N (0 : Int32) σ3
        show XTx p l e { frames := 4, cells := 0, slots := 0, locals := 94 } s m args below meth c D al cA ba 8 (MQx rvU D al cA ba below args s) 0 0 64 [(0, .ref (al 103)), (1, .int x1), (2, .int v1), (3, .int v2), (4, .int y1), (5, .int x3)] [] σ10 (B_X10_findSights_L64 N x1 v1 v2 y1 j175 r64 x3 σ10)
        unfold B_X10_findSights_L64
        refine x_iload (pc := 64) g 5 rfl dX10_findSights_64 ?_
        refine x_aload_n (pc := 66) g rfl 0 rfl dX10_findSights_66 ?_
        refine x_getI (pc := 67) g sh_103 fl_X10_128 rfl dX10_findSights_67 ?_
        refine x_icmp_ge (pc := 70) (tgt := 175) g (by decide) dX10_findSights_70 ?_ ?_
        · refine x_lv [0, 1] rfl ?_
          exact hj175 σ10
        · refine x_iconst (pc := 73) (v := (0 : Int32)) g (by decide) dX10_findSights_73 ?_
          refine x_istore (pc := 74) (lv' := [(6, .int (0 : Int32)), (0, .ref (al 103)), (1, .int x1), (2, .int v1), (3, .int v2), (4, .int y1), (5, .int x3)]) g (by decide) rfl dX10_findSights_74 ?_
          refine x_jn (fun (j169 : Sx → Option (Unit × Sx)) => ∀ (σ11 : Sx), XTx p l e { frames := 4, cells := 0, slots := 0, locals := 94 } s m args below meth c D al cA ba 8 (MQx rvU D al cA ba below args s) 0 0 169 [(0, .ref (al 103)), (1, .int x1), (2, .int v1), (3, .int v2), (4, .int y1), (5, .int x3)] [] σ11 (j169 σ11)) (fun σ11 => ?_) (fun j169 hj169 => ?_)
          · refine x_iinc (pc := 169) (v := (x3 + (1 : Int32))) (lv' := [(5, .int (x3 + (1 : Int32))), (0, .ref (al 103)), (1, .int x1), (2, .int v1), (3, .int v2), (4, .int y1)]) g 5 rfl (by rfl) (by decide) rfl dX10_findSights_169 ?_
            refine x_goto (pc := 172) (tgt := 64) g (by decide) dX10_findSights_172 ?_
            refine x_lv [1, 2, 3, 4, 5, 0] rfl ?_
            exact hr64 (x3 + (1 : Int32)) σ11
          · refine x_lv [1, 2, 3, 4, 5, 6, 0] rfl ?_
            refine lpx1_ind (fun (x4 : Int32) (σ12 : Sx) (K : Option (Unit × Sx)) => XTx p l e { frames := 4, cells := 0, slots := 0, locals := 94 } s m args below meth c D al cA ba 8 (MQx rvU D al cA ba below args s) 0 0 76 [(0, .ref (al 103)), (1, .int x1), (2, .int v1), (3, .int v2), (4, .int y1), (5, .int x3), (6, .int x4)] [] σ12 (K)) (fun _ _ => x_no) (fun r76 hr76 x4 σ12 => ?_) N (0 : Int32) σ10
            show XTx p l e { frames := 4, cells := 0, slots := 0, locals := 94 } s m args below meth c D al cA ba 8 (MQx rvU D al cA ba below args s) 0 0 76 [(0, .ref (al 103)), (1, .int x1), (2, .int v1), (3, .int v2), (4, .int y1), (5, .int x3), (6, .int x4)] [] σ12 (B_X10_findSights_L76 N x1 v1 v2 y1 x3 j169 r76 x4 σ12)
            unfold B_X10_findSights_L76
            refine x_iload (pc := 76) g 6 rfl dX10_findSights_76 ?_
            refine x_aload_n (pc := 78) g rfl 0 rfl dX10_findSights_78 ?_
            refine x_getR (pc := 79) g sh_103 fl_X10_19 rfl dX10_findSights_79 ?_
            refine x_iload (pc := 82) g 5 rfl dX10_findSights_82 ?_
            refine x_iald (pc := 84) g sh_107 (by decide) dX10_findSights_84 (fun v4 => ?_)
            refine x_icmp_ge (pc := 85) (tgt := 169) g (by decide) dX10_findSights_85 ?_ ?_
            · refine x_lv [0, 1, 2, 3, 4, 5] rfl ?_
              exact hj169 σ12
            · refine x_aload_n (pc := 88) g rfl 0 rfl dX10_findSights_88 ?_
              refine x_iload (pc := 89) g 5 rfl dX10_findSights_89 ?_
              refine x_iload (pc := 91) g 6 rfl dX10_findSights_91 ?_
              refine x_iload_n (pc := 93) g rfl 2 rfl dX10_findSights_93 ?_
              refine x_iload_n (pc := 94) g rfl 3 rfl dX10_findSights_94 ?_
              refine x_callVI (pc := 95) (As := [.int x3, .int x4, .int v1, .int v2]) g sh_103 (mc_X10_hasTracks N x3 x4 v1 v2) cw_X10_hasTracks lk_X10_280 rfl ⟨Nat.le_of_ble_eq_true rfl, Nat.le_of_ble_eq_true rfl⟩ rfl (Nat.le_of_ble_eq_true rfl) dX10_findSights_95 (fun v5 σ13 => ?_)
              refine x_jn (fun (j123 : Int32 → Sx → Option (Unit × Sx)) => ∀ (y3 : Int32) (σ14 : Sx), XTx p l e { frames := 4, cells := 0, slots := 0, locals := 94 } s m args below meth c D al cA ba 8 (MQx rvU D al cA ba below args s) 0 0 123 [(0, .ref (al 103)), (1, .int x1), (2, .int v1), (3, .int v2), (4, .int y1), (5, .int x3), (6, .int x4)] [.int y3] σ14 (j123 y3 σ14)) (fun y3 σ14 => ?_) (fun j123 hj123 => ?_)
              · refine x_istore (pc := 123) (lv' := [(7, .int y3), (0, .ref (al 103)), (1, .int x1), (2, .int v1), (3, .int v2), (4, .int y1), (5, .int x3), (6, .int x4)]) g (by decide) rfl dX10_findSights_123 ?_
                refine x_aload_n (pc := 125) g rfl 1 rfl dX10_findSights_125 ?_
                refine x_getR (pc := 126) g sh_103 fl_X10_72 rfl dX10_findSights_126 ?_
                refine x_bipush (pc := 129) (v := (20 : Int32)) g (by decide) dX10_findSights_129 ?_
                refine x_iload_n (pc := 131) g rfl 2 rfl dX10_findSights_131 ?_
                refine x_imul (pc := 132) g dX10_findSights_132 ?_
                refine x_iconst (pc := 133) (v := (4 : Int32)) g (by decide) dX10_findSights_133 ?_
                refine x_iload (pc := 134) g 6 rfl dX10_findSights_134 ?_
                refine x_imul (pc := 136) g dX10_findSights_136 ?_
                refine x_iadd (pc := 137) g dX10_findSights_137 ?_
                refine x_iload (pc := 138) g 7 rfl dX10_findSights_138 ?_
                refine x_iadd (pc := 140) g dX10_findSights_140 ?_
                refine x_iload (pc := 141) g 0 rfl dX10_findSights_141 ?_
                refine x_jn (fun (j162 : Int32 → Sx → Option (Unit × Sx)) => ∀ (y4 : Int32) (σ15 : Sx), XTx p l e { frames := 4, cells := 0, slots := 0, locals := 94 } s m args below meth c D al cA ba 8 (MQx rvU D al cA ba below args s) 0 0 162 [(0, .ref (al 103)), (1, .int x1), (2, .int v1), (3, .int v2), (4, .int y1), (5, .int x3), (6, .int x4)] [.int y4, .int ((((20 : Int32) * x1) + ((4 : Int32) * x3)) + x4), .ref (al 124)] σ15 (j162 y4 σ15)) (fun y4 σ15 => ?_) (fun j162 hj162 => ?_)
                · refine x_iast (pc := 162) g sh_124 (by decide) dX10_findSights_162 (fun σ16 => ?_)
                  refine x_iinc (pc := 163) (v := (x4 + (1 : Int32))) (lv' := [(6, .int (x4 + (1 : Int32))), (0, .ref (al 103)), (1, .int x1), (2, .int v1), (3, .int v2), (4, .int y1), (5, .int x3)]) g 6 rfl (by rfl) (by decide) rfl dX10_findSights_163 ?_
                  refine x_goto (pc := 166) (tgt := 76) g (by decide) dX10_findSights_166 ?_
                  refine x_lv [1, 2, 3, 4, 5, 6, 0] rfl ?_
                  exact hr76 (x4 + (1 : Int32)) σ16
                · refine x_jn (fun (j161 : Sx → Option (Unit × Sx)) => ∀ (σ17 : Sx), XTx p l e { frames := 4, cells := 0, slots := 0, locals := 94 } s m args below meth c D al cA ba 8 (MQx rvU D al cA ba below args s) 0 0 161 [(0, .ref (al 103)), (1, .int x1), (2, .int v1), (3, .int v2), (4, .int y1), (5, .int x3), (6, .int x4)] [.int ((((20 : Int32) * x1) + ((4 : Int32) * x3)) + x4), .ref (al 124)] σ17 (j161 σ17)) (fun σ17 => ?_) (fun j161 hj161 => ?_)
                  · refine x_iconst (pc := 161) (v := (0 : Int32)) g (by decide) dX10_findSights_161 ?_
                    exact hj162 (0 : Int32) σ17
                  · refine x_if_eq (pc := 143) (tgt := 161) g (by decide) dX10_findSights_143 ?_ ?_
                    · refine x_lv [1, 2, 3, 4, 5, 6, 7] rfl ?_
                      exact hj161 σ14
                    · refine x_iload (pc := 146) g 5 rfl dX10_findSights_146 ?_
                      refine x_if_ne (pc := 148) (tgt := 161) g (by decide) dX10_findSights_148 ?_ ?_
                      · refine x_lv [1, 2, 3, 4, 5, 6, 7] rfl ?_
                        exact hj161 σ14
                      · refine x_iload (pc := 151) g 6 rfl dX10_findSights_151 ?_
                        refine x_iload_n (pc := 153) g rfl 2 rfl dX10_findSights_153 ?_
                        refine x_icmp_eq (pc := 154) (tgt := 161) g (by decide) dX10_findSights_154 ?_ ?_
                        · refine x_lv [1, 2, 3, 4, 5, 6, 7] rfl ?_
                          exact hj161 σ14
                        · refine x_iconst (pc := 157) (v := (1 : Int32)) g (by decide) dX10_findSights_157 ?_
                          refine x_goto (pc := 158) (tgt := 162) g (by decide) dX10_findSights_158 ?_
                          refine x_lv [1, 2, 3, 4, 5, 6, 7] rfl ?_
                          exact hj162 (1 : Int32) σ14
              · refine x_jn (fun (j118 : Sx → Option (Unit × Sx)) => ∀ (σ18 : Sx), XTx p l e { frames := 4, cells := 0, slots := 0, locals := 94 } s m args below meth c D al cA ba 8 (MQx rvU D al cA ba below args s) 0 0 118 [(0, .ref (al 103)), (1, .int x1), (2, .int v1), (3, .int v2), (4, .int y1), (5, .int x3), (6, .int x4)] [] σ18 (j118 σ18)) (fun σ18 => ?_) (fun j118 hj118 => ?_)
                · refine x_iconst (pc := 118) (v := (1 : Int32)) g (by decide) dX10_findSights_118 ?_
                  refine x_goto (pc := 119) (tgt := 123) g (by decide) dX10_findSights_119 ?_
                  exact hj123 (1 : Int32) σ18
                · refine x_if_ne (pc := 98) (tgt := 118) g (by decide) dX10_findSights_98 ?_ ?_
                  · exact hj118 σ13
                  · refine x_iload (pc := 101) g 5 rfl dX10_findSights_101 ?_
                    refine x_aload_n (pc := 103) g rfl 0 rfl dX10_findSights_103 ?_
                    refine x_getI (pc := 104) g sh_103 fl_X10_78 rfl dX10_findSights_104 ?_
                    refine x_jn (fun (j122 : Sx → Option (Unit × Sx)) => ∀ (σ19 : Sx), XTx p l e { frames := 4, cells := 0, slots := 0, locals := 94 } s m args below meth c D al cA ba 8 (MQx rvU D al cA ba below args s) 0 0 122 [(0, .ref (al 103)), (1, .int x1), (2, .int v1), (3, .int v2), (4, .int y1), (5, .int x3), (6, .int x4)] [] σ19 (j122 σ19)) (fun σ19 => ?_) (fun j122 hj122 => ?_)
                    · refine x_iconst (pc := 122) (v := (0 : Int32)) g (by decide) dX10_findSights_122 ?_
                      exact hj123 (0 : Int32) σ19
                    · refine x_icmp_ne (pc := 107) (tgt := 122) g (by decide) dX10_findSights_107 ?_ ?_
                      · exact hj122 σ13
                      · refine x_iload_n (pc := 110) g rfl 2 rfl dX10_findSights_110 ?_
                        refine x_aload_n (pc := 111) g rfl 0 rfl dX10_findSights_111 ?_
                        refine x_getI (pc := 112) g sh_103 fl_X10_284 rfl dX10_findSights_112 ?_
                        refine x_icmp_ne (pc := 115) (tgt := 122) g (by decide) dX10_findSights_115 ?_ ?_
                        · exact hj122 σ13
                        · exact hj118 σ13
    · refine x_jn (fun (j58 : Sx → Option (Unit × Sx)) => ∀ (σ20 : Sx), XTx p l e { frames := 4, cells := 0, slots := 0, locals := 94 } s m args below meth c D al cA ba 8 (MQx rvU D al cA ba below args s) 0 0 58 [(0, .ref (al 103)), (1, .int x1), (2, .int v1), (3, .int v2)] [] σ20 (j58 σ20)) (fun σ20 => ?_) (fun j58 hj58 => ?_)
      · refine x_iconst (pc := 58) (v := (0 : Int32)) g (by decide) dX10_findSights_58 ?_
        exact hj59 (0 : Int32) σ20
      · refine x_icmp_ne (pc := 36) (tgt := 58) g (by decide) dX10_findSights_36 ?_ ?_
        · refine x_lv [2, 3, 1, 0] rfl ?_
          exact hj58 σ2
        · refine x_iload_n (pc := 39) g rfl 0 rfl dX10_findSights_39 ?_
          refine x_aload_n (pc := 40) g rfl 2 rfl dX10_findSights_40 ?_
          refine x_getI (pc := 41) g sh_103 fl_X10_274 rfl dX10_findSights_41 ?_
          refine x_aload_n (pc := 44) g rfl 2 rfl dX10_findSights_44 ?_
          refine x_getI (pc := 45) g sh_103 fl_X10_277 rfl dX10_findSights_45 ?_
          refine x_callSI (pc := 48) (As := [.int v2, .int (siI σ2 103 35), .int (siI σ2 103 36)]) g (mc_X10_in v2 (siI σ2 103 35) (siI σ2 103 36)) cw_X10_in lk_X10_131 rfl ⟨Nat.le_of_ble_eq_true rfl, Nat.le_of_ble_eq_true rfl⟩ rfl (Nat.le_of_ble_eq_true rfl) dX10_findSights_48 (fun v6 σ21 => ?_)
          refine x_if_eq (pc := 51) (tgt := 58) g (by decide) dX10_findSights_51 ?_ ?_
          · refine x_lv [2, 3, 1, 0] rfl ?_
            exact hj58 σ21
          · refine x_iconst (pc := 54) (v := (1 : Int32)) g (by decide) dX10_findSights_54 ?_
            refine x_goto (pc := 55) (tgt := 59) g (by decide) dX10_findSights_55 ?_
            refine x_lv [2, 3, 1, 0] rfl ?_
            exact hj59 (1 : Int32) σ21
def B_X10_takesOn_L5 (N : Nat) (a0 : Int32) (a1 : Int32) (j47 : Int32 → Sx → Option (Int32 × Sx)) (r5 : Int32 → Int32 → Sx → Option (Int32 × Sx)) (x2 : Int32) (x3 : Int32) (σ2 : Sx) : Option (Int32 × Sx) := (if (siI σ2 103 1) ≤ x3 then j47 x2 σ2 else clx (F_X10_wayIn a0 x3 σ2) (fun v2 σ3 => aIx 124 100 ((((20 : Int32) * a1) + ((4 : Int32) * x3)) + v2) σ3 (fun v3 => nmx ((x2 ||| (jshl v3 x3))) (fun v4 => r5 v4 (x3 + (1 : Int32)) σ3))))
def F_X10_takesOn (N : Nat) (a0 : Int32) (a1 : Int32) (σ0 : Sx) : Option (Int32 × Sx) := nmx (fun (x1 : Int32) (σ1 : Sx) => aIx 125 160 (((32 : Int32) * a1) + x1) σ1 (fun v1 => some (v1, σ1))) (fun (j47 : Int32 → Sx → Option (Int32 × Sx)) => lpx2 (B_X10_takesOn_L5 N a0 a1 j47) N (0 : Int32) (0 : Int32) σ0)
set_option maxRecDepth 100000 in
set_option maxHeartbeats 4000000 in
theorem mc_X10_takesOn {D : va_G} {al : Nat → Nat} {cA : Nat → ClassId} {ba : Nat} (N : Nat) (a0 : Int32) (a1 : Int32) : MCx D al cA ba yX10_takesOn cX10_takesOn 5 (some .int) 1 21 rvI [.ref (al 103), .int a0, .int a1] (F_X10_takesOn N a0 a1) := by
  refine MCx_of (by decide +kernel) (Nat.le_of_ble_eq_true rfl) ?_
  intro p l e s m args below meth c σ0 g hrt
  unfold F_X10_takesOn
  refine x_lv (lv' := [(0, .ref (al 103)), (1, .int a0), (2, .int a1)]) [0, 1, 2] rfl ?_
  refine x_iconst (pc := 0) (v := (0 : Int32)) g (by decide) dX10_takesOn_0 ?_
  refine x_istore_n (pc := 1) (lv' := [(3, .int (0 : Int32)), (0, .ref (al 103)), (1, .int a0), (2, .int a1)]) g rfl (by decide) rfl dX10_takesOn_1 ?_
  refine x_iconst (pc := 2) (v := (0 : Int32)) g (by decide) dX10_takesOn_2 ?_
  refine x_istore (pc := 3) (lv' := [(4, .int (0 : Int32)), (3, .int (0 : Int32)), (0, .ref (al 103)), (1, .int a0), (2, .int a1)]) g (by decide) rfl dX10_takesOn_3 ?_
  refine x_jn (fun (j47 : Int32 → Sx → Option (Int32 × Sx)) => ∀ (x1 : Int32) (σ1 : Sx), XTx p l e { frames := 1, cells := 0, slots := 0, locals := 21 } s m args below meth c D al cA ba 5 (MQx rvI D al cA ba below args s) 0 0 47 [(0, .ref (al 103)), (2, .int a1), (3, .int x1)] [] σ1 (j47 x1 σ1)) (fun x1 σ1 => ?_) (fun j47 hj47 => ?_)
  · refine x_aload_n (pc := 47) g rfl 0 rfl dX10_takesOn_47 ?_
    refine x_getR (pc := 48) g sh_103 fl_X10_75 rfl dX10_takesOn_48 ?_
    refine x_bipush (pc := 51) (v := (32 : Int32)) g (by decide) dX10_takesOn_51 ?_
    refine x_iload_n (pc := 53) g rfl 1 rfl dX10_takesOn_53 ?_
    refine x_imul (pc := 54) g dX10_takesOn_54 ?_
    refine x_iload_n (pc := 55) g rfl 2 rfl dX10_takesOn_55 ?_
    refine x_iadd (pc := 56) g dX10_takesOn_56 ?_
    refine x_iald (pc := 57) g sh_125 (by decide) dX10_takesOn_57 (fun v1 => ?_)
    exact x_ireturn (pc := 58) g hrt dX10_takesOn_58
  · refine x_lv [2, 3, 4, 1, 0] rfl ?_
    refine lpx2_ind (fun (x2 : Int32) (x3 : Int32) (σ2 : Sx) (K : Option (Int32 × Sx)) => XTx p l e { frames := 1, cells := 0, slots := 0, locals := 21 } s m args below meth c D al cA ba 5 (MQx rvI D al cA ba below args s) 0 0 5 [(0, .ref (al 103)), (1, .int a0), (2, .int a1), (3, .int x2), (4, .int x3)] [] σ2 (K)) (fun _ _ _ => x_no) (fun r5 hr5 x2 x3 σ2 => ?_) N (0 : Int32) (0 : Int32) σ0
    show XTx p l e { frames := 1, cells := 0, slots := 0, locals := 21 } s m args below meth c D al cA ba 5 (MQx rvI D al cA ba below args s) 0 0 5 [(0, .ref (al 103)), (1, .int a0), (2, .int a1), (3, .int x2), (4, .int x3)] [] σ2 (B_X10_takesOn_L5 N a0 a1 j47 r5 x2 x3 σ2)
    unfold B_X10_takesOn_L5
    refine x_iload (pc := 5) g 4 rfl dX10_takesOn_5 ?_
    refine x_aload_n (pc := 7) g rfl 0 rfl dX10_takesOn_7 ?_
    refine x_getI (pc := 8) g sh_103 fl_X10_128 rfl dX10_takesOn_8 ?_
    refine x_icmp_ge (pc := 11) (tgt := 47) g (by decide) dX10_takesOn_11 ?_ ?_
    · refine x_lv [0, 2, 3] rfl ?_
      exact hj47 x2 σ2
    · refine x_iload_n (pc := 14) g rfl 3 rfl dX10_takesOn_14 ?_
      refine x_aload_n (pc := 15) g rfl 0 rfl dX10_takesOn_15 ?_
      refine x_getR (pc := 16) g sh_103 fl_X10_72 rfl dX10_takesOn_16 ?_
      refine x_bipush (pc := 19) (v := (20 : Int32)) g (by decide) dX10_takesOn_19 ?_
      refine x_iload_n (pc := 21) g rfl 2 rfl dX10_takesOn_21 ?_
      refine x_imul (pc := 22) g dX10_takesOn_22 ?_
      refine x_iconst (pc := 23) (v := (4 : Int32)) g (by decide) dX10_takesOn_23 ?_
      refine x_iload (pc := 24) g 4 rfl dX10_takesOn_24 ?_
      refine x_imul (pc := 26) g dX10_takesOn_26 ?_
      refine x_iadd (pc := 27) g dX10_takesOn_27 ?_
      refine x_iload_n (pc := 28) g rfl 1 rfl dX10_takesOn_28 ?_
      refine x_iload (pc := 29) g 4 rfl dX10_takesOn_29 ?_
      refine x_callSI (pc := 31) (As := [.int a0, .int x3]) g (mc_X10_wayIn a0 x3) cw_X10_wayIn lk_X10_259 rfl ⟨Nat.le_of_ble_eq_true rfl, Nat.le_of_ble_eq_true rfl⟩ rfl (Nat.le_of_ble_eq_true rfl) dX10_takesOn_31 (fun v2 σ3 => ?_)
      refine x_iadd (pc := 34) g dX10_takesOn_34 ?_
      refine x_iald (pc := 35) g sh_124 (by decide) dX10_takesOn_35 (fun v3 => ?_)
      refine x_iload (pc := 36) g 4 rfl dX10_takesOn_36 ?_
      refine x_ishl (pc := 38) g dX10_takesOn_38 ?_
      refine x_ior (pc := 39) g dX10_takesOn_39 ?_
      refine x_nm (fun v4 => ?_)
      refine x_istore_n (pc := 40) (lv' := [(3, .int v4), (0, .ref (al 103)), (1, .int a0), (2, .int a1), (4, .int x3)]) g rfl (by decide) rfl dX10_takesOn_40 ?_
      refine x_iinc (pc := 41) (v := (x3 + (1 : Int32))) (lv' := [(4, .int (x3 + (1 : Int32))), (3, .int v4), (0, .ref (al 103)), (1, .int a0), (2, .int a1)]) g 4 rfl (by rfl) (by decide) rfl dX10_takesOn_41 ?_
      refine x_goto (pc := 44) (tgt := 5) g (by decide) dX10_takesOn_44 ?_
      refine x_lv [2, 3, 4, 1, 0] rfl ?_
      exact hr5 v4 (x3 + (1 : Int32)) σ3
def B_X10_holdsOn_L12 (N : Nat) (a0 : Int32) (r12 : Int32 → Sx → Option (Int32 × Sx)) (x1 : Int32) (σ2 : Sx) : Option (Int32 × Sx) := (if (siI σ2 103 1) ≤ x1 then some ((1 : Int32), σ2) else clx (F_X10_takesOn N a0 x1 σ2) (fun v2 σ3 => clx (F_X10_wayIn a0 x1 σ3) (fun v3 σ4 => (if v2 = v3 then r12 (x1 + (1 : Int32)) σ4 else some ((0 : Int32), σ4)))))
def F_X10_holdsOn (N : Nat) (a0 : Int32) (σ0 : Sx) : Option (Int32 × Sx) := clx (F_X10_isDay N a0 σ0) (fun v1 σ1 => (if v1 = 0 then some ((0 : Int32), σ1) else lpx1 (B_X10_holdsOn_L12 N a0) N (0 : Int32) σ1))
set_option maxRecDepth 100000 in
set_option maxHeartbeats 4000000 in
theorem mc_X10_holdsOn {D : va_G} {al : Nat → Nat} {cA : Nat → ClassId} {ba : Nat} (N : Nat) (a0 : Int32) : MCx D al cA ba yX10_holdsOn cX10_holdsOn 3 (some .boolean) 4 87 rvI [.ref (al 103), .int a0] (F_X10_holdsOn N a0) := by
  refine MCx_of (by decide +kernel) (Nat.le_of_ble_eq_true rfl) ?_
  intro p l e s m args below meth c σ0 g hrt
  unfold F_X10_holdsOn
  refine x_lv (lv' := [(0, .ref (al 103)), (1, .int a0)]) [0, 1] rfl ?_
  refine x_aload_n (pc := 0) g rfl 0 rfl dX10_holdsOn_0 ?_
  refine x_iload_n (pc := 1) g rfl 1 rfl dX10_holdsOn_1 ?_
  refine x_callVI (pc := 2) (As := [.int a0]) g sh_103 (mc_X10_isDay N a0) cw_X10_isDay lk_X10_290 rfl ⟨Nat.le_of_ble_eq_true rfl, Nat.le_of_ble_eq_true rfl⟩ rfl (Nat.le_of_ble_eq_true rfl) dX10_holdsOn_2 (fun v1 σ1 => ?_)
  refine x_if_ne (pc := 5) (tgt := 10) g (by decide) dX10_holdsOn_5 ?_ ?_
  · refine x_iconst (pc := 10) (v := (0 : Int32)) g (by decide) dX10_holdsOn_10 ?_
    refine x_istore_n (pc := 11) (lv' := [(2, .int (0 : Int32)), (0, .ref (al 103)), (1, .int a0)]) g rfl (by decide) rfl dX10_holdsOn_11 ?_
    refine x_lv [1, 2, 0] rfl ?_
    refine lpx1_ind (fun (x1 : Int32) (σ2 : Sx) (K : Option (Int32 × Sx)) => XTx p l e { frames := 4, cells := 0, slots := 0, locals := 87 } s m args below meth c D al cA ba 3 (MQx rvI D al cA ba below args s) 0 0 12 [(0, .ref (al 103)), (1, .int a0), (2, .int x1)] [] σ2 (K)) (fun _ _ => x_no) (fun r12 hr12 x1 σ2 => ?_) N (0 : Int32) σ1
    show XTx p l e { frames := 4, cells := 0, slots := 0, locals := 87 } s m args below meth c D al cA ba 3 (MQx rvI D al cA ba below args s) 0 0 12 [(0, .ref (al 103)), (1, .int a0), (2, .int x1)] [] σ2 (B_X10_holdsOn_L12 N a0 r12 x1 σ2)
    unfold B_X10_holdsOn_L12
    refine x_iload_n (pc := 12) g rfl 2 rfl dX10_holdsOn_12 ?_
    refine x_aload_n (pc := 13) g rfl 0 rfl dX10_holdsOn_13 ?_
    refine x_getI (pc := 14) g sh_103 fl_X10_128 rfl dX10_holdsOn_14 ?_
    refine x_icmp_ge (pc := 17) (tgt := 42) g (by decide) dX10_holdsOn_17 ?_ ?_
    · refine x_iconst (pc := 42) (v := (1 : Int32)) g (by decide) dX10_holdsOn_42 ?_
      exact x_zreturn (pc := 43) g hrt (by decide) dX10_holdsOn_43
    · refine x_aload_n (pc := 20) g rfl 0 rfl dX10_holdsOn_20 ?_
      refine x_iload_n (pc := 21) g rfl 1 rfl dX10_holdsOn_21 ?_
      refine x_iload_n (pc := 22) g rfl 2 rfl dX10_holdsOn_22 ?_
      refine x_callVI (pc := 23) (As := [.int a0, .int x1]) g sh_103 (mc_X10_takesOn N a0 x1) cw_X10_takesOn lk_X10_293 rfl ⟨Nat.le_of_ble_eq_true rfl, Nat.le_of_ble_eq_true rfl⟩ rfl (Nat.le_of_ble_eq_true rfl) dX10_holdsOn_23 (fun v2 σ3 => ?_)
      refine x_iload_n (pc := 26) g rfl 1 rfl dX10_holdsOn_26 ?_
      refine x_iload_n (pc := 27) g rfl 2 rfl dX10_holdsOn_27 ?_
      refine x_callSI (pc := 28) (As := [.int a0, .int x1]) g (mc_X10_wayIn a0 x1) cw_X10_wayIn lk_X10_259 rfl ⟨Nat.le_of_ble_eq_true rfl, Nat.le_of_ble_eq_true rfl⟩ rfl (Nat.le_of_ble_eq_true rfl) dX10_holdsOn_28 (fun v3 σ4 => ?_)
      refine x_icmp_eq (pc := 31) (tgt := 36) g (by decide) dX10_holdsOn_31 ?_ ?_
      · refine x_iinc (pc := 36) (v := (x1 + (1 : Int32))) (lv' := [(2, .int (x1 + (1 : Int32))), (0, .ref (al 103)), (1, .int a0)]) g 2 rfl (by rfl) (by decide) rfl dX10_holdsOn_36 ?_
        refine x_goto (pc := 39) (tgt := 12) g (by decide) dX10_holdsOn_39 ?_
        refine x_lv [1, 2, 0] rfl ?_
        exact hr12 (x1 + (1 : Int32)) σ4
      · refine x_iconst (pc := 34) (v := (0 : Int32)) g (by decide) dX10_holdsOn_34 ?_
        exact x_zreturn (pc := 35) g hrt (by decide) dX10_holdsOn_35
  · refine x_iconst (pc := 8) (v := (0 : Int32)) g (by decide) dX10_holdsOn_8 ?_
    exact x_zreturn (pc := 9) g hrt (by decide) dX10_holdsOn_9
def B_X10_findHeld_L11 (N : Nat) (r11 : Int32 → Sx → Option (Unit × Sx)) (x1 : Int32) (σ3 : Sx) : Option (Unit × Sx) := (if (1024 : Int32) ≤ x1 then some ((), σ3) else clx (F_X10_holdsOn N x1 σ3) (fun v1 σ4 => nmx (fun (σ5 : Sx) => r11 (x1 + (1 : Int32)) σ5) (fun (j49 : Sx → Option (Unit × Sx)) => (if v1 = 0 then j49 σ4 else sIx 126 1024 (siI σ4 103 38) x1 σ4 (fun σ6 => pIx 103 38 ((siI σ6 103 38) + (1 : Int32)) σ6 (fun σ7 => j49 σ7))))))
def F_X10_findHeld (N : Nat) (σ0 : Sx) : Option (Unit × Sx) := clx (F_X10_findSights N  σ0) (fun _ σ1 => pIx 103 38 (0 : Int32) σ1 (fun σ2 => lpx1 (B_X10_findHeld_L11 N) N (0 : Int32) σ2))
set_option maxRecDepth 100000 in
set_option maxHeartbeats 4000000 in
theorem mc_X10_findHeld {D : va_G} {al : Nat → Nat} {cA : Nat → ClassId} {ba : Nat} (N : Nat)  : MCx D al cA ba yX10_findHeld cX10_findHeld 2 none 5 121 rvU [.ref (al 103)] (F_X10_findHeld N) := by
  refine MCx_of (by decide +kernel) (Nat.le_of_ble_eq_true rfl) ?_
  intro p l e s m args below meth c σ0 g hrt
  unfold F_X10_findHeld
  refine x_lv (lv' := [(0, .ref (al 103))]) [0] rfl ?_
  refine x_aload_n (pc := 0) g rfl 0 rfl dX10_findHeld_0 ?_
  refine x_callVU (pc := 1) (As := []) g sh_103 (mc_X10_findSights N ) cw_X10_findSights lk_X10_296 rfl ⟨Nat.le_of_ble_eq_true rfl, Nat.le_of_ble_eq_true rfl⟩ rfl (Nat.le_of_ble_eq_true rfl) dX10_findHeld_1 (fun _ σ1 => ?_)
  refine x_aload_n (pc := 4) g rfl 0 rfl dX10_findHeld_4 ?_
  refine x_iconst (pc := 5) (v := (0 : Int32)) g (by decide) dX10_findHeld_5 ?_
  refine x_putI (pc := 6) g sh_103 fl_X10_299 rfl dX10_findHeld_6 (fun σ2 => ?_)
  refine x_iconst (pc := 9) (v := (0 : Int32)) g (by decide) dX10_findHeld_9 ?_
  refine x_istore_n (pc := 10) (lv' := [(1, .int (0 : Int32)), (0, .ref (al 103))]) g rfl (by decide) rfl dX10_findHeld_10 ?_
  refine x_lv [1, 0] rfl ?_
  refine lpx1_ind (fun (x1 : Int32) (σ3 : Sx) (K : Option (Unit × Sx)) => XTx p l e { frames := 5, cells := 0, slots := 0, locals := 121 } s m args below meth c D al cA ba 2 (MQx rvU D al cA ba below args s) 0 0 11 [(0, .ref (al 103)), (1, .int x1)] [] σ3 (K)) (fun _ _ => x_no) (fun r11 hr11 x1 σ3 => ?_) N (0 : Int32) σ2
  show XTx p l e { frames := 5, cells := 0, slots := 0, locals := 121 } s m args below meth c D al cA ba 2 (MQx rvU D al cA ba below args s) 0 0 11 [(0, .ref (al 103)), (1, .int x1)] [] σ3 (B_X10_findHeld_L11 N r11 x1 σ3)
  unfold B_X10_findHeld_L11
  refine x_iload_n (pc := 11) g rfl 1 rfl dX10_findHeld_11 ?_
  refine x_sipush (pc := 12) (v := (1024 : Int32)) g (by decide) dX10_findHeld_12 ?_
  refine x_icmp_ge (pc := 15) (tgt := 55) g (by decide) dX10_findHeld_15 ?_ ?_
  · exact x_return (pc := 55) g hrt dX10_findHeld_55
  · refine x_aload_n (pc := 18) g rfl 0 rfl dX10_findHeld_18 ?_
    refine x_iload_n (pc := 19) g rfl 1 rfl dX10_findHeld_19 ?_
    refine x_callVI (pc := 20) (As := [.int x1]) g sh_103 (mc_X10_holdsOn N x1) cw_X10_holdsOn lk_X10_302 rfl ⟨Nat.le_of_ble_eq_true rfl, Nat.le_of_ble_eq_true rfl⟩ rfl (Nat.le_of_ble_eq_true rfl) dX10_findHeld_20 (fun v1 σ4 => ?_)
    refine x_jn (fun (j49 : Sx → Option (Unit × Sx)) => ∀ (σ5 : Sx), XTx p l e { frames := 5, cells := 0, slots := 0, locals := 121 } s m args below meth c D al cA ba 2 (MQx rvU D al cA ba below args s) 0 0 49 [(0, .ref (al 103)), (1, .int x1)] [] σ5 (j49 σ5)) (fun σ5 => ?_) (fun j49 hj49 => ?_)
    · refine x_iinc (pc := 49) (v := (x1 + (1 : Int32))) (lv' := [(1, .int (x1 + (1 : Int32))), (0, .ref (al 103))]) g 1 rfl (by rfl) (by decide) rfl dX10_findHeld_49 ?_
      refine x_goto (pc := 52) (tgt := 11) g (by decide) dX10_findHeld_52 ?_
      refine x_lv [1, 0] rfl ?_
      exact hr11 (x1 + (1 : Int32)) σ5
    · refine x_if_ne (pc := 23) (tgt := 29) g (by decide) dX10_findHeld_23 ?_ ?_
      · refine x_aload_n (pc := 29) g rfl 0 rfl dX10_findHeld_29 ?_
        refine x_getR (pc := 30) g sh_103 fl_X10_85 rfl dX10_findHeld_30 ?_
        refine x_aload_n (pc := 33) g rfl 0 rfl dX10_findHeld_33 ?_
        refine x_getI (pc := 34) g sh_103 fl_X10_299 rfl dX10_findHeld_34 ?_
        refine x_iload_n (pc := 37) g rfl 1 rfl dX10_findHeld_37 ?_
        refine x_iast (pc := 38) g sh_126 (by decide) dX10_findHeld_38 (fun σ6 => ?_)
        refine x_aload_n (pc := 39) g rfl 0 rfl dX10_findHeld_39 ?_
        refine x_dup (pc := 40) g rfl dX10_findHeld_40 ?_
        refine x_getI (pc := 41) g sh_103 fl_X10_299 rfl dX10_findHeld_41 ?_
        refine x_iconst (pc := 44) (v := (1 : Int32)) g (by decide) dX10_findHeld_44 ?_
        refine x_iadd (pc := 45) g dX10_findHeld_45 ?_
        refine x_putI (pc := 46) g sh_103 fl_X10_299 rfl dX10_findHeld_46 (fun σ7 => ?_)
        exact hj49 σ7
      · refine x_goto (pc := 26) (tgt := 49) g (by decide) dX10_findHeld_26 ?_
        exact hj49 σ4
def F_X10_holding (N : Nat) (a0 : Int32) (σ0 : Sx) : Option (Int32 × Sx) := (if (-1 : Int32) ≤ a0 then clx (F_X10_findHeld N  σ0) (fun _ σ1 => (if 0 ≤ a0 then (if (siI σ1 103 38) ≤ a0 then some ((-2 : Int32), σ1) else aIx 126 1024 a0 σ1 (fun v1 => some (v1, σ1))) else some ((siI σ1 103 38), σ1))) else some ((-1 : Int32), σ0))
set_option maxRecDepth 100000 in
set_option maxHeartbeats 4000000 in
theorem mc_X10_holding {D : va_G} {al : Nat → Nat} {cA : Nat → ClassId} {ba : Nat} (N : Nat) (a0 : Int32) : MCx D al cA ba yX10_holding cX10_holding 2 (some .int) 6 142 rvI [.ref (al 103), .int a0] (F_X10_holding N a0) := by
  refine MCx_of (by decide +kernel) (Nat.le_of_ble_eq_true rfl) ?_
  intro p l e s m args below meth c σ0 g hrt
  unfold F_X10_holding
  refine x_lv (lv' := [(0, .ref (al 103)), (1, .int a0)]) [0, 1] rfl ?_
  refine x_iload_n (pc := 0) g rfl 1 rfl dX10_holding_0 ?_
  refine x_iconst (pc := 1) (v := (-1 : Int32)) g (by decide) dX10_holding_1 ?_
  refine x_icmp_ge (pc := 2) (tgt := 7) g (by decide) dX10_holding_2 ?_ ?_
  · refine x_aload_n (pc := 7) g rfl 0 rfl dX10_holding_7 ?_
    refine x_callVU (pc := 8) (As := []) g sh_103 (mc_X10_findHeld N ) cw_X10_findHeld lk_X10_305 rfl ⟨Nat.le_of_ble_eq_true rfl, Nat.le_of_ble_eq_true rfl⟩ rfl (Nat.le_of_ble_eq_true rfl) dX10_holding_8 (fun _ σ1 => ?_)
    refine x_iload_n (pc := 11) g rfl 1 rfl dX10_holding_11 ?_
    refine x_if_ge (pc := 12) (tgt := 22) g (by decide) dX10_holding_12 ?_ ?_
    · refine x_iload_n (pc := 22) g rfl 1 rfl dX10_holding_22 ?_
      refine x_aload_n (pc := 23) g rfl 0 rfl dX10_holding_23 ?_
      refine x_getI (pc := 24) g sh_103 fl_X10_299 rfl dX10_holding_24 ?_
      refine x_icmp_ge (pc := 27) (tgt := 39) g (by decide) dX10_holding_27 ?_ ?_
      · refine x_bipush (pc := 39) (v := (-2 : Int32)) g (by decide) dX10_holding_39 ?_
        exact x_ireturn (pc := 41) g hrt dX10_holding_41
      · refine x_aload_n (pc := 30) g rfl 0 rfl dX10_holding_30 ?_
        refine x_getR (pc := 31) g sh_103 fl_X10_85 rfl dX10_holding_31 ?_
        refine x_iload_n (pc := 34) g rfl 1 rfl dX10_holding_34 ?_
        refine x_iald (pc := 35) g sh_126 (by decide) dX10_holding_35 (fun v1 => ?_)
        refine x_goto (pc := 36) (tgt := 41) g (by decide) dX10_holding_36 ?_
        exact x_ireturn (pc := 41) g hrt dX10_holding_41
    · refine x_aload_n (pc := 15) g rfl 0 rfl dX10_holding_15 ?_
      refine x_getI (pc := 16) g sh_103 fl_X10_299 rfl dX10_holding_16 ?_
      refine x_goto (pc := 19) (tgt := 41) g (by decide) dX10_holding_19 ?_
      exact x_ireturn (pc := 41) g hrt dX10_holding_41
  · refine x_iconst (pc := 5) (v := (-1 : Int32)) g (by decide) dX10_holding_5 ?_
    exact x_ireturn (pc := 6) g hrt dX10_holding_6
def B_X10_besideOn_L4 (N : Nat) (a0 : Int32) (r4 : Int32 → Int32 → Sx → Option (Int32 × Sx)) (x1 : Int32) (x2 : Int32) (σ1 : Sx) : Option (Int32 × Sx) := (if (siI σ1 103 1) ≤ x2 then some (x1, σ1) else clx (F_X10_takesOn N a0 x2 σ1) (fun v1 σ2 => clx (F_X10_wayIn a0 x2 σ2) (fun v2 σ3 => nmx (fun (x3 : Int32) (σ4 : Sx) => r4 x3 (x2 + (1 : Int32)) σ4) (fun (j35 : Int32 → Sx → Option (Int32 × Sx)) => (if v1 = v2 then j35 x1 σ3 else aIx 106 5 x2 σ3 (fun v3 => nmx ((x1 + v3)) (fun v4 => j35 v4 σ3)))))))
def F_X10_besideOn (N : Nat) (a0 : Int32) (σ0 : Sx) : Option (Int32 × Sx) := lpx2 (B_X10_besideOn_L4 N a0) N (0 : Int32) (0 : Int32) σ0
set_option maxRecDepth 100000 in
set_option maxHeartbeats 4000000 in
theorem mc_X10_besideOn {D : va_G} {al : Nat → Nat} {cA : Nat → ClassId} {ba : Nat} (N : Nat) (a0 : Int32) : MCx D al cA ba yX10_besideOn cX10_besideOn 4 (some .int) 2 45 rvI [.ref (al 103), .int a0] (F_X10_besideOn N a0) := by
  refine MCx_of (by decide +kernel) (Nat.le_of_ble_eq_true rfl) ?_
  intro p l e s m args below meth c σ0 g hrt
  unfold F_X10_besideOn
  refine x_lv (lv' := [(0, .ref (al 103)), (1, .int a0)]) [0, 1] rfl ?_
  refine x_iconst (pc := 0) (v := (0 : Int32)) g (by decide) dX10_besideOn_0 ?_
  refine x_istore_n (pc := 1) (lv' := [(2, .int (0 : Int32)), (0, .ref (al 103)), (1, .int a0)]) g rfl (by decide) rfl dX10_besideOn_1 ?_
  refine x_iconst (pc := 2) (v := (0 : Int32)) g (by decide) dX10_besideOn_2 ?_
  refine x_istore_n (pc := 3) (lv' := [(3, .int (0 : Int32)), (2, .int (0 : Int32)), (0, .ref (al 103)), (1, .int a0)]) g rfl (by decide) rfl dX10_besideOn_3 ?_
  refine x_lv [2, 3, 1, 0] rfl ?_
  refine lpx2_ind (fun (x1 : Int32) (x2 : Int32) (σ1 : Sx) (K : Option (Int32 × Sx)) => XTx p l e { frames := 2, cells := 0, slots := 0, locals := 45 } s m args below meth c D al cA ba 4 (MQx rvI D al cA ba below args s) 0 0 4 [(0, .ref (al 103)), (1, .int a0), (2, .int x1), (3, .int x2)] [] σ1 (K)) (fun _ _ _ => x_no) (fun r4 hr4 x1 x2 σ1 => ?_) N (0 : Int32) (0 : Int32) σ0
  show XTx p l e { frames := 2, cells := 0, slots := 0, locals := 45 } s m args below meth c D al cA ba 4 (MQx rvI D al cA ba below args s) 0 0 4 [(0, .ref (al 103)), (1, .int a0), (2, .int x1), (3, .int x2)] [] σ1 (B_X10_besideOn_L4 N a0 r4 x1 x2 σ1)
  unfold B_X10_besideOn_L4
  refine x_iload_n (pc := 4) g rfl 3 rfl dX10_besideOn_4 ?_
  refine x_aload_n (pc := 5) g rfl 0 rfl dX10_besideOn_5 ?_
  refine x_getI (pc := 6) g sh_103 fl_X10_128 rfl dX10_besideOn_6 ?_
  refine x_icmp_ge (pc := 9) (tgt := 41) g (by decide) dX10_besideOn_9 ?_ ?_
  · refine x_iload_n (pc := 41) g rfl 2 rfl dX10_besideOn_41 ?_
    exact x_ireturn (pc := 42) g hrt dX10_besideOn_42
  · refine x_aload_n (pc := 12) g rfl 0 rfl dX10_besideOn_12 ?_
    refine x_iload_n (pc := 13) g rfl 1 rfl dX10_besideOn_13 ?_
    refine x_iload_n (pc := 14) g rfl 3 rfl dX10_besideOn_14 ?_
    refine x_callVI (pc := 15) (As := [.int a0, .int x2]) g sh_103 (mc_X10_takesOn N a0 x2) cw_X10_takesOn lk_X10_293 rfl ⟨Nat.le_of_ble_eq_true rfl, Nat.le_of_ble_eq_true rfl⟩ rfl (Nat.le_of_ble_eq_true rfl) dX10_besideOn_15 (fun v1 σ2 => ?_)
    refine x_iload_n (pc := 18) g rfl 1 rfl dX10_besideOn_18 ?_
    refine x_iload_n (pc := 19) g rfl 3 rfl dX10_besideOn_19 ?_
    refine x_callSI (pc := 20) (As := [.int a0, .int x2]) g (mc_X10_wayIn a0 x2) cw_X10_wayIn lk_X10_259 rfl ⟨Nat.le_of_ble_eq_true rfl, Nat.le_of_ble_eq_true rfl⟩ rfl (Nat.le_of_ble_eq_true rfl) dX10_besideOn_20 (fun v2 σ3 => ?_)
    refine x_jn (fun (j35 : Int32 → Sx → Option (Int32 × Sx)) => ∀ (x3 : Int32) (σ4 : Sx), XTx p l e { frames := 2, cells := 0, slots := 0, locals := 45 } s m args below meth c D al cA ba 4 (MQx rvI D al cA ba below args s) 0 0 35 [(0, .ref (al 103)), (1, .int a0), (2, .int x3), (3, .int x2)] [] σ4 (j35 x3 σ4)) (fun x3 σ4 => ?_) (fun j35 hj35 => ?_)
    · refine x_iinc (pc := 35) (v := (x2 + (1 : Int32))) (lv' := [(3, .int (x2 + (1 : Int32))), (0, .ref (al 103)), (1, .int a0), (2, .int x3)]) g 3 rfl (by rfl) (by decide) rfl dX10_besideOn_35 ?_
      refine x_goto (pc := 38) (tgt := 4) g (by decide) dX10_besideOn_38 ?_
      refine x_lv [1, 2, 3, 0] rfl ?_
      exact hr4 x3 (x2 + (1 : Int32)) σ4
    · refine x_icmp_eq (pc := 23) (tgt := 35) g (by decide) dX10_besideOn_23 ?_ ?_
      · exact hj35 x1 σ3
      · refine x_iload_n (pc := 26) g rfl 2 rfl dX10_besideOn_26 ?_
        refine x_aload_n (pc := 27) g rfl 0 rfl dX10_besideOn_27 ?_
        refine x_getR (pc := 28) g sh_103 fl_X10_16 rfl dX10_besideOn_28 ?_
        refine x_iload_n (pc := 31) g rfl 3 rfl dX10_besideOn_31 ?_
        refine x_iald (pc := 32) g sh_106 (by decide) dX10_besideOn_32 (fun v3 => ?_)
        refine x_iadd (pc := 33) g dX10_besideOn_33 ?_
        refine x_nm (fun v4 => ?_)
        refine x_istore_n (pc := 34) (lv' := [(2, .int v4), (0, .ref (al 103)), (1, .int a0), (3, .int x2)]) g rfl (by decide) rfl dX10_besideOn_34 ?_
        refine x_lv [1, 2, 0, 3] rfl ?_
        exact hj35 v4 σ3
def F_X10_day (N : Nat) (a0 : Int32) (a1 : Int32) (σ0 : Sx) : Option (Int32 × Sx) := clx (F_X10_isDay N a0 σ0) (fun v1 σ1 => (if v1 = 0 then some ((-1 : Int32), σ1) else clx (F_X10_in a1 (0 : Int32) (1 : Int32) σ1) (fun v2 σ2 => (if v2 = 0 then some ((-1 : Int32), σ2) else clx (F_X10_findSights N  σ2) (fun _ σ3 => (if a1 = 0 then clx (F_X10_holdsOn N a0 σ3) (fun v4 σ5 => (if v4 = 0 then some ((0 : Int32), σ5) else some ((1 : Int32), σ5))) else clx (F_X10_besideOn N a0 σ3) (fun v3 σ4 => some (v3, σ4))))))))
set_option maxRecDepth 100000 in
set_option maxHeartbeats 4000000 in
theorem mc_X10_day {D : va_G} {al : Nat → Nat} {cA : Nat → ClassId} {ba : Nat} (N : Nat) (a0 : Int32) (a1 : Int32) : MCx D al cA ba yX10_day cX10_day 3 (some .int) 5 121 rvI [.ref (al 103), .int a0, .int a1] (F_X10_day N a0 a1) := by
  refine MCx_of (by decide +kernel) (Nat.le_of_ble_eq_true rfl) ?_
  intro p l e s m args below meth c σ0 g hrt
  unfold F_X10_day
  refine x_lv (lv' := [(0, .ref (al 103)), (1, .int a0), (2, .int a1)]) [0, 1, 2] rfl ?_
  refine x_aload_n (pc := 0) g rfl 0 rfl dX10_day_0 ?_
  refine x_iload_n (pc := 1) g rfl 1 rfl dX10_day_1 ?_
  refine x_callVI (pc := 2) (As := [.int a0]) g sh_103 (mc_X10_isDay N a0) cw_X10_isDay lk_X10_290 rfl ⟨Nat.le_of_ble_eq_true rfl, Nat.le_of_ble_eq_true rfl⟩ rfl (Nat.le_of_ble_eq_true rfl) dX10_day_2 (fun v1 σ1 => ?_)
  refine x_if_eq (pc := 5) (tgt := 17) g (by decide) dX10_day_5 ?_ ?_
  · refine x_iconst (pc := 17) (v := (-1 : Int32)) g (by decide) dX10_day_17 ?_
    exact x_ireturn (pc := 18) g hrt dX10_day_18
  · refine x_iload_n (pc := 8) g rfl 2 rfl dX10_day_8 ?_
    refine x_iconst (pc := 9) (v := (0 : Int32)) g (by decide) dX10_day_9 ?_
    refine x_iconst (pc := 10) (v := (1 : Int32)) g (by decide) dX10_day_10 ?_
    refine x_callSI (pc := 11) (As := [.int a1, .int (0 : Int32), .int (1 : Int32)]) g (mc_X10_in a1 (0 : Int32) (1 : Int32)) cw_X10_in lk_X10_131 rfl ⟨Nat.le_of_ble_eq_true rfl, Nat.le_of_ble_eq_true rfl⟩ rfl (Nat.le_of_ble_eq_true rfl) dX10_day_11 (fun v2 σ2 => ?_)
    refine x_if_ne (pc := 14) (tgt := 19) g (by decide) dX10_day_14 ?_ ?_
    · refine x_aload_n (pc := 19) g rfl 0 rfl dX10_day_19 ?_
      refine x_callVU (pc := 20) (As := []) g sh_103 (mc_X10_findSights N ) cw_X10_findSights lk_X10_296 rfl ⟨Nat.le_of_ble_eq_true rfl, Nat.le_of_ble_eq_true rfl⟩ rfl (Nat.le_of_ble_eq_true rfl) dX10_day_20 (fun _ σ3 => ?_)
      refine x_iload_n (pc := 23) g rfl 2 rfl dX10_day_23 ?_
      refine x_if_ne (pc := 24) (tgt := 43) g (by decide) dX10_day_24 ?_ ?_
      · refine x_aload_n (pc := 43) g rfl 0 rfl dX10_day_43 ?_
        refine x_iload_n (pc := 44) g rfl 1 rfl dX10_day_44 ?_
        refine x_callVI (pc := 45) (As := [.int a0]) g sh_103 (mc_X10_besideOn N a0) cw_X10_besideOn lk_X10_308 rfl ⟨Nat.le_of_ble_eq_true rfl, Nat.le_of_ble_eq_true rfl⟩ rfl (Nat.le_of_ble_eq_true rfl) dX10_day_45 (fun v3 σ4 => ?_)
        exact x_ireturn (pc := 48) g hrt dX10_day_48
      · refine x_aload_n (pc := 27) g rfl 0 rfl dX10_day_27 ?_
        refine x_iload_n (pc := 28) g rfl 1 rfl dX10_day_28 ?_
        refine x_callVI (pc := 29) (As := [.int a0]) g sh_103 (mc_X10_holdsOn N a0) cw_X10_holdsOn lk_X10_302 rfl ⟨Nat.le_of_ble_eq_true rfl, Nat.le_of_ble_eq_true rfl⟩ rfl (Nat.le_of_ble_eq_true rfl) dX10_day_29 (fun v4 σ5 => ?_)
        refine x_if_eq (pc := 32) (tgt := 39) g (by decide) dX10_day_32 ?_ ?_
        · refine x_iconst (pc := 39) (v := (0 : Int32)) g (by decide) dX10_day_39 ?_
          refine x_goto (pc := 40) (tgt := 48) g (by decide) dX10_day_40 ?_
          exact x_ireturn (pc := 48) g hrt dX10_day_48
        · refine x_iconst (pc := 35) (v := (1 : Int32)) g (by decide) dX10_day_35 ?_
          refine x_goto (pc := 36) (tgt := 48) g (by decide) dX10_day_36 ?_
          exact x_ireturn (pc := 48) g hrt dX10_day_48
    · refine x_iconst (pc := 17) (v := (-1 : Int32)) g (by decide) dX10_day_17 ?_
      exact x_ireturn (pc := 18) g hrt dX10_day_18
def F_X10_where (N : Nat) (a0 : Int32) (a1 : Int32) (a2 : Int32) (σ0 : Sx) : Option (Int32 × Sx) := clx (F_X10_isDay N a0 σ0) (fun v1 σ1 => (if v1 = 0 then some ((-1 : Int32), σ1) else clx (F_X10_isWalker a1 σ1) (fun v2 σ2 => (if v2 = 0 then some ((-1 : Int32), σ2) else clx (F_X10_in a2 (0 : Int32) (999 : Int32) σ2) (fun v3 σ3 => (if v3 = 0 then some ((-1 : Int32), σ3) else clx (F_X10_findMinutes N  σ3) (fun _ σ4 => clx (F_X10_wayIn a0 a1 σ4) (fun v4 σ5 => clx (F_X10_placeIn N a1 v4 a2 σ5) (fun v5 σ6 => some (v5, σ6))))))))))
set_option maxRecDepth 100000 in
set_option maxHeartbeats 4000000 in
theorem mc_X10_where {D : va_G} {al : Nat → Nat} {cA : Nat → ClassId} {ba : Nat} (N : Nat) (a0 : Int32) (a1 : Int32) (a2 : Int32) : MCx D al cA ba yX10_where cX10_where 4 (some .int) 4 87 rvI [.ref (al 103), .int a0, .int a1, .int a2] (F_X10_where N a0 a1 a2) := by
  refine MCx_of (by decide +kernel) (Nat.le_of_ble_eq_true rfl) ?_
  intro p l e s m args below meth c σ0 g hrt
  unfold F_X10_where
  refine x_lv (lv' := [(0, .ref (al 103)), (1, .int a0), (2, .int a1), (3, .int a2)]) [0, 1, 2, 3] rfl ?_
  refine x_aload_n (pc := 0) g rfl 0 rfl dX10_where_0 ?_
  refine x_iload_n (pc := 1) g rfl 1 rfl dX10_where_1 ?_
  refine x_callVI (pc := 2) (As := [.int a0]) g sh_103 (mc_X10_isDay N a0) cw_X10_isDay lk_X10_290 rfl ⟨Nat.le_of_ble_eq_true rfl, Nat.le_of_ble_eq_true rfl⟩ rfl (Nat.le_of_ble_eq_true rfl) dX10_where_2 (fun v1 σ1 => ?_)
  refine x_if_eq (pc := 5) (tgt := 27) g (by decide) dX10_where_5 ?_ ?_
  · refine x_iconst (pc := 27) (v := (-1 : Int32)) g (by decide) dX10_where_27 ?_
    exact x_ireturn (pc := 28) g hrt dX10_where_28
  · refine x_aload_n (pc := 8) g rfl 0 rfl dX10_where_8 ?_
    refine x_iload_n (pc := 9) g rfl 2 rfl dX10_where_9 ?_
    refine x_callVI (pc := 10) (As := [.int a1]) g sh_103 (mc_X10_isWalker a1) cw_X10_isWalker lk_X10_157 rfl ⟨Nat.le_of_ble_eq_true rfl, Nat.le_of_ble_eq_true rfl⟩ rfl (Nat.le_of_ble_eq_true rfl) dX10_where_10 (fun v2 σ2 => ?_)
    refine x_if_eq (pc := 13) (tgt := 27) g (by decide) dX10_where_13 ?_ ?_
    · refine x_iconst (pc := 27) (v := (-1 : Int32)) g (by decide) dX10_where_27 ?_
      exact x_ireturn (pc := 28) g hrt dX10_where_28
    · refine x_iload_n (pc := 16) g rfl 3 rfl dX10_where_16 ?_
      refine x_iconst (pc := 17) (v := (0 : Int32)) g (by decide) dX10_where_17 ?_
      refine x_sipush (pc := 18) (v := (999 : Int32)) g (by decide) dX10_where_18 ?_
      refine x_callSI (pc := 21) (As := [.int a2, .int (0 : Int32), .int (999 : Int32)]) g (mc_X10_in a2 (0 : Int32) (999 : Int32)) cw_X10_in lk_X10_131 rfl ⟨Nat.le_of_ble_eq_true rfl, Nat.le_of_ble_eq_true rfl⟩ rfl (Nat.le_of_ble_eq_true rfl) dX10_where_21 (fun v3 σ3 => ?_)
      refine x_if_ne (pc := 24) (tgt := 29) g (by decide) dX10_where_24 ?_ ?_
      · refine x_aload_n (pc := 29) g rfl 0 rfl dX10_where_29 ?_
        refine x_callVU (pc := 30) (As := []) g sh_103 (mc_X10_findMinutes N ) cw_X10_findMinutes lk_X10_271 rfl ⟨Nat.le_of_ble_eq_true rfl, Nat.le_of_ble_eq_true rfl⟩ rfl (Nat.le_of_ble_eq_true rfl) dX10_where_30 (fun _ σ4 => ?_)
        refine x_aload_n (pc := 33) g rfl 0 rfl dX10_where_33 ?_
        refine x_iload_n (pc := 34) g rfl 2 rfl dX10_where_34 ?_
        refine x_iload_n (pc := 35) g rfl 1 rfl dX10_where_35 ?_
        refine x_iload_n (pc := 36) g rfl 2 rfl dX10_where_36 ?_
        refine x_callSI (pc := 37) (As := [.int a0, .int a1]) g (mc_X10_wayIn a0 a1) cw_X10_wayIn lk_X10_259 rfl ⟨Nat.le_of_ble_eq_true rfl, Nat.le_of_ble_eq_true rfl⟩ rfl (Nat.le_of_ble_eq_true rfl) dX10_where_37 (fun v4 σ5 => ?_)
        refine x_iload_n (pc := 40) g rfl 3 rfl dX10_where_40 ?_
        refine x_callVI (pc := 41) (As := [.int a1, .int v4, .int a2]) g sh_103 (mc_X10_placeIn N a1 v4 a2) cw_X10_placeIn lk_X10_311 rfl ⟨Nat.le_of_ble_eq_true rfl, Nat.le_of_ble_eq_true rfl⟩ rfl (Nat.le_of_ble_eq_true rfl) dX10_where_41 (fun v5 σ6 => ?_)
        exact x_ireturn (pc := 44) g hrt dX10_where_44
      · refine x_iconst (pc := 27) (v := (-1 : Int32)) g (by decide) dX10_where_27 ?_
        exact x_ireturn (pc := 28) g hrt dX10_where_28
def B_X10_seesOn_L6 (N : Nat) (a0 : Int32) (a1 : Int32) (a2 : Int32) (r6 : Int32 → Int32 → Sx → Option (Int32 × Sx)) (x1 : Int32) (x2 : Int32) (σ1 : Sx) : Option (Int32 × Sx) := (if (siI σ1 103 1) ≤ x2 then some (x1, σ1) else clx (F_X10_wayIn a0 x2 σ1) (fun v1 σ2 => clx (F_X10_hasTracks N x2 v1 a1 a2 σ2) (fun v2 σ3 => nmx (fun (x3 : Int32) (σ4 : Sx) => r6 x3 (x2 + (1 : Int32)) σ4) (fun (j41 : Int32 → Sx → Option (Int32 × Sx)) => (if v2 = 0 then j41 x1 σ3 else nmx ((x1 ||| (jshl (1 : Int32) x2))) (fun v3 => j41 v3 σ3))))))
def F_X10_seesOn (N : Nat) (a0 : Int32) (a1 : Int32) (a2 : Int32) (σ0 : Sx) : Option (Int32 × Sx) := lpx2 (B_X10_seesOn_L6 N a0 a1 a2) N (0 : Int32) (0 : Int32) σ0
set_option maxRecDepth 100000 in
set_option maxHeartbeats 4000000 in
theorem mc_X10_seesOn {D : va_G} {al : Nat → Nat} {cA : Nat → ClassId} {ba : Nat} (N : Nat) (a0 : Int32) (a1 : Int32) (a2 : Int32) : MCx D al cA ba yX10_seesOn cX10_seesOn 6 (some .int) 1 26 rvI [.ref (al 103), .int a0, .int a1, .int a2] (F_X10_seesOn N a0 a1 a2) := by
  refine MCx_of (by decide +kernel) (Nat.le_of_ble_eq_true rfl) ?_
  intro p l e s m args below meth c σ0 g hrt
  unfold F_X10_seesOn
  refine x_lv (lv' := [(0, .ref (al 103)), (1, .int a0), (2, .int a1), (3, .int a2)]) [0, 1, 2, 3] rfl ?_
  refine x_iconst (pc := 0) (v := (0 : Int32)) g (by decide) dX10_seesOn_0 ?_
  refine x_istore (pc := 1) (lv' := [(4, .int (0 : Int32)), (0, .ref (al 103)), (1, .int a0), (2, .int a1), (3, .int a2)]) g (by decide) rfl dX10_seesOn_1 ?_
  refine x_iconst (pc := 3) (v := (0 : Int32)) g (by decide) dX10_seesOn_3 ?_
  refine x_istore (pc := 4) (lv' := [(5, .int (0 : Int32)), (4, .int (0 : Int32)), (0, .ref (al 103)), (1, .int a0), (2, .int a1), (3, .int a2)]) g (by decide) rfl dX10_seesOn_4 ?_
  refine x_lv [2, 3, 4, 5, 1, 0] rfl ?_
  refine lpx2_ind (fun (x1 : Int32) (x2 : Int32) (σ1 : Sx) (K : Option (Int32 × Sx)) => XTx p l e { frames := 1, cells := 0, slots := 0, locals := 26 } s m args below meth c D al cA ba 6 (MQx rvI D al cA ba below args s) 0 0 6 [(0, .ref (al 103)), (1, .int a0), (2, .int a1), (3, .int a2), (4, .int x1), (5, .int x2)] [] σ1 (K)) (fun _ _ _ => x_no) (fun r6 hr6 x1 x2 σ1 => ?_) N (0 : Int32) (0 : Int32) σ0
  show XTx p l e { frames := 1, cells := 0, slots := 0, locals := 26 } s m args below meth c D al cA ba 6 (MQx rvI D al cA ba below args s) 0 0 6 [(0, .ref (al 103)), (1, .int a0), (2, .int a1), (3, .int a2), (4, .int x1), (5, .int x2)] [] σ1 (B_X10_seesOn_L6 N a0 a1 a2 r6 x1 x2 σ1)
  unfold B_X10_seesOn_L6
  refine x_iload (pc := 6) g 5 rfl dX10_seesOn_6 ?_
  refine x_aload_n (pc := 8) g rfl 0 rfl dX10_seesOn_8 ?_
  refine x_getI (pc := 9) g sh_103 fl_X10_128 rfl dX10_seesOn_9 ?_
  refine x_icmp_ge (pc := 12) (tgt := 47) g (by decide) dX10_seesOn_12 ?_ ?_
  · refine x_iload (pc := 47) g 4 rfl dX10_seesOn_47 ?_
    exact x_ireturn (pc := 49) g hrt dX10_seesOn_49
  · refine x_aload_n (pc := 15) g rfl 0 rfl dX10_seesOn_15 ?_
    refine x_iload (pc := 16) g 5 rfl dX10_seesOn_16 ?_
    refine x_iload_n (pc := 18) g rfl 1 rfl dX10_seesOn_18 ?_
    refine x_iload (pc := 19) g 5 rfl dX10_seesOn_19 ?_
    refine x_callSI (pc := 21) (As := [.int a0, .int x2]) g (mc_X10_wayIn a0 x2) cw_X10_wayIn lk_X10_259 rfl ⟨Nat.le_of_ble_eq_true rfl, Nat.le_of_ble_eq_true rfl⟩ rfl (Nat.le_of_ble_eq_true rfl) dX10_seesOn_21 (fun v1 σ2 => ?_)
    refine x_iload_n (pc := 24) g rfl 2 rfl dX10_seesOn_24 ?_
    refine x_iload_n (pc := 25) g rfl 3 rfl dX10_seesOn_25 ?_
    refine x_callVI (pc := 26) (As := [.int x2, .int v1, .int a1, .int a2]) g sh_103 (mc_X10_hasTracks N x2 v1 a1 a2) cw_X10_hasTracks lk_X10_280 rfl ⟨Nat.le_of_ble_eq_true rfl, Nat.le_of_ble_eq_true rfl⟩ rfl (Nat.le_of_ble_eq_true rfl) dX10_seesOn_26 (fun v2 σ3 => ?_)
    refine x_jn (fun (j41 : Int32 → Sx → Option (Int32 × Sx)) => ∀ (x3 : Int32) (σ4 : Sx), XTx p l e { frames := 1, cells := 0, slots := 0, locals := 26 } s m args below meth c D al cA ba 6 (MQx rvI D al cA ba below args s) 0 0 41 [(0, .ref (al 103)), (1, .int a0), (2, .int a1), (3, .int a2), (4, .int x3), (5, .int x2)] [] σ4 (j41 x3 σ4)) (fun x3 σ4 => ?_) (fun j41 hj41 => ?_)
    · refine x_iinc (pc := 41) (v := (x2 + (1 : Int32))) (lv' := [(5, .int (x2 + (1 : Int32))), (0, .ref (al 103)), (1, .int a0), (2, .int a1), (3, .int a2), (4, .int x3)]) g 5 rfl (by rfl) (by decide) rfl dX10_seesOn_41 ?_
      refine x_goto (pc := 44) (tgt := 6) g (by decide) dX10_seesOn_44 ?_
      refine x_lv [1, 2, 3, 4, 5, 0] rfl ?_
      exact hr6 x3 (x2 + (1 : Int32)) σ4
    · refine x_if_eq (pc := 29) (tgt := 41) g (by decide) dX10_seesOn_29 ?_ ?_
      · exact hj41 x1 σ3
      · refine x_iload (pc := 32) g 4 rfl dX10_seesOn_32 ?_
        refine x_iconst (pc := 34) (v := (1 : Int32)) g (by decide) dX10_seesOn_34 ?_
        refine x_iload (pc := 35) g 5 rfl dX10_seesOn_35 ?_
        refine x_ishl (pc := 37) g dX10_seesOn_37 ?_
        refine x_ior (pc := 38) g dX10_seesOn_38 ?_
        refine x_nm (fun v3 => ?_)
        refine x_istore (pc := 39) (lv' := [(4, .int v3), (0, .ref (al 103)), (1, .int a0), (2, .int a1), (3, .int a2), (5, .int x2)]) g (by decide) rfl dX10_seesOn_39 ?_
        refine x_lv [1, 2, 3, 4, 0, 5] rfl ?_
        exact hj41 v3 σ3
def F_X10_sees (N : Nat) (a0 : Int32) (a1 : Int32) (a2 : Int32) (σ0 : Sx) : Option (Int32 × Sx) := clx (F_X10_isDay N a0 σ0) (fun v1 σ1 => (if v1 = 0 then some ((-1 : Int32), σ1) else clx (F_X10_isPlace a1 σ1) (fun v2 σ2 => (if v2 = 0 then some ((-1 : Int32), σ2) else clx (F_X10_in a2 (0 : Int32) (999 : Int32) σ2) (fun v3 σ3 => (if v3 = 0 then some ((-1 : Int32), σ3) else clx (F_X10_findMinutes N  σ3) (fun _ σ4 => clx (F_X10_seesOn N a0 a1 a2 σ4) (fun v4 σ5 => some (v4, σ5)))))))))
set_option maxRecDepth 100000 in
set_option maxHeartbeats 4000000 in
theorem mc_X10_sees {D : va_G} {al : Nat → Nat} {cA : Nat → ClassId} {ba : Nat} (N : Nat) (a0 : Int32) (a1 : Int32) (a2 : Int32) : MCx D al cA ba yX10_sees cX10_sees 4 (some .int) 4 87 rvI [.ref (al 103), .int a0, .int a1, .int a2] (F_X10_sees N a0 a1 a2) := by
  refine MCx_of (by decide +kernel) (Nat.le_of_ble_eq_true rfl) ?_
  intro p l e s m args below meth c σ0 g hrt
  unfold F_X10_sees
  refine x_lv (lv' := [(0, .ref (al 103)), (1, .int a0), (2, .int a1), (3, .int a2)]) [0, 1, 2, 3] rfl ?_
  refine x_aload_n (pc := 0) g rfl 0 rfl dX10_sees_0 ?_
  refine x_iload_n (pc := 1) g rfl 1 rfl dX10_sees_1 ?_
  refine x_callVI (pc := 2) (As := [.int a0]) g sh_103 (mc_X10_isDay N a0) cw_X10_isDay lk_X10_290 rfl ⟨Nat.le_of_ble_eq_true rfl, Nat.le_of_ble_eq_true rfl⟩ rfl (Nat.le_of_ble_eq_true rfl) dX10_sees_2 (fun v1 σ1 => ?_)
  refine x_if_eq (pc := 5) (tgt := 26) g (by decide) dX10_sees_5 ?_ ?_
  · refine x_iconst (pc := 26) (v := (-1 : Int32)) g (by decide) dX10_sees_26 ?_
    exact x_ireturn (pc := 27) g hrt dX10_sees_27
  · refine x_iload_n (pc := 8) g rfl 2 rfl dX10_sees_8 ?_
    refine x_callSI (pc := 9) (As := [.int a1]) g (mc_X10_isPlace a1) cw_X10_isPlace lk_X10_135 rfl ⟨Nat.le_of_ble_eq_true rfl, Nat.le_of_ble_eq_true rfl⟩ rfl (Nat.le_of_ble_eq_true rfl) dX10_sees_9 (fun v2 σ2 => ?_)
    refine x_if_eq (pc := 12) (tgt := 26) g (by decide) dX10_sees_12 ?_ ?_
    · refine x_iconst (pc := 26) (v := (-1 : Int32)) g (by decide) dX10_sees_26 ?_
      exact x_ireturn (pc := 27) g hrt dX10_sees_27
    · refine x_iload_n (pc := 15) g rfl 3 rfl dX10_sees_15 ?_
      refine x_iconst (pc := 16) (v := (0 : Int32)) g (by decide) dX10_sees_16 ?_
      refine x_sipush (pc := 17) (v := (999 : Int32)) g (by decide) dX10_sees_17 ?_
      refine x_callSI (pc := 20) (As := [.int a2, .int (0 : Int32), .int (999 : Int32)]) g (mc_X10_in a2 (0 : Int32) (999 : Int32)) cw_X10_in lk_X10_131 rfl ⟨Nat.le_of_ble_eq_true rfl, Nat.le_of_ble_eq_true rfl⟩ rfl (Nat.le_of_ble_eq_true rfl) dX10_sees_20 (fun v3 σ3 => ?_)
      refine x_if_ne (pc := 23) (tgt := 28) g (by decide) dX10_sees_23 ?_ ?_
      · refine x_aload_n (pc := 28) g rfl 0 rfl dX10_sees_28 ?_
        refine x_callVU (pc := 29) (As := []) g sh_103 (mc_X10_findMinutes N ) cw_X10_findMinutes lk_X10_271 rfl ⟨Nat.le_of_ble_eq_true rfl, Nat.le_of_ble_eq_true rfl⟩ rfl (Nat.le_of_ble_eq_true rfl) dX10_sees_29 (fun _ σ4 => ?_)
        refine x_aload_n (pc := 32) g rfl 0 rfl dX10_sees_32 ?_
        refine x_iload_n (pc := 33) g rfl 1 rfl dX10_sees_33 ?_
        refine x_iload_n (pc := 34) g rfl 2 rfl dX10_sees_34 ?_
        refine x_iload_n (pc := 35) g rfl 3 rfl dX10_sees_35 ?_
        refine x_callVI (pc := 36) (As := [.int a0, .int a1, .int a2]) g sh_103 (mc_X10_seesOn N a0 a1 a2) cw_X10_seesOn lk_X10_314 rfl ⟨Nat.le_of_ble_eq_true rfl, Nat.le_of_ble_eq_true rfl⟩ rfl (Nat.le_of_ble_eq_true rfl) dX10_sees_36 (fun v4 σ5 => ?_)
        exact x_ireturn (pc := 39) g hrt dX10_sees_39
      · refine x_iconst (pc := 26) (v := (-1 : Int32)) g (by decide) dX10_sees_26 ?_
        exact x_ireturn (pc := 27) g hrt dX10_sees_27
def F_X10_takes (N : Nat) (a0 : Int32) (a1 : Int32) (σ0 : Sx) : Option (Int32 × Sx) := clx (F_X10_isDay N a0 σ0) (fun v1 σ1 => (if v1 = 0 then some ((-1 : Int32), σ1) else clx (F_X10_isWalker a1 σ1) (fun v2 σ2 => (if v2 = 0 then some ((-1 : Int32), σ2) else clx (F_X10_findSights N  σ2) (fun _ σ3 => clx (F_X10_takesOn N a0 a1 σ3) (fun v3 σ4 => some (v3, σ4)))))))
set_option maxRecDepth 100000 in
set_option maxHeartbeats 4000000 in
theorem mc_X10_takes {D : va_G} {al : Nat → Nat} {cA : Nat → ClassId} {ba : Nat} (N : Nat) (a0 : Int32) (a1 : Int32) : MCx D al cA ba yX10_takes cX10_takes 3 (some .int) 5 121 rvI [.ref (al 103), .int a0, .int a1] (F_X10_takes N a0 a1) := by
  refine MCx_of (by decide +kernel) (Nat.le_of_ble_eq_true rfl) ?_
  intro p l e s m args below meth c σ0 g hrt
  unfold F_X10_takes
  refine x_lv (lv' := [(0, .ref (al 103)), (1, .int a0), (2, .int a1)]) [0, 1, 2] rfl ?_
  refine x_aload_n (pc := 0) g rfl 0 rfl dX10_takes_0 ?_
  refine x_iload_n (pc := 1) g rfl 1 rfl dX10_takes_1 ?_
  refine x_callVI (pc := 2) (As := [.int a0]) g sh_103 (mc_X10_isDay N a0) cw_X10_isDay lk_X10_290 rfl ⟨Nat.le_of_ble_eq_true rfl, Nat.le_of_ble_eq_true rfl⟩ rfl (Nat.le_of_ble_eq_true rfl) dX10_takes_2 (fun v1 σ1 => ?_)
  refine x_if_eq (pc := 5) (tgt := 16) g (by decide) dX10_takes_5 ?_ ?_
  · refine x_iconst (pc := 16) (v := (-1 : Int32)) g (by decide) dX10_takes_16 ?_
    exact x_ireturn (pc := 17) g hrt dX10_takes_17
  · refine x_aload_n (pc := 8) g rfl 0 rfl dX10_takes_8 ?_
    refine x_iload_n (pc := 9) g rfl 2 rfl dX10_takes_9 ?_
    refine x_callVI (pc := 10) (As := [.int a1]) g sh_103 (mc_X10_isWalker a1) cw_X10_isWalker lk_X10_157 rfl ⟨Nat.le_of_ble_eq_true rfl, Nat.le_of_ble_eq_true rfl⟩ rfl (Nat.le_of_ble_eq_true rfl) dX10_takes_10 (fun v2 σ2 => ?_)
    refine x_if_ne (pc := 13) (tgt := 18) g (by decide) dX10_takes_13 ?_ ?_
    · refine x_aload_n (pc := 18) g rfl 0 rfl dX10_takes_18 ?_
      refine x_callVU (pc := 19) (As := []) g sh_103 (mc_X10_findSights N ) cw_X10_findSights lk_X10_296 rfl ⟨Nat.le_of_ble_eq_true rfl, Nat.le_of_ble_eq_true rfl⟩ rfl (Nat.le_of_ble_eq_true rfl) dX10_takes_19 (fun _ σ3 => ?_)
      refine x_aload_n (pc := 22) g rfl 0 rfl dX10_takes_22 ?_
      refine x_iload_n (pc := 23) g rfl 1 rfl dX10_takes_23 ?_
      refine x_iload_n (pc := 24) g rfl 2 rfl dX10_takes_24 ?_
      refine x_callVI (pc := 25) (As := [.int a0, .int a1]) g sh_103 (mc_X10_takesOn N a0 a1) cw_X10_takesOn lk_X10_293 rfl ⟨Nat.le_of_ble_eq_true rfl, Nat.le_of_ble_eq_true rfl⟩ rfl (Nat.le_of_ble_eq_true rfl) dX10_takes_25 (fun v3 σ4 => ?_)
      exact x_ireturn (pc := 28) g hrt dX10_takes_28
    · refine x_iconst (pc := 16) (v := (-1 : Int32)) g (by decide) dX10_takes_16 ?_
      exact x_ireturn (pc := 17) g hrt dX10_takes_17
def B_X10_findMet_L61 (N : Nat) (a0 : Int32) (v2 : Int32) (x2 : Int32) (j162 : Sx → Option (Unit × Sx)) (r61 : Int32 → Sx → Option (Unit × Sx)) (x3 : Int32) (σ8 : Sx) : Option (Unit × Sx) := (if (siI σ8 103 1) ≤ x3 then j162 σ8 else clx (F_X10_wayIn a0 x3 σ8) (fun v5 σ9 => aIx 123 160 (v2 + x2) σ9 (fun v6 => clx (F_X10_placeIn N x3 v5 v6 σ9) (fun v7 σ10 => aIx 109 160 (v2 + x2) σ10 (fun v8 => nmx (fun (σ11 : Sx) => r61 (x3 + (1 : Int32)) σ11) (fun (j156 : Sx → Option (Unit × Sx)) => (if v7 = v8 then pIx 103 39 ((siI σ10 103 39) + (1 : Int32)) σ10 (fun σ12 => nmx (fun (σ13 : Sx) => aIx 123 160 (v2 + x2) σ13 (fun v9 => pIx 103 40 v9 σ13 (fun σ14 => j156 σ14))) (fun (j142 : Sx → Option (Unit × Sx)) => (if (siI σ12 103 40) < 0 then j142 σ12 else aIx 123 160 (v2 + x2) σ12 (fun v10 => (if (siI σ12 103 40) ≤ v10 then j156 σ12 else j142 σ12))))) else j156 σ10)))))))
def B_X10_findMet_L41 (N : Nat) (a0 : Int32) (x1 : Int32) (v1 : Int32) (v2 : Int32) (j168 : Sx → Option (Unit × Sx)) (r41 : Int32 → Sx → Option (Unit × Sx)) (x2 : Int32) (σ6 : Sx) : Option (Unit × Sx) := aIx 108 20 (((4 : Int32) * x1) + v1) σ6 (fun v3 => (if v3 ≤ x2 then j168 σ6 else nmx ((x1 + (1 : Int32))) (fun v4 => nmx (fun (σ7 : Sx) => r41 (x2 + (1 : Int32)) σ7) (fun (j162 : Sx → Option (Unit × Sx)) => lpx1 (B_X10_findMet_L61 N a0 v2 x2 j162) N v4 σ6))))
def B_X10_findMet_L13 (N : Nat) (a0 : Int32) (r13 : Int32 → Sx → Option (Unit × Sx)) (x1 : Int32) (σ3 : Sx) : Option (Unit × Sx) := (if (siI σ3 103 1) ≤ x1 then some ((), σ3) else clx (F_X10_wayIn a0 x1 σ3) (fun v1 σ4 => nmx ((((32 : Int32) * x1) + ((8 : Int32) * v1))) (fun v2 => nmx (fun (σ5 : Sx) => r13 (x1 + (1 : Int32)) σ5) (fun (j168 : Sx → Option (Unit × Sx)) => lpx1 (B_X10_findMet_L41 N a0 x1 v1 v2 j168) N (0 : Int32) σ4))))
def F_X10_findMet (N : Nat) (a0 : Int32) (σ0 : Sx) : Option (Unit × Sx) := pIx 103 39 (0 : Int32) σ0 (fun σ1 => pIx 103 40 (-2 : Int32) σ1 (fun σ2 => lpx1 (B_X10_findMet_L13 N a0) N (0 : Int32) σ2))
set_option maxRecDepth 100000 in
set_option maxHeartbeats 4000000 in
theorem mc_X10_findMet {D : va_G} {al : Nat → Nat} {cA : Nat → ClassId} {ba : Nat} (N : Nat) (a0 : Int32) : MCx D al cA ba yX10_findMet cX10_findMet 7 none 1 25 rvU [.ref (al 103), .int a0] (F_X10_findMet N a0) := by
  refine MCx_of (by decide +kernel) (Nat.le_of_ble_eq_true rfl) ?_
  intro p l e s m args below meth c σ0 g hrt
  unfold F_X10_findMet
  refine x_lv (lv' := [(0, .ref (al 103)), (1, .int a0)]) [0, 1] rfl ?_
  refine x_aload_n (pc := 0) g rfl 0 rfl dX10_findMet_0 ?_
  refine x_iconst (pc := 1) (v := (0 : Int32)) g (by decide) dX10_findMet_1 ?_
  refine x_putI (pc := 2) g sh_103 fl_X10_317 rfl dX10_findMet_2 (fun σ1 => ?_)
  refine x_aload_n (pc := 5) g rfl 0 rfl dX10_findMet_5 ?_
  refine x_bipush (pc := 6) (v := (-2 : Int32)) g (by decide) dX10_findMet_6 ?_
  refine x_putI (pc := 8) g sh_103 fl_X10_320 rfl dX10_findMet_8 (fun σ2 => ?_)
  refine x_iconst (pc := 11) (v := (0 : Int32)) g (by decide) dX10_findMet_11 ?_
  refine x_istore_n (pc := 12) (lv' := [(2, .int (0 : Int32)), (0, .ref (al 103)), (1, .int a0)]) g rfl (by decide) rfl dX10_findMet_12 ?_
  refine x_lv [1, 2, 0] rfl ?_
  refine lpx1_ind (fun (x1 : Int32) (σ3 : Sx) (K : Option (Unit × Sx)) => XTx p l e { frames := 1, cells := 0, slots := 0, locals := 25 } s m args below meth c D al cA ba 7 (MQx rvU D al cA ba below args s) 0 0 13 [(0, .ref (al 103)), (1, .int a0), (2, .int x1)] [] σ3 (K)) (fun _ _ => x_no) (fun r13 hr13 x1 σ3 => ?_) N (0 : Int32) σ2
  show XTx p l e { frames := 1, cells := 0, slots := 0, locals := 25 } s m args below meth c D al cA ba 7 (MQx rvU D al cA ba below args s) 0 0 13 [(0, .ref (al 103)), (1, .int a0), (2, .int x1)] [] σ3 (B_X10_findMet_L13 N a0 r13 x1 σ3)
  unfold B_X10_findMet_L13
  refine x_iload_n (pc := 13) g rfl 2 rfl dX10_findMet_13 ?_
  refine x_aload_n (pc := 14) g rfl 0 rfl dX10_findMet_14 ?_
  refine x_getI (pc := 15) g sh_103 fl_X10_128 rfl dX10_findMet_15 ?_
  refine x_icmp_ge (pc := 18) (tgt := 174) g (by decide) dX10_findMet_18 ?_ ?_
  · exact x_return (pc := 174) g hrt dX10_findMet_174
  · refine x_iload_n (pc := 21) g rfl 1 rfl dX10_findMet_21 ?_
    refine x_iload_n (pc := 22) g rfl 2 rfl dX10_findMet_22 ?_
    refine x_callSI (pc := 23) (As := [.int a0, .int x1]) g (mc_X10_wayIn a0 x1) cw_X10_wayIn lk_X10_259 rfl ⟨Nat.le_of_ble_eq_true rfl, Nat.le_of_ble_eq_true rfl⟩ rfl (Nat.le_of_ble_eq_true rfl) dX10_findMet_23 (fun v1 σ4 => ?_)
    refine x_istore_n (pc := 26) (lv' := [(3, .int v1), (0, .ref (al 103)), (1, .int a0), (2, .int x1)]) g rfl (by decide) rfl dX10_findMet_26 ?_
    refine x_bipush (pc := 27) (v := (32 : Int32)) g (by decide) dX10_findMet_27 ?_
    refine x_iload_n (pc := 29) g rfl 3 rfl dX10_findMet_29 ?_
    refine x_imul (pc := 30) g dX10_findMet_30 ?_
    refine x_bipush (pc := 31) (v := (8 : Int32)) g (by decide) dX10_findMet_31 ?_
    refine x_iload_n (pc := 33) g rfl 0 rfl dX10_findMet_33 ?_
    refine x_imul (pc := 34) g dX10_findMet_34 ?_
    refine x_iadd (pc := 35) g dX10_findMet_35 ?_
    refine x_nm (fun v2 => ?_)
    refine x_istore (pc := 36) (lv' := [(4, .int v2), (3, .int v1), (0, .ref (al 103)), (1, .int a0), (2, .int x1)]) g (by decide) rfl dX10_findMet_36 ?_
    refine x_iconst (pc := 38) (v := (0 : Int32)) g (by decide) dX10_findMet_38 ?_
    refine x_istore (pc := 39) (lv' := [(5, .int (0 : Int32)), (4, .int v2), (3, .int v1), (0, .ref (al 103)), (1, .int a0), (2, .int x1)]) g (by decide) rfl dX10_findMet_39 ?_
    refine x_jn (fun (j168 : Sx → Option (Unit × Sx)) => ∀ (σ5 : Sx), XTx p l e { frames := 1, cells := 0, slots := 0, locals := 25 } s m args below meth c D al cA ba 7 (MQx rvU D al cA ba below args s) 0 0 168 [(0, .ref (al 103)), (1, .int a0), (2, .int x1)] [] σ5 (j168 σ5)) (fun σ5 => ?_) (fun j168 hj168 => ?_)
    · refine x_iinc (pc := 168) (v := (x1 + (1 : Int32))) (lv' := [(2, .int (x1 + (1 : Int32))), (0, .ref (al 103)), (1, .int a0)]) g 2 rfl (by rfl) (by decide) rfl dX10_findMet_168 ?_
      refine x_goto (pc := 171) (tgt := 13) g (by decide) dX10_findMet_171 ?_
      refine x_lv [1, 2, 0] rfl ?_
      exact hr13 (x1 + (1 : Int32)) σ5
    · refine x_lv [3, 4, 5, 2, 1, 0] rfl ?_
      refine lpx1_ind (fun (x2 : Int32) (σ6 : Sx) (K : Option (Unit × Sx)) => XTx p l e { frames := 1, cells := 0, slots := 0, locals := 25 } s m args below meth c D al cA ba 7 (MQx rvU D al cA ba below args s) 0 0 41 [(0, .ref (al 103)), (1, .int a0), (2, .int x1), (3, .int v1), (4, .int v2), (5, .int x2)] [] σ6 (K)) (fun _ _ => x_no) (fun r41 hr41 x2 σ6 => ?_) N (0 : Int32) σ4
      show XTx p l e { frames := 1, cells := 0, slots := 0, locals := 25 } s m args below meth c D al cA ba 7 (MQx rvU D al cA ba below args s) 0 0 41 [(0, .ref (al 103)), (1, .int a0), (2, .int x1), (3, .int v1), (4, .int v2), (5, .int x2)] [] σ6 (B_X10_findMet_L41 N a0 x1 v1 v2 j168 r41 x2 σ6)
      unfold B_X10_findMet_L41
      refine x_iload (pc := 41) g 5 rfl dX10_findMet_41 ?_
      refine x_aload_n (pc := 43) g rfl 0 rfl dX10_findMet_43 ?_
      refine x_getR (pc := 44) g sh_103 fl_X10_22 rfl dX10_findMet_44 ?_
      refine x_iconst (pc := 47) (v := (4 : Int32)) g (by decide) dX10_findMet_47 ?_
      refine x_iload_n (pc := 48) g rfl 2 rfl dX10_findMet_48 ?_
      refine x_imul (pc := 49) g dX10_findMet_49 ?_
      refine x_iload_n (pc := 50) g rfl 3 rfl dX10_findMet_50 ?_
      refine x_iadd (pc := 51) g dX10_findMet_51 ?_
      refine x_iald (pc := 52) g sh_108 (by decide) dX10_findMet_52 (fun v3 => ?_)
      refine x_icmp_ge (pc := 53) (tgt := 168) g (by decide) dX10_findMet_53 ?_ ?_
      · refine x_lv [0, 1, 2] rfl ?_
        exact hj168 σ6
      · refine x_iload_n (pc := 56) g rfl 2 rfl dX10_findMet_56 ?_
        refine x_iconst (pc := 57) (v := (1 : Int32)) g (by decide) dX10_findMet_57 ?_
        refine x_iadd (pc := 58) g dX10_findMet_58 ?_
        refine x_nm (fun v4 => ?_)
        refine x_istore (pc := 59) (lv' := [(6, .int v4), (0, .ref (al 103)), (1, .int a0), (2, .int x1), (3, .int v1), (4, .int v2), (5, .int x2)]) g (by decide) rfl dX10_findMet_59 ?_
        refine x_jn (fun (j162 : Sx → Option (Unit × Sx)) => ∀ (σ7 : Sx), XTx p l e { frames := 1, cells := 0, slots := 0, locals := 25 } s m args below meth c D al cA ba 7 (MQx rvU D al cA ba below args s) 0 0 162 [(0, .ref (al 103)), (1, .int a0), (2, .int x1), (3, .int v1), (4, .int v2), (5, .int x2)] [] σ7 (j162 σ7)) (fun σ7 => ?_) (fun j162 hj162 => ?_)
        · refine x_iinc (pc := 162) (v := (x2 + (1 : Int32))) (lv' := [(5, .int (x2 + (1 : Int32))), (0, .ref (al 103)), (1, .int a0), (2, .int x1), (3, .int v1), (4, .int v2)]) g 5 rfl (by rfl) (by decide) rfl dX10_findMet_162 ?_
          refine x_goto (pc := 165) (tgt := 41) g (by decide) dX10_findMet_165 ?_
          refine x_lv [1, 2, 3, 4, 5, 0] rfl ?_
          exact hr41 (x2 + (1 : Int32)) σ7
        · refine x_lv [1, 2, 3, 4, 5, 6, 0] rfl ?_
          refine lpx1_ind (fun (x3 : Int32) (σ8 : Sx) (K : Option (Unit × Sx)) => XTx p l e { frames := 1, cells := 0, slots := 0, locals := 25 } s m args below meth c D al cA ba 7 (MQx rvU D al cA ba below args s) 0 0 61 [(0, .ref (al 103)), (1, .int a0), (2, .int x1), (3, .int v1), (4, .int v2), (5, .int x2), (6, .int x3)] [] σ8 (K)) (fun _ _ => x_no) (fun r61 hr61 x3 σ8 => ?_) N v4 σ6
          show XTx p l e { frames := 1, cells := 0, slots := 0, locals := 25 } s m args below meth c D al cA ba 7 (MQx rvU D al cA ba below args s) 0 0 61 [(0, .ref (al 103)), (1, .int a0), (2, .int x1), (3, .int v1), (4, .int v2), (5, .int x2), (6, .int x3)] [] σ8 (B_X10_findMet_L61 N a0 v2 x2 j162 r61 x3 σ8)
          unfold B_X10_findMet_L61
          refine x_iload (pc := 61) g 6 rfl dX10_findMet_61 ?_
          refine x_aload_n (pc := 63) g rfl 0 rfl dX10_findMet_63 ?_
          refine x_getI (pc := 64) g sh_103 fl_X10_128 rfl dX10_findMet_64 ?_
          refine x_icmp_ge (pc := 67) (tgt := 162) g (by decide) dX10_findMet_67 ?_ ?_
          · refine x_lv [0, 1, 2, 3, 4, 5] rfl ?_
            exact hj162 σ8
          · refine x_aload_n (pc := 70) g rfl 0 rfl dX10_findMet_70 ?_
            refine x_iload (pc := 71) g 6 rfl dX10_findMet_71 ?_
            refine x_iload_n (pc := 73) g rfl 1 rfl dX10_findMet_73 ?_
            refine x_iload (pc := 74) g 6 rfl dX10_findMet_74 ?_
            refine x_callSI (pc := 76) (As := [.int a0, .int x3]) g (mc_X10_wayIn a0 x3) cw_X10_wayIn lk_X10_259 rfl ⟨Nat.le_of_ble_eq_true rfl, Nat.le_of_ble_eq_true rfl⟩ rfl (Nat.le_of_ble_eq_true rfl) dX10_findMet_76 (fun v5 σ9 => ?_)
            refine x_aload_n (pc := 79) g rfl 0 rfl dX10_findMet_79 ?_
            refine x_getR (pc := 80) g sh_103 fl_X10_69 rfl dX10_findMet_80 ?_
            refine x_iload (pc := 83) g 4 rfl dX10_findMet_83 ?_
            refine x_iload (pc := 85) g 5 rfl dX10_findMet_85 ?_
            refine x_iadd (pc := 87) g dX10_findMet_87 ?_
            refine x_iald (pc := 88) g sh_123 (by decide) dX10_findMet_88 (fun v6 => ?_)
            refine x_callVI (pc := 89) (As := [.int x3, .int v5, .int v6]) g sh_103 (mc_X10_placeIn N x3 v5 v6) cw_X10_placeIn lk_X10_311 rfl ⟨Nat.le_of_ble_eq_true rfl, Nat.le_of_ble_eq_true rfl⟩ rfl (Nat.le_of_ble_eq_true rfl) dX10_findMet_89 (fun v7 σ10 => ?_)
            refine x_aload_n (pc := 92) g rfl 0 rfl dX10_findMet_92 ?_
            refine x_getR (pc := 93) g sh_103 fl_X10_25 rfl dX10_findMet_93 ?_
            refine x_iload (pc := 96) g 4 rfl dX10_findMet_96 ?_
            refine x_iload (pc := 98) g 5 rfl dX10_findMet_98 ?_
            refine x_iadd (pc := 100) g dX10_findMet_100 ?_
            refine x_iald (pc := 101) g sh_109 (by decide) dX10_findMet_101 (fun v8 => ?_)
            refine x_jn (fun (j156 : Sx → Option (Unit × Sx)) => ∀ (σ11 : Sx), XTx p l e { frames := 1, cells := 0, slots := 0, locals := 25 } s m args below meth c D al cA ba 7 (MQx rvU D al cA ba below args s) 0 0 156 [(0, .ref (al 103)), (1, .int a0), (2, .int x1), (3, .int v1), (4, .int v2), (5, .int x2), (6, .int x3)] [] σ11 (j156 σ11)) (fun σ11 => ?_) (fun j156 hj156 => ?_)
            · refine x_iinc (pc := 156) (v := (x3 + (1 : Int32))) (lv' := [(6, .int (x3 + (1 : Int32))), (0, .ref (al 103)), (1, .int a0), (2, .int x1), (3, .int v1), (4, .int v2), (5, .int x2)]) g 6 rfl (by rfl) (by decide) rfl dX10_findMet_156 ?_
              refine x_goto (pc := 159) (tgt := 61) g (by decide) dX10_findMet_159 ?_
              refine x_lv [1, 2, 3, 4, 5, 6, 0] rfl ?_
              exact hr61 (x3 + (1 : Int32)) σ11
            · refine x_icmp_eq (pc := 102) (tgt := 108) g (by decide) dX10_findMet_102 ?_ ?_
              · refine x_aload_n (pc := 108) g rfl 0 rfl dX10_findMet_108 ?_
                refine x_dup (pc := 109) g rfl dX10_findMet_109 ?_
                refine x_getI (pc := 110) g sh_103 fl_X10_317 rfl dX10_findMet_110 ?_
                refine x_iconst (pc := 113) (v := (1 : Int32)) g (by decide) dX10_findMet_113 ?_
                refine x_iadd (pc := 114) g dX10_findMet_114 ?_
                refine x_putI (pc := 115) g sh_103 fl_X10_317 rfl dX10_findMet_115 (fun σ12 => ?_)
                refine x_aload_n (pc := 118) g rfl 0 rfl dX10_findMet_118 ?_
                refine x_getI (pc := 119) g sh_103 fl_X10_320 rfl dX10_findMet_119 ?_
                refine x_jn (fun (j142 : Sx → Option (Unit × Sx)) => ∀ (σ13 : Sx), XTx p l e { frames := 1, cells := 0, slots := 0, locals := 25 } s m args below meth c D al cA ba 7 (MQx rvU D al cA ba below args s) 0 0 142 [(0, .ref (al 103)), (1, .int a0), (2, .int x1), (3, .int v1), (4, .int v2), (5, .int x2), (6, .int x3)] [] σ13 (j142 σ13)) (fun σ13 => ?_) (fun j142 hj142 => ?_)
                · refine x_aload_n (pc := 142) g rfl 0 rfl dX10_findMet_142 ?_
                  refine x_aload_n (pc := 143) g rfl 0 rfl dX10_findMet_143 ?_
                  refine x_getR (pc := 144) g sh_103 fl_X10_69 rfl dX10_findMet_144 ?_
                  refine x_iload (pc := 147) g 4 rfl dX10_findMet_147 ?_
                  refine x_iload (pc := 149) g 5 rfl dX10_findMet_149 ?_
                  refine x_iadd (pc := 151) g dX10_findMet_151 ?_
                  refine x_iald (pc := 152) g sh_123 (by decide) dX10_findMet_152 (fun v9 => ?_)
                  refine x_putI (pc := 153) g sh_103 fl_X10_320 rfl dX10_findMet_153 (fun σ14 => ?_)
                  exact hj156 σ14
                · refine x_if_lt (pc := 122) (tgt := 142) g (by decide) dX10_findMet_122 ?_ ?_
                  · exact hj142 σ12
                  · refine x_aload_n (pc := 125) g rfl 0 rfl dX10_findMet_125 ?_
                    refine x_getR (pc := 126) g sh_103 fl_X10_69 rfl dX10_findMet_126 ?_
                    refine x_iload (pc := 129) g 4 rfl dX10_findMet_129 ?_
                    refine x_iload (pc := 131) g 5 rfl dX10_findMet_131 ?_
                    refine x_iadd (pc := 133) g dX10_findMet_133 ?_
                    refine x_iald (pc := 134) g sh_123 (by decide) dX10_findMet_134 (fun v10 => ?_)
                    refine x_aload_n (pc := 135) g rfl 0 rfl dX10_findMet_135 ?_
                    refine x_getI (pc := 136) g sh_103 fl_X10_320 rfl dX10_findMet_136 ?_
                    refine x_icmp_ge (pc := 139) (tgt := 156) g (by decide) dX10_findMet_139 ?_ ?_
                    · exact hj156 σ12
                    · exact hj142 σ12
              · refine x_goto (pc := 105) (tgt := 156) g (by decide) dX10_findMet_105 ?_
                exact hj156 σ10
def F_X10_meet (N : Nat) (a0 : Int32) (a1 : Int32) (σ0 : Sx) : Option (Int32 × Sx) := clx (F_X10_isDay N a0 σ0) (fun v1 σ1 => (if v1 = 0 then some ((-1 : Int32), σ1) else clx (F_X10_in a1 (0 : Int32) (1 : Int32) σ1) (fun v2 σ2 => (if v2 = 0 then some ((-1 : Int32), σ2) else clx (F_X10_findMinutes N  σ2) (fun _ σ3 => clx (F_X10_findMet N a0 σ3) (fun _ σ4 => (if a1 = 0 then some ((siI σ4 103 39), σ4) else some ((siI σ4 103 40), σ4))))))))
set_option maxRecDepth 100000 in
set_option maxHeartbeats 4000000 in
theorem mc_X10_meet {D : va_G} {al : Nat → Nat} {cA : Nat → ClassId} {ba : Nat} (N : Nat) (a0 : Int32) (a1 : Int32) : MCx D al cA ba yX10_meet cX10_meet 3 (some .int) 4 87 rvI [.ref (al 103), .int a0, .int a1] (F_X10_meet N a0 a1) := by
  refine MCx_of (by decide +kernel) (Nat.le_of_ble_eq_true rfl) ?_
  intro p l e s m args below meth c σ0 g hrt
  unfold F_X10_meet
  refine x_lv (lv' := [(0, .ref (al 103)), (1, .int a0), (2, .int a1)]) [0, 1, 2] rfl ?_
  refine x_aload_n (pc := 0) g rfl 0 rfl dX10_meet_0 ?_
  refine x_iload_n (pc := 1) g rfl 1 rfl dX10_meet_1 ?_
  refine x_callVI (pc := 2) (As := [.int a0]) g sh_103 (mc_X10_isDay N a0) cw_X10_isDay lk_X10_290 rfl ⟨Nat.le_of_ble_eq_true rfl, Nat.le_of_ble_eq_true rfl⟩ rfl (Nat.le_of_ble_eq_true rfl) dX10_meet_2 (fun v1 σ1 => ?_)
  refine x_if_eq (pc := 5) (tgt := 17) g (by decide) dX10_meet_5 ?_ ?_
  · refine x_iconst (pc := 17) (v := (-1 : Int32)) g (by decide) dX10_meet_17 ?_
    exact x_ireturn (pc := 18) g hrt dX10_meet_18
  · refine x_iload_n (pc := 8) g rfl 2 rfl dX10_meet_8 ?_
    refine x_iconst (pc := 9) (v := (0 : Int32)) g (by decide) dX10_meet_9 ?_
    refine x_iconst (pc := 10) (v := (1 : Int32)) g (by decide) dX10_meet_10 ?_
    refine x_callSI (pc := 11) (As := [.int a1, .int (0 : Int32), .int (1 : Int32)]) g (mc_X10_in a1 (0 : Int32) (1 : Int32)) cw_X10_in lk_X10_131 rfl ⟨Nat.le_of_ble_eq_true rfl, Nat.le_of_ble_eq_true rfl⟩ rfl (Nat.le_of_ble_eq_true rfl) dX10_meet_11 (fun v2 σ2 => ?_)
    refine x_if_ne (pc := 14) (tgt := 19) g (by decide) dX10_meet_14 ?_ ?_
    · refine x_aload_n (pc := 19) g rfl 0 rfl dX10_meet_19 ?_
      refine x_callVU (pc := 20) (As := []) g sh_103 (mc_X10_findMinutes N ) cw_X10_findMinutes lk_X10_271 rfl ⟨Nat.le_of_ble_eq_true rfl, Nat.le_of_ble_eq_true rfl⟩ rfl (Nat.le_of_ble_eq_true rfl) dX10_meet_20 (fun _ σ3 => ?_)
      refine x_aload_n (pc := 23) g rfl 0 rfl dX10_meet_23 ?_
      refine x_iload_n (pc := 24) g rfl 1 rfl dX10_meet_24 ?_
      refine x_callVU (pc := 25) (As := [.int a0]) g sh_103 (mc_X10_findMet N a0) cw_X10_findMet lk_X10_323 rfl ⟨Nat.le_of_ble_eq_true rfl, Nat.le_of_ble_eq_true rfl⟩ rfl (Nat.le_of_ble_eq_true rfl) dX10_meet_25 (fun _ σ4 => ?_)
      refine x_iload_n (pc := 28) g rfl 2 rfl dX10_meet_28 ?_
      refine x_if_ne (pc := 29) (tgt := 39) g (by decide) dX10_meet_29 ?_ ?_
      · refine x_aload_n (pc := 39) g rfl 0 rfl dX10_meet_39 ?_
        refine x_getI (pc := 40) g sh_103 fl_X10_320 rfl dX10_meet_40 ?_
        exact x_ireturn (pc := 43) g hrt dX10_meet_43
      · refine x_aload_n (pc := 32) g rfl 0 rfl dX10_meet_32 ?_
        refine x_getI (pc := 33) g sh_103 fl_X10_317 rfl dX10_meet_33 ?_
        refine x_goto (pc := 36) (tgt := 43) g (by decide) dX10_meet_36 ?_
        exact x_ireturn (pc := 43) g hrt dX10_meet_43
    · refine x_iconst (pc := 17) (v := (-1 : Int32)) g (by decide) dX10_meet_17 ?_
      exact x_ireturn (pc := 18) g hrt dX10_meet_18
def B_X10_sure_L55 (N : Nat) (a0 : Int32) (a1 : Int32) (v5 : Int32) (j94 : Sx → Option (Int32 × Sx)) (r55 : Int32 → Sx → Option (Int32 × Sx)) (x1 : Int32) (σ7 : Sx) : Option (Int32 × Sx) := (if (siI σ7 103 38) ≤ x1 then j94 σ7 else aIx 126 1024 x1 σ7 (fun v6 => clx (F_X10_wayIn v6 a0 σ7) (fun v7 σ8 => clx (F_X10_placeIn N a0 v7 a1 σ8) (fun v8 σ9 => (if v8 = v5 then r55 (x1 + (1 : Int32)) σ9 else some ((-3 : Int32), σ9))))))
def F_X10_sure (N : Nat) (a0 : Int32) (a1 : Int32) (σ0 : Sx) : Option (Int32 × Sx) := clx (F_X10_isWalker a0 σ0) (fun v1 σ1 => (if v1 = 0 then some ((-1 : Int32), σ1) else clx (F_X10_in a1 (0 : Int32) (999 : Int32) σ1) (fun v2 σ2 => (if v2 = 0 then some ((-1 : Int32), σ2) else clx (F_X10_findHeld N  σ2) (fun _ σ3 => (if (siI σ3 103 38) = 0 then some ((-2 : Int32), σ3) else aIx 126 1024 (0 : Int32) σ3 (fun v3 => clx (F_X10_wayIn v3 a0 σ3) (fun v4 σ4 => clx (F_X10_placeIn N a0 v4 a1 σ4) (fun v5 σ5 => nmx (fun (σ6 : Sx) => (if 0 ≤ v5 then some (v5, σ6) else some ((-3 : Int32), σ6))) (fun (j94 : Sx → Option (Int32 × Sx)) => lpx1 (B_X10_sure_L55 N a0 a1 v5 j94) N (1 : Int32) σ5))))))))))
set_option maxRecDepth 100000 in
set_option maxHeartbeats 4000000 in
theorem mc_X10_sure {D : va_G} {al : Nat → Nat} {cA : Nat → ClassId} {ba : Nat} (N : Nat) (a0 : Int32) (a1 : Int32) : MCx D al cA ba yX10_sure cX10_sure 5 (some .int) 6 142 rvI [.ref (al 103), .int a0, .int a1] (F_X10_sure N a0 a1) := by
  refine MCx_of (by decide +kernel) (Nat.le_of_ble_eq_true rfl) ?_
  intro p l e s m args below meth c σ0 g hrt
  unfold F_X10_sure
  refine x_lv (lv' := [(0, .ref (al 103)), (1, .int a0), (2, .int a1)]) [0, 1, 2] rfl ?_
  refine x_aload_n (pc := 0) g rfl 0 rfl dX10_sure_0 ?_
  refine x_iload_n (pc := 1) g rfl 1 rfl dX10_sure_1 ?_
  refine x_callVI (pc := 2) (As := [.int a0]) g sh_103 (mc_X10_isWalker a0) cw_X10_isWalker lk_X10_157 rfl ⟨Nat.le_of_ble_eq_true rfl, Nat.le_of_ble_eq_true rfl⟩ rfl (Nat.le_of_ble_eq_true rfl) dX10_sure_2 (fun v1 σ1 => ?_)
  refine x_if_eq (pc := 5) (tgt := 19) g (by decide) dX10_sure_5 ?_ ?_
  · refine x_iconst (pc := 19) (v := (-1 : Int32)) g (by decide) dX10_sure_19 ?_
    exact x_ireturn (pc := 20) g hrt dX10_sure_20
  · refine x_iload_n (pc := 8) g rfl 2 rfl dX10_sure_8 ?_
    refine x_iconst (pc := 9) (v := (0 : Int32)) g (by decide) dX10_sure_9 ?_
    refine x_sipush (pc := 10) (v := (999 : Int32)) g (by decide) dX10_sure_10 ?_
    refine x_callSI (pc := 13) (As := [.int a1, .int (0 : Int32), .int (999 : Int32)]) g (mc_X10_in a1 (0 : Int32) (999 : Int32)) cw_X10_in lk_X10_131 rfl ⟨Nat.le_of_ble_eq_true rfl, Nat.le_of_ble_eq_true rfl⟩ rfl (Nat.le_of_ble_eq_true rfl) dX10_sure_13 (fun v2 σ2 => ?_)
    refine x_if_ne (pc := 16) (tgt := 21) g (by decide) dX10_sure_16 ?_ ?_
    · refine x_aload_n (pc := 21) g rfl 0 rfl dX10_sure_21 ?_
      refine x_callVU (pc := 22) (As := []) g sh_103 (mc_X10_findHeld N ) cw_X10_findHeld lk_X10_305 rfl ⟨Nat.le_of_ble_eq_true rfl, Nat.le_of_ble_eq_true rfl⟩ rfl (Nat.le_of_ble_eq_true rfl) dX10_sure_22 (fun _ σ3 => ?_)
      refine x_aload_n (pc := 25) g rfl 0 rfl dX10_sure_25 ?_
      refine x_getI (pc := 26) g sh_103 fl_X10_299 rfl dX10_sure_26 ?_
      refine x_if_ne (pc := 29) (tgt := 35) g (by decide) dX10_sure_29 ?_ ?_
      · refine x_aload_n (pc := 35) g rfl 0 rfl dX10_sure_35 ?_
        refine x_iload_n (pc := 36) g rfl 1 rfl dX10_sure_36 ?_
        refine x_aload_n (pc := 37) g rfl 0 rfl dX10_sure_37 ?_
        refine x_getR (pc := 38) g sh_103 fl_X10_85 rfl dX10_sure_38 ?_
        refine x_iconst (pc := 41) (v := (0 : Int32)) g (by decide) dX10_sure_41 ?_
        refine x_iald (pc := 42) g sh_126 (by decide) dX10_sure_42 (fun v3 => ?_)
        refine x_iload_n (pc := 43) g rfl 1 rfl dX10_sure_43 ?_
        refine x_callSI (pc := 44) (As := [.int v3, .int a0]) g (mc_X10_wayIn v3 a0) cw_X10_wayIn lk_X10_259 rfl ⟨Nat.le_of_ble_eq_true rfl, Nat.le_of_ble_eq_true rfl⟩ rfl (Nat.le_of_ble_eq_true rfl) dX10_sure_44 (fun v4 σ4 => ?_)
        refine x_iload_n (pc := 47) g rfl 2 rfl dX10_sure_47 ?_
        refine x_callVI (pc := 48) (As := [.int a0, .int v4, .int a1]) g sh_103 (mc_X10_placeIn N a0 v4 a1) cw_X10_placeIn lk_X10_311 rfl ⟨Nat.le_of_ble_eq_true rfl, Nat.le_of_ble_eq_true rfl⟩ rfl (Nat.le_of_ble_eq_true rfl) dX10_sure_48 (fun v5 σ5 => ?_)
        refine x_istore_n (pc := 51) (lv' := [(3, .int v5), (0, .ref (al 103)), (1, .int a0), (2, .int a1)]) g rfl (by decide) rfl dX10_sure_51 ?_
        refine x_iconst (pc := 52) (v := (1 : Int32)) g (by decide) dX10_sure_52 ?_
        refine x_istore (pc := 53) (lv' := [(4, .int (1 : Int32)), (3, .int v5), (0, .ref (al 103)), (1, .int a0), (2, .int a1)]) g (by decide) rfl dX10_sure_53 ?_
        refine x_jn (fun (j94 : Sx → Option (Int32 × Sx)) => ∀ (σ6 : Sx), XTx p l e { frames := 6, cells := 0, slots := 0, locals := 142 } s m args below meth c D al cA ba 5 (MQx rvI D al cA ba below args s) 0 0 94 [(3, .int v5)] [] σ6 (j94 σ6)) (fun σ6 => ?_) (fun j94 hj94 => ?_)
        · refine x_iload_n (pc := 94) g rfl 0 rfl dX10_sure_94 ?_
          refine x_if_ge (pc := 95) (tgt := 103) g (by decide) dX10_sure_95 ?_ ?_
          · refine x_iload_n (pc := 103) g rfl 0 rfl dX10_sure_103 ?_
            exact x_ireturn (pc := 104) g hrt dX10_sure_104
          · refine x_bipush (pc := 98) (v := (-3 : Int32)) g (by decide) dX10_sure_98 ?_
            refine x_goto (pc := 100) (tgt := 104) g (by decide) dX10_sure_100 ?_
            exact x_ireturn (pc := 104) g hrt dX10_sure_104
        · refine x_lv [2, 3, 4, 1, 0] rfl ?_
          refine lpx1_ind (fun (x1 : Int32) (σ7 : Sx) (K : Option (Int32 × Sx)) => XTx p l e { frames := 6, cells := 0, slots := 0, locals := 142 } s m args below meth c D al cA ba 5 (MQx rvI D al cA ba below args s) 0 0 55 [(0, .ref (al 103)), (1, .int a0), (2, .int a1), (3, .int v5), (4, .int x1)] [] σ7 (K)) (fun _ _ => x_no) (fun r55 hr55 x1 σ7 => ?_) N (1 : Int32) σ5
          show XTx p l e { frames := 6, cells := 0, slots := 0, locals := 142 } s m args below meth c D al cA ba 5 (MQx rvI D al cA ba below args s) 0 0 55 [(0, .ref (al 103)), (1, .int a0), (2, .int a1), (3, .int v5), (4, .int x1)] [] σ7 (B_X10_sure_L55 N a0 a1 v5 j94 r55 x1 σ7)
          unfold B_X10_sure_L55
          refine x_iload (pc := 55) g 4 rfl dX10_sure_55 ?_
          refine x_aload_n (pc := 57) g rfl 0 rfl dX10_sure_57 ?_
          refine x_getI (pc := 58) g sh_103 fl_X10_299 rfl dX10_sure_58 ?_
          refine x_icmp_ge (pc := 61) (tgt := 94) g (by decide) dX10_sure_61 ?_ ?_
          · refine x_lv [3] rfl ?_
            exact hj94 σ7
          · refine x_aload_n (pc := 64) g rfl 0 rfl dX10_sure_64 ?_
            refine x_iload_n (pc := 65) g rfl 1 rfl dX10_sure_65 ?_
            refine x_aload_n (pc := 66) g rfl 0 rfl dX10_sure_66 ?_
            refine x_getR (pc := 67) g sh_103 fl_X10_85 rfl dX10_sure_67 ?_
            refine x_iload (pc := 70) g 4 rfl dX10_sure_70 ?_
            refine x_iald (pc := 72) g sh_126 (by decide) dX10_sure_72 (fun v6 => ?_)
            refine x_iload_n (pc := 73) g rfl 1 rfl dX10_sure_73 ?_
            refine x_callSI (pc := 74) (As := [.int v6, .int a0]) g (mc_X10_wayIn v6 a0) cw_X10_wayIn lk_X10_259 rfl ⟨Nat.le_of_ble_eq_true rfl, Nat.le_of_ble_eq_true rfl⟩ rfl (Nat.le_of_ble_eq_true rfl) dX10_sure_74 (fun v7 σ8 => ?_)
            refine x_iload_n (pc := 77) g rfl 2 rfl dX10_sure_77 ?_
            refine x_callVI (pc := 78) (As := [.int a0, .int v7, .int a1]) g sh_103 (mc_X10_placeIn N a0 v7 a1) cw_X10_placeIn lk_X10_311 rfl ⟨Nat.le_of_ble_eq_true rfl, Nat.le_of_ble_eq_true rfl⟩ rfl (Nat.le_of_ble_eq_true rfl) dX10_sure_78 (fun v8 σ9 => ?_)
            refine x_iload_n (pc := 81) g rfl 3 rfl dX10_sure_81 ?_
            refine x_icmp_eq (pc := 82) (tgt := 88) g (by decide) dX10_sure_82 ?_ ?_
            · refine x_iinc (pc := 88) (v := (x1 + (1 : Int32))) (lv' := [(4, .int (x1 + (1 : Int32))), (0, .ref (al 103)), (1, .int a0), (2, .int a1), (3, .int v5)]) g 4 rfl (by rfl) (by decide) rfl dX10_sure_88 ?_
              refine x_goto (pc := 91) (tgt := 55) g (by decide) dX10_sure_91 ?_
              refine x_lv [1, 2, 3, 4, 0] rfl ?_
              exact hr55 (x1 + (1 : Int32)) σ9
            · refine x_bipush (pc := 85) (v := (-3 : Int32)) g (by decide) dX10_sure_85 ?_
              exact x_ireturn (pc := 87) g hrt dX10_sure_87
      · refine x_bipush (pc := 32) (v := (-2 : Int32)) g (by decide) dX10_sure_32 ?_
        exact x_ireturn (pc := 34) g hrt dX10_sure_34
    · refine x_iconst (pc := 19) (v := (-1 : Int32)) g (by decide) dX10_sure_19 ?_
      exact x_ireturn (pc := 20) g hrt dX10_sure_20
def B_X10_nextOf_L4 (N : Nat) (a0 : Int32) (r4 : Int32 → Int32 → Sx → Option (Int32 × Sx)) (x1 : Int32) (x2 : Int32) (σ1 : Sx) : Option (Int32 × Sx) := (if (siI σ1 103 1) ≤ x2 then some (x1, σ1) else clx (F_X10_takesOn N a0 x2 σ1) (fun v1 σ2 => nmx ((x1 ||| (jshl v1 ((2 : Int32) * x2)))) (fun v2 => r4 v2 (x2 + (1 : Int32)) σ2)))
def F_X10_nextOf (N : Nat) (a0 : Int32) (σ0 : Sx) : Option (Int32 × Sx) := lpx2 (B_X10_nextOf_L4 N a0) N (0 : Int32) (0 : Int32) σ0
set_option maxRecDepth 100000 in
set_option maxHeartbeats 4000000 in
theorem mc_X10_nextOf {D : va_G} {al : Nat → Nat} {cA : Nat → ClassId} {ba : Nat} (N : Nat) (a0 : Int32) : MCx D al cA ba yX10_nextOf cX10_nextOf 4 (some .int) 2 45 rvI [.ref (al 103), .int a0] (F_X10_nextOf N a0) := by
  refine MCx_of (by decide +kernel) (Nat.le_of_ble_eq_true rfl) ?_
  intro p l e s m args below meth c σ0 g hrt
  unfold F_X10_nextOf
  refine x_lv (lv' := [(0, .ref (al 103)), (1, .int a0)]) [0, 1] rfl ?_
  refine x_iconst (pc := 0) (v := (0 : Int32)) g (by decide) dX10_nextOf_0 ?_
  refine x_istore_n (pc := 1) (lv' := [(2, .int (0 : Int32)), (0, .ref (al 103)), (1, .int a0)]) g rfl (by decide) rfl dX10_nextOf_1 ?_
  refine x_iconst (pc := 2) (v := (0 : Int32)) g (by decide) dX10_nextOf_2 ?_
  refine x_istore_n (pc := 3) (lv' := [(3, .int (0 : Int32)), (2, .int (0 : Int32)), (0, .ref (al 103)), (1, .int a0)]) g rfl (by decide) rfl dX10_nextOf_3 ?_
  refine x_lv [2, 3, 1, 0] rfl ?_
  refine lpx2_ind (fun (x1 : Int32) (x2 : Int32) (σ1 : Sx) (K : Option (Int32 × Sx)) => XTx p l e { frames := 2, cells := 0, slots := 0, locals := 45 } s m args below meth c D al cA ba 4 (MQx rvI D al cA ba below args s) 0 0 4 [(0, .ref (al 103)), (1, .int a0), (2, .int x1), (3, .int x2)] [] σ1 (K)) (fun _ _ _ => x_no) (fun r4 hr4 x1 x2 σ1 => ?_) N (0 : Int32) (0 : Int32) σ0
  show XTx p l e { frames := 2, cells := 0, slots := 0, locals := 45 } s m args below meth c D al cA ba 4 (MQx rvI D al cA ba below args s) 0 0 4 [(0, .ref (al 103)), (1, .int a0), (2, .int x1), (3, .int x2)] [] σ1 (B_X10_nextOf_L4 N a0 r4 x1 x2 σ1)
  unfold B_X10_nextOf_L4
  refine x_iload_n (pc := 4) g rfl 3 rfl dX10_nextOf_4 ?_
  refine x_aload_n (pc := 5) g rfl 0 rfl dX10_nextOf_5 ?_
  refine x_getI (pc := 6) g sh_103 fl_X10_128 rfl dX10_nextOf_6 ?_
  refine x_icmp_ge (pc := 9) (tgt := 31) g (by decide) dX10_nextOf_9 ?_ ?_
  · refine x_iload_n (pc := 31) g rfl 2 rfl dX10_nextOf_31 ?_
    exact x_ireturn (pc := 32) g hrt dX10_nextOf_32
  · refine x_iload_n (pc := 12) g rfl 2 rfl dX10_nextOf_12 ?_
    refine x_aload_n (pc := 13) g rfl 0 rfl dX10_nextOf_13 ?_
    refine x_iload_n (pc := 14) g rfl 1 rfl dX10_nextOf_14 ?_
    refine x_iload_n (pc := 15) g rfl 3 rfl dX10_nextOf_15 ?_
    refine x_callVI (pc := 16) (As := [.int a0, .int x2]) g sh_103 (mc_X10_takesOn N a0 x2) cw_X10_takesOn lk_X10_293 rfl ⟨Nat.le_of_ble_eq_true rfl, Nat.le_of_ble_eq_true rfl⟩ rfl (Nat.le_of_ble_eq_true rfl) dX10_nextOf_16 (fun v1 σ2 => ?_)
    refine x_iconst (pc := 19) (v := (2 : Int32)) g (by decide) dX10_nextOf_19 ?_
    refine x_iload_n (pc := 20) g rfl 3 rfl dX10_nextOf_20 ?_
    refine x_imul (pc := 21) g dX10_nextOf_21 ?_
    refine x_ishl (pc := 22) g dX10_nextOf_22 ?_
    refine x_ior (pc := 23) g dX10_nextOf_23 ?_
    refine x_nm (fun v2 => ?_)
    refine x_istore_n (pc := 24) (lv' := [(2, .int v2), (0, .ref (al 103)), (1, .int a0), (3, .int x2)]) g rfl (by decide) rfl dX10_nextOf_24 ?_
    refine x_iinc (pc := 25) (v := (x2 + (1 : Int32))) (lv' := [(3, .int (x2 + (1 : Int32))), (2, .int v2), (0, .ref (al 103)), (1, .int a0)]) g 3 rfl (by rfl) (by decide) rfl dX10_nextOf_25 ?_
    refine x_goto (pc := 28) (tgt := 4) g (by decide) dX10_nextOf_28 ?_
    refine x_lv [2, 3, 1, 0] rfl ?_
    exact hr4 v2 (x2 + (1 : Int32)) σ2
def B_X10_follow_L50 (N : Nat) (j79 : Int32 → Int32 → Sx → Option (Int32 × Sx)) (r50 : Int32 → Int32 → Sx → Option (Int32 × Sx)) (x3 : Int32) (x4 : Int32) (σ6 : Sx) : Option (Int32 × Sx) := aIx 127 1024 x3 σ6 (fun v4 => (if 0 ≤ v4 then j79 x3 x4 σ6 else sIx 127 1024 x3 x4 σ6 (fun σ7 => clx (F_X10_nextOf N x3 σ7) (fun v5 σ8 => r50 v5 (x4 + (1 : Int32)) σ8))))
def B_X10_follow_L25 (N : Nat) (j45 : Sx → Option (Int32 × Sx)) (r25 : Int32 → Sx → Option (Int32 × Sx)) (x5 : Int32) (σ9 : Sx) : Option (Int32 × Sx) := (if (1024 : Int32) ≤ x5 then j45 σ9 else sIx 127 1024 x5 (-1 : Int32) σ9 (fun σ10 => r25 (x5 + (1 : Int32)) σ10))
def F_X10_follow (N : Nat) (a0 : Int32) (a1 : Int32) (σ0 : Sx) : Option (Int32 × Sx) := clx (F_X10_isDay N a0 σ0) (fun v1 σ1 => (if v1 = 0 then some ((-1 : Int32), σ1) else clx (F_X10_in a1 (0 : Int32) (2 : Int32) σ1) (fun v2 σ2 => (if v2 = 0 then some ((-1 : Int32), σ2) else clx (F_X10_findSights N  σ2) (fun _ σ3 => nmx (fun (σ4 : Sx) => nmx (fun (x1 : Int32) (x2 : Int32) (σ5 : Sx) => (if a1 = 0 then some (x2, σ5) else (if a1 = (1 : Int32) then aIx 127 1024 x1 σ5 (fun v3 => some ((x2 - v3), σ5)) else some (x1, σ5)))) (fun (j79 : Int32 → Int32 → Sx → Option (Int32 × Sx)) => lpx2 (B_X10_follow_L50 N j79) N a0 (0 : Int32) σ4)) (fun (j45 : Sx → Option (Int32 × Sx)) => lpx1 (B_X10_follow_L25 N j45) N (0 : Int32) σ3))))))
set_option maxRecDepth 100000 in
set_option maxHeartbeats 4000000 in
theorem mc_X10_follow {D : va_G} {al : Nat → Nat} {cA : Nat → ClassId} {ba : Nat} (N : Nat) (a0 : Int32) (a1 : Int32) : MCx D al cA ba yX10_follow cX10_follow 5 (some .int) 5 121 rvI [.ref (al 103), .int a0, .int a1] (F_X10_follow N a0 a1) := by
  refine MCx_of (by decide +kernel) (Nat.le_of_ble_eq_true rfl) ?_
  intro p l e s m args below meth c σ0 g hrt
  unfold F_X10_follow
  refine x_lv (lv' := [(0, .ref (al 103)), (1, .int a0), (2, .int a1)]) [0, 1, 2] rfl ?_
  refine x_aload_n (pc := 0) g rfl 0 rfl dX10_follow_0 ?_
  refine x_iload_n (pc := 1) g rfl 1 rfl dX10_follow_1 ?_
  refine x_callVI (pc := 2) (As := [.int a0]) g sh_103 (mc_X10_isDay N a0) cw_X10_isDay lk_X10_290 rfl ⟨Nat.le_of_ble_eq_true rfl, Nat.le_of_ble_eq_true rfl⟩ rfl (Nat.le_of_ble_eq_true rfl) dX10_follow_2 (fun v1 σ1 => ?_)
  refine x_if_eq (pc := 5) (tgt := 17) g (by decide) dX10_follow_5 ?_ ?_
  · refine x_iconst (pc := 17) (v := (-1 : Int32)) g (by decide) dX10_follow_17 ?_
    exact x_ireturn (pc := 18) g hrt dX10_follow_18
  · refine x_iload_n (pc := 8) g rfl 2 rfl dX10_follow_8 ?_
    refine x_iconst (pc := 9) (v := (0 : Int32)) g (by decide) dX10_follow_9 ?_
    refine x_iconst (pc := 10) (v := (2 : Int32)) g (by decide) dX10_follow_10 ?_
    refine x_callSI (pc := 11) (As := [.int a1, .int (0 : Int32), .int (2 : Int32)]) g (mc_X10_in a1 (0 : Int32) (2 : Int32)) cw_X10_in lk_X10_131 rfl ⟨Nat.le_of_ble_eq_true rfl, Nat.le_of_ble_eq_true rfl⟩ rfl (Nat.le_of_ble_eq_true rfl) dX10_follow_11 (fun v2 σ2 => ?_)
    refine x_if_ne (pc := 14) (tgt := 19) g (by decide) dX10_follow_14 ?_ ?_
    · refine x_aload_n (pc := 19) g rfl 0 rfl dX10_follow_19 ?_
      refine x_callVU (pc := 20) (As := []) g sh_103 (mc_X10_findSights N ) cw_X10_findSights lk_X10_296 rfl ⟨Nat.le_of_ble_eq_true rfl, Nat.le_of_ble_eq_true rfl⟩ rfl (Nat.le_of_ble_eq_true rfl) dX10_follow_20 (fun _ σ3 => ?_)
      refine x_iconst (pc := 23) (v := (0 : Int32)) g (by decide) dX10_follow_23 ?_
      refine x_istore_n (pc := 24) (lv' := [(3, .int (0 : Int32)), (0, .ref (al 103)), (1, .int a0), (2, .int a1)]) g rfl (by decide) rfl dX10_follow_24 ?_
      refine x_jn (fun (j45 : Sx → Option (Int32 × Sx)) => ∀ (σ4 : Sx), XTx p l e { frames := 5, cells := 0, slots := 0, locals := 121 } s m args below meth c D al cA ba 5 (MQx rvI D al cA ba below args s) 0 0 45 [(0, .ref (al 103)), (1, .int a0), (2, .int a1)] [] σ4 (j45 σ4)) (fun σ4 => ?_) (fun j45 hj45 => ?_)
      · refine x_iload_n (pc := 45) g rfl 1 rfl dX10_follow_45 ?_
        refine x_istore_n (pc := 46) (lv' := [(3, .int a0), (0, .ref (al 103)), (1, .int a0), (2, .int a1)]) g rfl (by decide) rfl dX10_follow_46 ?_
        refine x_iconst (pc := 47) (v := (0 : Int32)) g (by decide) dX10_follow_47 ?_
        refine x_istore (pc := 48) (lv' := [(4, .int (0 : Int32)), (3, .int a0), (0, .ref (al 103)), (1, .int a0), (2, .int a1)]) g (by decide) rfl dX10_follow_48 ?_
        refine x_jn (fun (j79 : Int32 → Int32 → Sx → Option (Int32 × Sx)) => ∀ (x1 : Int32) (x2 : Int32) (σ5 : Sx), XTx p l e { frames := 5, cells := 0, slots := 0, locals := 121 } s m args below meth c D al cA ba 5 (MQx rvI D al cA ba below args s) 0 0 79 [(0, .ref (al 103)), (2, .int a1), (3, .int x1), (4, .int x2)] [] σ5 (j79 x1 x2 σ5)) (fun x1 x2 σ5 => ?_) (fun j79 hj79 => ?_)
        · refine x_iload_n (pc := 79) g rfl 1 rfl dX10_follow_79 ?_
          refine x_if_ne (pc := 80) (tgt := 88) g (by decide) dX10_follow_80 ?_ ?_
          · refine x_iload_n (pc := 88) g rfl 1 rfl dX10_follow_88 ?_
            refine x_iconst (pc := 89) (v := (1 : Int32)) g (by decide) dX10_follow_89 ?_
            refine x_icmp_ne (pc := 90) (tgt := 105) g (by decide) dX10_follow_90 ?_ ?_
            · refine x_iload_n (pc := 105) g rfl 2 rfl dX10_follow_105 ?_
              exact x_ireturn (pc := 106) g hrt dX10_follow_106
            · refine x_iload (pc := 93) g 3 rfl dX10_follow_93 ?_
              refine x_aload_n (pc := 95) g rfl 0 rfl dX10_follow_95 ?_
              refine x_getR (pc := 96) g sh_103 fl_X10_88 rfl dX10_follow_96 ?_
              refine x_iload_n (pc := 99) g rfl 2 rfl dX10_follow_99 ?_
              refine x_iald (pc := 100) g sh_127 (by decide) dX10_follow_100 (fun v3 => ?_)
              refine x_isub (pc := 101) g dX10_follow_101 ?_
              refine x_goto (pc := 102) (tgt := 106) g (by decide) dX10_follow_102 ?_
              exact x_ireturn (pc := 106) g hrt dX10_follow_106
          · refine x_iload (pc := 83) g 3 rfl dX10_follow_83 ?_
            refine x_goto (pc := 85) (tgt := 106) g (by decide) dX10_follow_85 ?_
            exact x_ireturn (pc := 106) g hrt dX10_follow_106
        · refine x_lv [2, 4, 1, 0] rfl ?_
          refine lpx2_ind (fun (x3 : Int32) (x4 : Int32) (σ6 : Sx) (K : Option (Int32 × Sx)) => XTx p l e { frames := 5, cells := 0, slots := 0, locals := 121 } s m args below meth c D al cA ba 5 (MQx rvI D al cA ba below args s) 0 0 50 [(0, .ref (al 103)), (2, .int a1), (3, .int x3), (4, .int x4)] [] σ6 (K)) (fun _ _ _ => x_no) (fun r50 hr50 x3 x4 σ6 => ?_) N a0 (0 : Int32) σ4
          show XTx p l e { frames := 5, cells := 0, slots := 0, locals := 121 } s m args below meth c D al cA ba 5 (MQx rvI D al cA ba below args s) 0 0 50 [(0, .ref (al 103)), (2, .int a1), (3, .int x3), (4, .int x4)] [] σ6 (B_X10_follow_L50 N j79 r50 x3 x4 σ6)
          unfold B_X10_follow_L50
          refine x_aload_n (pc := 50) g rfl 0 rfl dX10_follow_50 ?_
          refine x_getR (pc := 51) g sh_103 fl_X10_88 rfl dX10_follow_51 ?_
          refine x_iload_n (pc := 54) g rfl 2 rfl dX10_follow_54 ?_
          refine x_iald (pc := 55) g sh_127 (by decide) dX10_follow_55 (fun v4 => ?_)
          refine x_if_ge (pc := 56) (tgt := 79) g (by decide) dX10_follow_56 ?_ ?_
          · exact hj79 x3 x4 σ6
          · refine x_aload_n (pc := 59) g rfl 0 rfl dX10_follow_59 ?_
            refine x_getR (pc := 60) g sh_103 fl_X10_88 rfl dX10_follow_60 ?_
            refine x_iload_n (pc := 63) g rfl 2 rfl dX10_follow_63 ?_
            refine x_iload (pc := 64) g 3 rfl dX10_follow_64 ?_
            refine x_iast (pc := 66) g sh_127 (by decide) dX10_follow_66 (fun σ7 => ?_)
            refine x_aload_n (pc := 67) g rfl 0 rfl dX10_follow_67 ?_
            refine x_iload_n (pc := 68) g rfl 2 rfl dX10_follow_68 ?_
            refine x_callVI (pc := 69) (As := [.int x3]) g sh_103 (mc_X10_nextOf N x3) cw_X10_nextOf lk_X10_327 rfl ⟨Nat.le_of_ble_eq_true rfl, Nat.le_of_ble_eq_true rfl⟩ rfl (Nat.le_of_ble_eq_true rfl) dX10_follow_69 (fun v5 σ8 => ?_)
            refine x_istore_n (pc := 72) (lv' := [(3, .int v5), (0, .ref (al 103)), (2, .int a1), (4, .int x4)]) g rfl (by decide) rfl dX10_follow_72 ?_
            refine x_iinc (pc := 73) (v := (x4 + (1 : Int32))) (lv' := [(4, .int (x4 + (1 : Int32))), (3, .int v5), (0, .ref (al 103)), (2, .int a1)]) g 3 rfl (by rfl) (by decide) rfl dX10_follow_73 ?_
            refine x_goto (pc := 76) (tgt := 50) g (by decide) dX10_follow_76 ?_
            refine x_lv [2, 3, 1, 0] rfl ?_
            exact hr50 v5 (x4 + (1 : Int32)) σ8
      · refine x_lv [1, 2, 3, 0] rfl ?_
        refine lpx1_ind (fun (x5 : Int32) (σ9 : Sx) (K : Option (Int32 × Sx)) => XTx p l e { frames := 5, cells := 0, slots := 0, locals := 121 } s m args below meth c D al cA ba 5 (MQx rvI D al cA ba below args s) 0 0 25 [(0, .ref (al 103)), (1, .int a0), (2, .int a1), (3, .int x5)] [] σ9 (K)) (fun _ _ => x_no) (fun r25 hr25 x5 σ9 => ?_) N (0 : Int32) σ3
        show XTx p l e { frames := 5, cells := 0, slots := 0, locals := 121 } s m args below meth c D al cA ba 5 (MQx rvI D al cA ba below args s) 0 0 25 [(0, .ref (al 103)), (1, .int a0), (2, .int a1), (3, .int x5)] [] σ9 (B_X10_follow_L25 N j45 r25 x5 σ9)
        unfold B_X10_follow_L25
        refine x_iload_n (pc := 25) g rfl 3 rfl dX10_follow_25 ?_
        refine x_sipush (pc := 26) (v := (1024 : Int32)) g (by decide) dX10_follow_26 ?_
        refine x_icmp_ge (pc := 29) (tgt := 45) g (by decide) dX10_follow_29 ?_ ?_
        · refine x_lv [0, 1, 2] rfl ?_
          exact hj45 σ9
        · refine x_aload_n (pc := 32) g rfl 0 rfl dX10_follow_32 ?_
          refine x_getR (pc := 33) g sh_103 fl_X10_88 rfl dX10_follow_33 ?_
          refine x_iload_n (pc := 36) g rfl 3 rfl dX10_follow_36 ?_
          refine x_iconst (pc := 37) (v := (-1 : Int32)) g (by decide) dX10_follow_37 ?_
          refine x_iast (pc := 38) g sh_127 (by decide) dX10_follow_38 (fun σ10 => ?_)
          refine x_iinc (pc := 39) (v := (x5 + (1 : Int32))) (lv' := [(3, .int (x5 + (1 : Int32))), (0, .ref (al 103)), (1, .int a0), (2, .int a1)]) g 3 rfl (by rfl) (by decide) rfl dX10_follow_39 ?_
          refine x_goto (pc := 42) (tgt := 25) g (by decide) dX10_follow_42 ?_
          refine x_lv [1, 2, 3, 0] rfl ?_
          exact hr25 (x5 + (1 : Int32)) σ10
    · refine x_iconst (pc := 17) (v := (-1 : Int32)) g (by decide) dX10_follow_17 ?_
      exact x_ireturn (pc := 18) g hrt dX10_follow_18
def B_X10_readFault_L43 (N : Nat) (a0 : Int32) (r43 : Int32 → Sx → Option (Int32 × Sx)) (x1 : Int32) (σ1 : Sx) : Option (Int32 × Sx) := aIx 136 6 a0 σ1 (fun v4 => (if v4 ≤ x1 then some ((0 : Int32), σ1) else nmx ((((60 : Int32) * a0) + x1)) (fun v5 => aLx 137 360 v5 σ1 (fun z1 => clx (F_X10_isPlace z1.toInt32 σ1) (fun v6 σ2 => (if v6 = 0 then some ((-5 : Int32), σ2) else aLx 137 360 (v5 + (1 : Int32)) σ2 (fun z2 => clx (F_X10_in z2.toInt32 (0 : Int32) (999 : Int32) σ2) (fun v7 σ3 => (if v7 = 0 then some ((-5 : Int32), σ3) else aLx 137 360 (v5 + (2 : Int32)) σ3 (fun z3 => clx (F_X10_in z3.toInt32 (0 : Int32) (31 : Int32) σ3) (fun v8 σ4 => (if v8 = 0 then some ((-5 : Int32), σ4) else r43 (x1 + (3 : Int32)) σ4))))))))))))
def F_X10_readFault (N : Nat) (a0 : Int32) (σ0 : Sx) : Option (Int32 × Sx) := aIx 135 6 a0 σ0 (fun v1 => (if v1 = (-1 : Int32) then some ((-11 : Int32), σ0) else aIx 135 6 a0 σ0 (fun v2 => (if v2 = (-3 : Int32) then aIx 136 6 a0 σ0 (fun v3 => (if (jrem v3 (3 : Int32)) = 0 then lpx1 (B_X10_readFault_L43 N a0) N (0 : Int32) σ0 else some ((-5 : Int32), σ0))) else some ((-12 : Int32), σ0)))))
set_option maxRecDepth 100000 in
set_option maxHeartbeats 4000000 in
theorem mc_X10_readFault {D : va_G} {al : Nat → Nat} {cA : Nat → ClassId} {ba : Nat} (N : Nat) (a0 : Int32) : MCx D al cA ba yX10_readFault cX10_readFault 4 (some .int) 2 42 rvI [.ref (al 103), .int a0] (F_X10_readFault N a0) := by
  refine MCx_of (by decide +kernel) (Nat.le_of_ble_eq_true rfl) ?_
  intro p l e s m args below meth c σ0 g hrt
  unfold F_X10_readFault
  refine x_lv (lv' := [(0, .ref (al 103)), (1, .int a0)]) [0, 1] rfl ?_
  refine x_aload_n (pc := 0) g rfl 0 rfl dX10_readFault_0 ?_
  refine x_getR (pc := 1) g sh_103 fl_X10_112 rfl dX10_readFault_1 ?_
  refine x_iload_n (pc := 4) g rfl 1 rfl dX10_readFault_4 ?_
  refine x_iald (pc := 5) g sh_135 (by decide) dX10_readFault_5 (fun v1 => ?_)
  refine x_iconst (pc := 6) (v := (-1 : Int32)) g (by decide) dX10_readFault_6 ?_
  refine x_icmp_ne (pc := 7) (tgt := 13) g (by decide) dX10_readFault_7 ?_ ?_
  · refine x_aload_n (pc := 13) g rfl 0 rfl dX10_readFault_13 ?_
    refine x_getR (pc := 14) g sh_103 fl_X10_112 rfl dX10_readFault_14 ?_
    refine x_iload_n (pc := 17) g rfl 1 rfl dX10_readFault_17 ?_
    refine x_iald (pc := 18) g sh_135 (by decide) dX10_readFault_18 (fun v2 => ?_)
    refine x_bipush (pc := 19) (v := (-3 : Int32)) g (by decide) dX10_readFault_19 ?_
    refine x_icmp_eq (pc := 21) (tgt := 27) g (by decide) dX10_readFault_21 ?_ ?_
    · refine x_aload_n (pc := 27) g rfl 0 rfl dX10_readFault_27 ?_
      refine x_getR (pc := 28) g sh_103 fl_X10_115 rfl dX10_readFault_28 ?_
      refine x_iload_n (pc := 31) g rfl 1 rfl dX10_readFault_31 ?_
      refine x_iald (pc := 32) g sh_136 (by decide) dX10_readFault_32 (fun v3 => ?_)
      refine x_iconst (pc := 33) (v := (3 : Int32)) g (by decide) dX10_readFault_33 ?_
      refine x_irem (pc := 34) g (by decide) dX10_readFault_34 ?_
      refine x_if_eq (pc := 35) (tgt := 41) g (by decide) dX10_readFault_35 ?_ ?_
      · refine x_iconst (pc := 41) (v := (0 : Int32)) g (by decide) dX10_readFault_41 ?_
        refine x_istore_n (pc := 42) (lv' := [(2, .int (0 : Int32)), (0, .ref (al 103)), (1, .int a0)]) g rfl (by decide) rfl dX10_readFault_42 ?_
        refine x_lv [1, 2, 0] rfl ?_
        refine lpx1_ind (fun (x1 : Int32) (σ1 : Sx) (K : Option (Int32 × Sx)) => XTx p l e { frames := 2, cells := 0, slots := 0, locals := 42 } s m args below meth c D al cA ba 4 (MQx rvI D al cA ba below args s) 0 0 43 [(0, .ref (al 103)), (1, .int a0), (2, .int x1)] [] σ1 (K)) (fun _ _ => x_no) (fun r43 hr43 x1 σ1 => ?_) N (0 : Int32) σ0
        show XTx p l e { frames := 2, cells := 0, slots := 0, locals := 42 } s m args below meth c D al cA ba 4 (MQx rvI D al cA ba below args s) 0 0 43 [(0, .ref (al 103)), (1, .int a0), (2, .int x1)] [] σ1 (B_X10_readFault_L43 N a0 r43 x1 σ1)
        unfold B_X10_readFault_L43
        refine x_iload_n (pc := 43) g rfl 2 rfl dX10_readFault_43 ?_
        refine x_aload_n (pc := 44) g rfl 0 rfl dX10_readFault_44 ?_
        refine x_getR (pc := 45) g sh_103 fl_X10_115 rfl dX10_readFault_45 ?_
        refine x_iload_n (pc := 48) g rfl 1 rfl dX10_readFault_48 ?_
        refine x_iald (pc := 49) g sh_136 (by decide) dX10_readFault_49 (fun v4 => ?_)
        refine x_icmp_ge (pc := 50) (tgt := 119) g (by decide) dX10_readFault_50 ?_ ?_
        · refine x_iconst (pc := 119) (v := (0 : Int32)) g (by decide) dX10_readFault_119 ?_
          exact x_ireturn (pc := 120) g hrt dX10_readFault_120
        · refine x_bipush (pc := 53) (v := (60 : Int32)) g (by decide) dX10_readFault_53 ?_
          refine x_iload_n (pc := 55) g rfl 1 rfl dX10_readFault_55 ?_
          refine x_imul (pc := 56) g dX10_readFault_56 ?_
          refine x_iload_n (pc := 57) g rfl 2 rfl dX10_readFault_57 ?_
          refine x_iadd (pc := 58) g dX10_readFault_58 ?_
          refine x_nm (fun v5 => ?_)
          refine x_istore_n (pc := 59) (lv' := [(3, .int v5), (0, .ref (al 103)), (1, .int a0), (2, .int x1)]) g rfl (by decide) rfl dX10_readFault_59 ?_
          refine x_aload_n (pc := 60) g rfl 1 rfl dX10_readFault_60 ?_
          refine x_getR (pc := 61) g sh_103 fl_X10_118 rfl dX10_readFault_61 ?_
          refine x_iload_n (pc := 64) g rfl 0 rfl dX10_readFault_64 ?_
          refine x_lald (pc := 65) g sh_137 (by decide) dX10_readFault_65 (fun z1 => ?_)
          refine x_l2i (pc := 66) g dX10_readFault_66 ?_
          refine x_callSI (pc := 67) (As := [.int z1.toInt32]) g (mc_X10_isPlace z1.toInt32) cw_X10_isPlace lk_X10_135 rfl ⟨Nat.le_of_ble_eq_true rfl, Nat.le_of_ble_eq_true rfl⟩ rfl (Nat.le_of_ble_eq_true rfl) dX10_readFault_67 (fun v6 σ2 => ?_)
          refine x_if_eq (pc := 70) (tgt := 110) g (by decide) dX10_readFault_70 ?_ ?_
          · refine x_bipush (pc := 110) (v := (-5 : Int32)) g (by decide) dX10_readFault_110 ?_
            exact x_ireturn (pc := 112) g hrt dX10_readFault_112
          · refine x_aload_n (pc := 73) g rfl 1 rfl dX10_readFault_73 ?_
            refine x_getR (pc := 74) g sh_103 fl_X10_118 rfl dX10_readFault_74 ?_
            refine x_iload_n (pc := 77) g rfl 0 rfl dX10_readFault_77 ?_
            refine x_iconst (pc := 78) (v := (1 : Int32)) g (by decide) dX10_readFault_78 ?_
            refine x_iadd (pc := 79) g dX10_readFault_79 ?_
            refine x_lald (pc := 80) g sh_137 (by decide) dX10_readFault_80 (fun z2 => ?_)
            refine x_l2i (pc := 81) g dX10_readFault_81 ?_
            refine x_iconst (pc := 82) (v := (0 : Int32)) g (by decide) dX10_readFault_82 ?_
            refine x_sipush (pc := 83) (v := (999 : Int32)) g (by decide) dX10_readFault_83 ?_
            refine x_callSI (pc := 86) (As := [.int z2.toInt32, .int (0 : Int32), .int (999 : Int32)]) g (mc_X10_in z2.toInt32 (0 : Int32) (999 : Int32)) cw_X10_in lk_X10_131 rfl ⟨Nat.le_of_ble_eq_true rfl, Nat.le_of_ble_eq_true rfl⟩ rfl (Nat.le_of_ble_eq_true rfl) dX10_readFault_86 (fun v7 σ3 => ?_)
            refine x_if_eq (pc := 89) (tgt := 110) g (by decide) dX10_readFault_89 ?_ ?_
            · refine x_bipush (pc := 110) (v := (-5 : Int32)) g (by decide) dX10_readFault_110 ?_
              exact x_ireturn (pc := 112) g hrt dX10_readFault_112
            · refine x_aload_n (pc := 92) g rfl 1 rfl dX10_readFault_92 ?_
              refine x_getR (pc := 93) g sh_103 fl_X10_118 rfl dX10_readFault_93 ?_
              refine x_iload_n (pc := 96) g rfl 0 rfl dX10_readFault_96 ?_
              refine x_iconst (pc := 97) (v := (2 : Int32)) g (by decide) dX10_readFault_97 ?_
              refine x_iadd (pc := 98) g dX10_readFault_98 ?_
              refine x_lald (pc := 99) g sh_137 (by decide) dX10_readFault_99 (fun z3 => ?_)
              refine x_l2i (pc := 100) g dX10_readFault_100 ?_
              refine x_iconst (pc := 101) (v := (0 : Int32)) g (by decide) dX10_readFault_101 ?_
              refine x_bipush (pc := 102) (v := (31 : Int32)) g (by decide) dX10_readFault_102 ?_
              refine x_callSI (pc := 104) (As := [.int z3.toInt32, .int (0 : Int32), .int (31 : Int32)]) g (mc_X10_in z3.toInt32 (0 : Int32) (31 : Int32)) cw_X10_in lk_X10_131 rfl ⟨Nat.le_of_ble_eq_true rfl, Nat.le_of_ble_eq_true rfl⟩ rfl (Nat.le_of_ble_eq_true rfl) dX10_readFault_104 (fun v8 σ4 => ?_)
              refine x_if_ne (pc := 107) (tgt := 113) g (by decide) dX10_readFault_107 ?_ ?_
              · refine x_iinc (pc := 113) (v := (x1 + (3 : Int32))) (lv' := [(2, .int (x1 + (3 : Int32))), (3, .int v5), (0, .ref (al 103)), (1, .int a0)]) g 3 rfl (by rfl) (by decide) rfl dX10_readFault_113 ?_
                refine x_goto (pc := 116) (tgt := 43) g (by decide) dX10_readFault_116 ?_
                refine x_lv [2, 3, 0] rfl ?_
                exact hr43 (x1 + (3 : Int32)) σ4
              · refine x_bipush (pc := 110) (v := (-5 : Int32)) g (by decide) dX10_readFault_110 ?_
                exact x_ireturn (pc := 112) g hrt dX10_readFault_112
      · refine x_bipush (pc := 38) (v := (-5 : Int32)) g (by decide) dX10_readFault_38 ?_
        exact x_ireturn (pc := 40) g hrt dX10_readFault_40
    · refine x_bipush (pc := 24) (v := (-12 : Int32)) g (by decide) dX10_readFault_24 ?_
      exact x_ireturn (pc := 26) g hrt dX10_readFault_26
  · refine x_bipush (pc := 10) (v := (-11 : Int32)) g (by decide) dX10_readFault_10 ?_
    exact x_ireturn (pc := 12) g hrt dX10_readFault_12
def B_X10_findFit_L24 (N : Nat) (a0 : Int32) (x1 : Int32) (j94 : Int32 → Sx → Option (Unit × Sx)) (r24 : Int32 → Int32 → Sx → Option (Unit × Sx)) (x3 : Int32) (x4 : Int32) (σ8 : Sx) : Option (Unit × Sx) := aIx 136 6 a0 σ8 (fun v2 => (if v2 ≤ x4 then j94 x3 σ8 else nmx ((((60 : Int32) * a0) + x4)) (fun v3 => aIx 126 1024 x1 σ8 (fun v4 => aLx 137 360 v3 σ8 (fun z1 => aLx 137 360 (v3 + (1 : Int32)) σ8 (fun z2 => clx (F_X10_seesOn N v4 z1.toInt32 z2.toInt32 σ8) (fun v5 σ9 => aLx 137 360 (v3 + (2 : Int32)) σ9 (fun z3 => nmx (fun (x5 : Int32) (σ10 : Sx) => r24 x5 (x4 + (3 : Int32)) σ10) (fun (j88 : Int32 → Sx → Option (Unit × Sx)) => (if (lg_cmp v5.toInt64 z3) = 0 then j88 x3 σ9 else j88 (0 : Int32) σ9))))))))))
def B_X10_findFit_L11 (N : Nat) (a0 : Int32) (r11 : Int32 → Sx → Option (Unit × Sx)) (x1 : Int32) (σ3 : Sx) : Option (Unit × Sx) := (if (siI σ3 103 38) ≤ x1 then some ((), σ3) else nmx (fun (x2 : Int32) (σ4 : Sx) => nmx (fun (σ5 : Sx) => r11 (x1 + (1 : Int32)) σ5) (fun (j126 : Sx → Option (Unit × Sx)) => (if x2 = 0 then j126 σ4 else aIx 126 1024 x1 σ4 (fun v1 => sIx 128 1024 (siI σ4 103 43) v1 σ4 (fun σ6 => pIx 103 43 ((siI σ6 103 43) + (1 : Int32)) σ6 (fun σ7 => j126 σ7)))))) (fun (j94 : Int32 → Sx → Option (Unit × Sx)) => lpx2 (B_X10_findFit_L24 N a0 x1 j94) N (1 : Int32) (0 : Int32) σ3))
def F_X10_findFit (N : Nat) (a0 : Int32) (σ0 : Sx) : Option (Unit × Sx) := clx (F_X10_findHeld N  σ0) (fun _ σ1 => pIx 103 43 (0 : Int32) σ1 (fun σ2 => lpx1 (B_X10_findFit_L11 N a0) N (0 : Int32) σ2))
set_option maxRecDepth 100000 in
set_option maxHeartbeats 4000000 in
theorem mc_X10_findFit {D : va_G} {al : Nat → Nat} {cA : Nat → ClassId} {ba : Nat} (N : Nat) (a0 : Int32) : MCx D al cA ba yX10_findFit cX10_findFit 6 none 6 142 rvU [.ref (al 103), .int a0] (F_X10_findFit N a0) := by
  refine MCx_of (by decide +kernel) (Nat.le_of_ble_eq_true rfl) ?_
  intro p l e s m args below meth c σ0 g hrt
  unfold F_X10_findFit
  refine x_lv (lv' := [(0, .ref (al 103)), (1, .int a0)]) [0, 1] rfl ?_
  refine x_aload_n (pc := 0) g rfl 0 rfl dX10_findFit_0 ?_
  refine x_callVU (pc := 1) (As := []) g sh_103 (mc_X10_findHeld N ) cw_X10_findHeld lk_X10_305 rfl ⟨Nat.le_of_ble_eq_true rfl, Nat.le_of_ble_eq_true rfl⟩ rfl (Nat.le_of_ble_eq_true rfl) dX10_findFit_1 (fun _ σ1 => ?_)
  refine x_aload_n (pc := 4) g rfl 0 rfl dX10_findFit_4 ?_
  refine x_iconst (pc := 5) (v := (0 : Int32)) g (by decide) dX10_findFit_5 ?_
  refine x_putI (pc := 6) g sh_103 fl_X10_330 rfl dX10_findFit_6 (fun σ2 => ?_)
  refine x_iconst (pc := 9) (v := (0 : Int32)) g (by decide) dX10_findFit_9 ?_
  refine x_istore_n (pc := 10) (lv' := [(2, .int (0 : Int32)), (0, .ref (al 103)), (1, .int a0)]) g rfl (by decide) rfl dX10_findFit_10 ?_
  refine x_lv [1, 2, 0] rfl ?_
  refine lpx1_ind (fun (x1 : Int32) (σ3 : Sx) (K : Option (Unit × Sx)) => XTx p l e { frames := 6, cells := 0, slots := 0, locals := 142 } s m args below meth c D al cA ba 6 (MQx rvU D al cA ba below args s) 0 0 11 [(0, .ref (al 103)), (1, .int a0), (2, .int x1)] [] σ3 (K)) (fun _ _ => x_no) (fun r11 hr11 x1 σ3 => ?_) N (0 : Int32) σ2
  show XTx p l e { frames := 6, cells := 0, slots := 0, locals := 142 } s m args below meth c D al cA ba 6 (MQx rvU D al cA ba below args s) 0 0 11 [(0, .ref (al 103)), (1, .int a0), (2, .int x1)] [] σ3 (B_X10_findFit_L11 N a0 r11 x1 σ3)
  unfold B_X10_findFit_L11
  refine x_iload_n (pc := 11) g rfl 2 rfl dX10_findFit_11 ?_
  refine x_aload_n (pc := 12) g rfl 0 rfl dX10_findFit_12 ?_
  refine x_getI (pc := 13) g sh_103 fl_X10_299 rfl dX10_findFit_13 ?_
  refine x_icmp_ge (pc := 16) (tgt := 132) g (by decide) dX10_findFit_16 ?_ ?_
  · exact x_return (pc := 132) g hrt dX10_findFit_132
  · refine x_iconst (pc := 19) (v := (1 : Int32)) g (by decide) dX10_findFit_19 ?_
    refine x_istore_n (pc := 20) (lv' := [(3, .int (1 : Int32)), (0, .ref (al 103)), (1, .int a0), (2, .int x1)]) g rfl (by decide) rfl dX10_findFit_20 ?_
    refine x_iconst (pc := 21) (v := (0 : Int32)) g (by decide) dX10_findFit_21 ?_
    refine x_istore (pc := 22) (lv' := [(4, .int (0 : Int32)), (3, .int (1 : Int32)), (0, .ref (al 103)), (1, .int a0), (2, .int x1)]) g (by decide) rfl dX10_findFit_22 ?_
    refine x_jn (fun (j94 : Int32 → Sx → Option (Unit × Sx)) => ∀ (x2 : Int32) (σ4 : Sx), XTx p l e { frames := 6, cells := 0, slots := 0, locals := 142 } s m args below meth c D al cA ba 6 (MQx rvU D al cA ba below args s) 0 0 94 [(0, .ref (al 103)), (1, .int a0), (2, .int x1), (3, .int x2)] [] σ4 (j94 x2 σ4)) (fun x2 σ4 => ?_) (fun j94 hj94 => ?_)
    · refine x_iload_n (pc := 94) g rfl 3 rfl dX10_findFit_94 ?_
      refine x_jn (fun (j126 : Sx → Option (Unit × Sx)) => ∀ (σ5 : Sx), XTx p l e { frames := 6, cells := 0, slots := 0, locals := 142 } s m args below meth c D al cA ba 6 (MQx rvU D al cA ba below args s) 0 0 126 [(0, .ref (al 103)), (1, .int a0), (2, .int x1)] [] σ5 (j126 σ5)) (fun σ5 => ?_) (fun j126 hj126 => ?_)
      · refine x_iinc (pc := 126) (v := (x1 + (1 : Int32))) (lv' := [(2, .int (x1 + (1 : Int32))), (0, .ref (al 103)), (1, .int a0)]) g 2 rfl (by rfl) (by decide) rfl dX10_findFit_126 ?_
        refine x_goto (pc := 129) (tgt := 11) g (by decide) dX10_findFit_129 ?_
        refine x_lv [1, 2, 0] rfl ?_
        exact hr11 (x1 + (1 : Int32)) σ5
      · refine x_if_ne (pc := 95) (tgt := 101) g (by decide) dX10_findFit_95 ?_ ?_
        · refine x_aload_n (pc := 101) g rfl 0 rfl dX10_findFit_101 ?_
          refine x_getR (pc := 102) g sh_103 fl_X10_91 rfl dX10_findFit_102 ?_
          refine x_aload_n (pc := 105) g rfl 0 rfl dX10_findFit_105 ?_
          refine x_getI (pc := 106) g sh_103 fl_X10_330 rfl dX10_findFit_106 ?_
          refine x_aload_n (pc := 109) g rfl 0 rfl dX10_findFit_109 ?_
          refine x_getR (pc := 110) g sh_103 fl_X10_85 rfl dX10_findFit_110 ?_
          refine x_iload_n (pc := 113) g rfl 2 rfl dX10_findFit_113 ?_
          refine x_iald (pc := 114) g sh_126 (by decide) dX10_findFit_114 (fun v1 => ?_)
          refine x_iast (pc := 115) g sh_128 (by decide) dX10_findFit_115 (fun σ6 => ?_)
          refine x_aload_n (pc := 116) g rfl 0 rfl dX10_findFit_116 ?_
          refine x_dup (pc := 117) g rfl dX10_findFit_117 ?_
          refine x_getI (pc := 118) g sh_103 fl_X10_330 rfl dX10_findFit_118 ?_
          refine x_iconst (pc := 121) (v := (1 : Int32)) g (by decide) dX10_findFit_121 ?_
          refine x_iadd (pc := 122) g dX10_findFit_122 ?_
          refine x_putI (pc := 123) g sh_103 fl_X10_330 rfl dX10_findFit_123 (fun σ7 => ?_)
          refine x_lv [0, 1, 2] rfl ?_
          exact hj126 σ7
        · refine x_goto (pc := 98) (tgt := 126) g (by decide) dX10_findFit_98 ?_
          refine x_lv [0, 1, 2] rfl ?_
          exact hj126 σ4
    · refine x_lv [2, 3, 4, 1, 0] rfl ?_
      refine lpx2_ind (fun (x3 : Int32) (x4 : Int32) (σ8 : Sx) (K : Option (Unit × Sx)) => XTx p l e { frames := 6, cells := 0, slots := 0, locals := 142 } s m args below meth c D al cA ba 6 (MQx rvU D al cA ba below args s) 0 0 24 [(0, .ref (al 103)), (1, .int a0), (2, .int x1), (3, .int x3), (4, .int x4)] [] σ8 (K)) (fun _ _ _ => x_no) (fun r24 hr24 x3 x4 σ8 => ?_) N (1 : Int32) (0 : Int32) σ3
      show XTx p l e { frames := 6, cells := 0, slots := 0, locals := 142 } s m args below meth c D al cA ba 6 (MQx rvU D al cA ba below args s) 0 0 24 [(0, .ref (al 103)), (1, .int a0), (2, .int x1), (3, .int x3), (4, .int x4)] [] σ8 (B_X10_findFit_L24 N a0 x1 j94 r24 x3 x4 σ8)
      unfold B_X10_findFit_L24
      refine x_iload (pc := 24) g 4 rfl dX10_findFit_24 ?_
      refine x_aload_n (pc := 26) g rfl 0 rfl dX10_findFit_26 ?_
      refine x_getR (pc := 27) g sh_103 fl_X10_115 rfl dX10_findFit_27 ?_
      refine x_iload_n (pc := 30) g rfl 1 rfl dX10_findFit_30 ?_
      refine x_iald (pc := 31) g sh_136 (by decide) dX10_findFit_31 (fun v2 => ?_)
      refine x_icmp_ge (pc := 32) (tgt := 94) g (by decide) dX10_findFit_32 ?_ ?_
      · refine x_lv [0, 1, 2, 3] rfl ?_
        exact hj94 x3 σ8
      · refine x_bipush (pc := 35) (v := (60 : Int32)) g (by decide) dX10_findFit_35 ?_
        refine x_iload_n (pc := 37) g rfl 1 rfl dX10_findFit_37 ?_
        refine x_imul (pc := 38) g dX10_findFit_38 ?_
        refine x_iload (pc := 39) g 4 rfl dX10_findFit_39 ?_
        refine x_iadd (pc := 41) g dX10_findFit_41 ?_
        refine x_nm (fun v3 => ?_)
        refine x_istore (pc := 42) (lv' := [(5, .int v3), (0, .ref (al 103)), (1, .int a0), (2, .int x1), (3, .int x3), (4, .int x4)]) g (by decide) rfl dX10_findFit_42 ?_
        refine x_aload_n (pc := 44) g rfl 1 rfl dX10_findFit_44 ?_
        refine x_aload_n (pc := 45) g rfl 1 rfl dX10_findFit_45 ?_
        refine x_getR (pc := 46) g sh_103 fl_X10_85 rfl dX10_findFit_46 ?_
        refine x_iload_n (pc := 49) g rfl 3 rfl dX10_findFit_49 ?_
        refine x_iald (pc := 50) g sh_126 (by decide) dX10_findFit_50 (fun v4 => ?_)
        refine x_aload_n (pc := 51) g rfl 1 rfl dX10_findFit_51 ?_
        refine x_getR (pc := 52) g sh_103 fl_X10_118 rfl dX10_findFit_52 ?_
        refine x_iload (pc := 55) g 0 rfl dX10_findFit_55 ?_
        refine x_lald (pc := 57) g sh_137 (by decide) dX10_findFit_57 (fun z1 => ?_)
        refine x_l2i (pc := 58) g dX10_findFit_58 ?_
        refine x_aload_n (pc := 59) g rfl 1 rfl dX10_findFit_59 ?_
        refine x_getR (pc := 60) g sh_103 fl_X10_118 rfl dX10_findFit_60 ?_
        refine x_iload (pc := 63) g 0 rfl dX10_findFit_63 ?_
        refine x_iconst (pc := 65) (v := (1 : Int32)) g (by decide) dX10_findFit_65 ?_
        refine x_iadd (pc := 66) g dX10_findFit_66 ?_
        refine x_lald (pc := 67) g sh_137 (by decide) dX10_findFit_67 (fun z2 => ?_)
        refine x_l2i (pc := 68) g dX10_findFit_68 ?_
        refine x_callVI (pc := 69) (As := [.int v4, .int z1.toInt32, .int z2.toInt32]) g sh_103 (mc_X10_seesOn N v4 z1.toInt32 z2.toInt32) cw_X10_seesOn lk_X10_314 rfl ⟨Nat.le_of_ble_eq_true rfl, Nat.le_of_ble_eq_true rfl⟩ rfl (Nat.le_of_ble_eq_true rfl) dX10_findFit_69 (fun v5 σ9 => ?_)
        refine x_i2l (pc := 72) g dX10_findFit_72 ?_
        refine x_aload_n (pc := 73) g rfl 1 rfl dX10_findFit_73 ?_
        refine x_getR (pc := 74) g sh_103 fl_X10_118 rfl dX10_findFit_74 ?_
        refine x_iload (pc := 77) g 0 rfl dX10_findFit_77 ?_
        refine x_iconst (pc := 79) (v := (2 : Int32)) g (by decide) dX10_findFit_79 ?_
        refine x_iadd (pc := 80) g dX10_findFit_80 ?_
        refine x_lald (pc := 81) g sh_137 (by decide) dX10_findFit_81 (fun z3 => ?_)
        refine x_lcmp (pc := 82) g dX10_findFit_82 ?_
        refine x_jn (fun (j88 : Int32 → Sx → Option (Unit × Sx)) => ∀ (x5 : Int32) (σ10 : Sx), XTx p l e { frames := 6, cells := 0, slots := 0, locals := 142 } s m args below meth c D al cA ba 6 (MQx rvU D al cA ba below args s) 0 0 88 [(0, .ref (al 103)), (1, .int a0), (2, .int x1), (3, .int x5), (4, .int x4)] [] σ10 (j88 x5 σ10)) (fun x5 σ10 => ?_) (fun j88 hj88 => ?_)
        · refine x_iinc (pc := 88) (v := (x4 + (3 : Int32))) (lv' := [(4, .int (x4 + (3 : Int32))), (0, .ref (al 103)), (1, .int a0), (2, .int x1), (3, .int x5)]) g 4 rfl (by rfl) (by decide) rfl dX10_findFit_88 ?_
          refine x_goto (pc := 91) (tgt := 24) g (by decide) dX10_findFit_91 ?_
          refine x_lv [1, 2, 3, 4, 0] rfl ?_
          exact hr24 x5 (x4 + (3 : Int32)) σ10
        · refine x_if_eq (pc := 83) (tgt := 88) g (by decide) dX10_findFit_83 ?_ ?_
          · refine x_lv [1, 2, 3, 4, 5] rfl ?_
            exact hj88 x3 σ9
          · refine x_iconst (pc := 86) (v := (0 : Int32)) g (by decide) dX10_findFit_86 ?_
            refine x_istore_n (pc := 87) (lv' := [(3, .int (0 : Int32)), (5, .int v3), (0, .ref (al 103)), (1, .int a0), (2, .int x1), (4, .int x4)]) g rfl (by decide) rfl dX10_findFit_87 ?_
            refine x_lv [2, 3, 4, 0, 5] rfl ?_
            exact hj88 (0 : Int32) σ9
def B_X10_read_L99 (N : Nat) (x2 : Int32) (j143 : Int32 → Sx → Option (Int32 × Sx)) (r99 : Int32 → Int32 → Sx → Option (Int32 × Sx)) (x5 : Int32) (x6 : Int32) (σ8 : Sx) : Option (Int32 × Sx) := (if (siI σ8 103 43) ≤ x6 then j143 x5 σ8 else aIx 128 1024 x6 σ8 (fun v5 => clx (F_X10_wayIn v5 x2 σ8) (fun v6 σ9 => aIx 128 1024 (0 : Int32) σ9 (fun v7 => clx (F_X10_wayIn v7 x2 σ9) (fun v8 σ10 => nmx (fun (x7 : Int32) (σ11 : Sx) => r99 x7 (x6 + (1 : Int32)) σ11) (fun (j137 : Int32 → Sx → Option (Int32 × Sx)) => (if v6 = v8 then j137 x5 σ10 else j137 (0 : Int32) σ10)))))))
def B_X10_read_L77 (N : Nat) (r77 : Int32 → Int32 → Sx → Option (Int32 × Sx)) (x1 : Int32) (x2 : Int32) (σ5 : Sx) : Option (Int32 × Sx) := (if (siI σ5 103 1) ≤ x2 then some (x1, σ5) else (if (siI σ5 103 43) ≤ 0 then some (x1, σ5) else nmx (fun (x3 : Int32) (σ6 : Sx) => nmx (fun (x4 : Int32) (σ7 : Sx) => r77 x4 (x2 + (1 : Int32)) σ7) (fun (j155 : Int32 → Sx → Option (Int32 × Sx)) => (if x3 = 0 then j155 x1 σ6 else nmx ((x1 ||| (jshl (1 : Int32) x2))) (fun v4 => j155 v4 σ6)))) (fun (j143 : Int32 → Sx → Option (Int32 × Sx)) => lpx2 (B_X10_read_L99 N x2 j143) N (1 : Int32) (1 : Int32) σ5)))
def F_X10_read (N : Nat) (a0 : Int32) (a1 : Int32) (σ0 : Sx) : Option (Int32 × Sx) := clx (F_X10_isShelf a0 σ0) (fun v1 σ1 => (if v1 = 0 then some ((-1 : Int32), σ1) else clx (F_X10_in a1 (0 : Int32) (2 : Int32) σ1) (fun v2 σ2 => (if v2 = 0 then some ((-1 : Int32), σ2) else clx (F_X10_readFault N a0 σ2) (fun v3 σ3 => (if 0 ≤ v3 then clx (F_X10_findFit N a0 σ3) (fun _ σ4 => (if (2 : Int32) ≤ a1 then lpx2 (B_X10_read_L77 N) N (0 : Int32) (0 : Int32) σ4 else (if a1 = 0 then some ((siI σ4 103 43), σ4) else (if (siI σ4 103 43) = 0 then some ((-2 : Int32), σ4) else aIx 128 1024 (0 : Int32) σ4 (fun v9 => some (v9, σ4)))))) else clx (F_X10_readFault N a0 σ3) (fun v10 σ12 => some (v10, σ12))))))))
set_option maxRecDepth 100000 in
set_option maxHeartbeats 4000000 in
theorem mc_X10_read {D : va_G} {al : Nat → Nat} {cA : Nat → ClassId} {ba : Nat} (N : Nat) (a0 : Int32) (a1 : Int32) : MCx D al cA ba yX10_read cX10_read 7 (some .int) 7 167 rvI [.ref (al 103), .int a0, .int a1] (F_X10_read N a0 a1) := by
  refine MCx_of (by decide +kernel) (Nat.le_of_ble_eq_true rfl) ?_
  intro p l e s m args below meth c σ0 g hrt
  unfold F_X10_read
  refine x_lv (lv' := [(0, .ref (al 103)), (1, .int a0), (2, .int a1)]) [0, 1, 2] rfl ?_
  refine x_iload_n (pc := 0) g rfl 1 rfl dX10_read_0 ?_
  refine x_callSI (pc := 1) (As := [.int a0]) g (mc_X10_isShelf a0) cw_X10_isShelf lk_X10_139 rfl ⟨Nat.le_of_ble_eq_true rfl, Nat.le_of_ble_eq_true rfl⟩ rfl (Nat.le_of_ble_eq_true rfl) dX10_read_1 (fun v1 σ1 => ?_)
  refine x_if_eq (pc := 4) (tgt := 16) g (by decide) dX10_read_4 ?_ ?_
  · refine x_iconst (pc := 16) (v := (-1 : Int32)) g (by decide) dX10_read_16 ?_
    exact x_ireturn (pc := 17) g hrt dX10_read_17
  · refine x_iload_n (pc := 7) g rfl 2 rfl dX10_read_7 ?_
    refine x_iconst (pc := 8) (v := (0 : Int32)) g (by decide) dX10_read_8 ?_
    refine x_iconst (pc := 9) (v := (2 : Int32)) g (by decide) dX10_read_9 ?_
    refine x_callSI (pc := 10) (As := [.int a1, .int (0 : Int32), .int (2 : Int32)]) g (mc_X10_in a1 (0 : Int32) (2 : Int32)) cw_X10_in lk_X10_131 rfl ⟨Nat.le_of_ble_eq_true rfl, Nat.le_of_ble_eq_true rfl⟩ rfl (Nat.le_of_ble_eq_true rfl) dX10_read_10 (fun v2 σ2 => ?_)
    refine x_if_ne (pc := 13) (tgt := 18) g (by decide) dX10_read_13 ?_ ?_
    · refine x_aload_n (pc := 18) g rfl 0 rfl dX10_read_18 ?_
      refine x_iload_n (pc := 19) g rfl 1 rfl dX10_read_19 ?_
      refine x_callVI (pc := 20) (As := [.int a0]) g sh_103 (mc_X10_readFault N a0) cw_X10_readFault lk_X10_333 rfl ⟨Nat.le_of_ble_eq_true rfl, Nat.le_of_ble_eq_true rfl⟩ rfl (Nat.le_of_ble_eq_true rfl) dX10_read_20 (fun v3 σ3 => ?_)
      refine x_if_ge (pc := 23) (tgt := 32) g (by decide) dX10_read_23 ?_ ?_
      · refine x_aload_n (pc := 32) g rfl 0 rfl dX10_read_32 ?_
        refine x_iload_n (pc := 33) g rfl 1 rfl dX10_read_33 ?_
        refine x_callVU (pc := 34) (As := [.int a0]) g sh_103 (mc_X10_findFit N a0) cw_X10_findFit lk_X10_336 rfl ⟨Nat.le_of_ble_eq_true rfl, Nat.le_of_ble_eq_true rfl⟩ rfl (Nat.le_of_ble_eq_true rfl) dX10_read_34 (fun _ σ4 => ?_)
        refine x_iload_n (pc := 37) g rfl 2 rfl dX10_read_37 ?_
        refine x_iconst (pc := 38) (v := (2 : Int32)) g (by decide) dX10_read_38 ?_
        refine x_icmp_ge (pc := 39) (tgt := 72) g (by decide) dX10_read_39 ?_ ?_
        · refine x_iconst (pc := 72) (v := (0 : Int32)) g (by decide) dX10_read_72 ?_
          refine x_istore_n (pc := 73) (lv' := [(3, .int (0 : Int32)), (0, .ref (al 103)), (1, .int a0), (2, .int a1)]) g rfl (by decide) rfl dX10_read_73 ?_
          refine x_iconst (pc := 74) (v := (0 : Int32)) g (by decide) dX10_read_74 ?_
          refine x_istore (pc := 75) (lv' := [(4, .int (0 : Int32)), (3, .int (0 : Int32)), (0, .ref (al 103)), (1, .int a0), (2, .int a1)]) g (by decide) rfl dX10_read_75 ?_
          refine x_lv [2, 1, 0] rfl ?_
          refine lpx2_ind (fun (x1 : Int32) (x2 : Int32) (σ5 : Sx) (K : Option (Int32 × Sx)) => XTx p l e { frames := 7, cells := 0, slots := 0, locals := 167 } s m args below meth c D al cA ba 7 (MQx rvI D al cA ba below args s) 0 0 77 [(0, .ref (al 103)), (3, .int x1), (4, .int x2)] [] σ5 (K)) (fun _ _ _ => x_no) (fun r77 hr77 x1 x2 σ5 => ?_) N (0 : Int32) (0 : Int32) σ4
          show XTx p l e { frames := 7, cells := 0, slots := 0, locals := 167 } s m args below meth c D al cA ba 7 (MQx rvI D al cA ba below args s) 0 0 77 [(0, .ref (al 103)), (3, .int x1), (4, .int x2)] [] σ5 (B_X10_read_L77 N r77 x1 x2 σ5)
          unfold B_X10_read_L77
          refine x_iload (pc := 77) g 2 rfl dX10_read_77 ?_
          refine x_aload_n (pc := 79) g rfl 0 rfl dX10_read_79 ?_
          refine x_getI (pc := 80) g sh_103 fl_X10_128 rfl dX10_read_80 ?_
          refine x_icmp_ge (pc := 83) (tgt := 161) g (by decide) dX10_read_83 ?_ ?_
          · refine x_iload_n (pc := 161) g rfl 1 rfl dX10_read_161 ?_
            exact x_ireturn (pc := 162) g hrt dX10_read_162
          · refine x_aload_n (pc := 86) g rfl 0 rfl dX10_read_86 ?_
            refine x_getI (pc := 87) g sh_103 fl_X10_330 rfl dX10_read_87 ?_
            refine x_if_le (pc := 90) (tgt := 161) g (by decide) dX10_read_90 ?_ ?_
            · refine x_iload_n (pc := 161) g rfl 1 rfl dX10_read_161 ?_
              exact x_ireturn (pc := 162) g hrt dX10_read_162
            · refine x_iconst (pc := 93) (v := (1 : Int32)) g (by decide) dX10_read_93 ?_
              refine x_istore (pc := 94) (lv' := [(5, .int (1 : Int32)), (0, .ref (al 103)), (3, .int x1), (4, .int x2)]) g (by decide) rfl dX10_read_94 ?_
              refine x_iconst (pc := 96) (v := (1 : Int32)) g (by decide) dX10_read_96 ?_
              refine x_istore (pc := 97) (lv' := [(6, .int (1 : Int32)), (5, .int (1 : Int32)), (0, .ref (al 103)), (3, .int x1), (4, .int x2)]) g (by decide) rfl dX10_read_97 ?_
              refine x_jn (fun (j143 : Int32 → Sx → Option (Int32 × Sx)) => ∀ (x3 : Int32) (σ6 : Sx), XTx p l e { frames := 7, cells := 0, slots := 0, locals := 167 } s m args below meth c D al cA ba 7 (MQx rvI D al cA ba below args s) 0 0 143 [(0, .ref (al 103)), (3, .int x1), (4, .int x2), (5, .int x3)] [] σ6 (j143 x3 σ6)) (fun x3 σ6 => ?_) (fun j143 hj143 => ?_)
              · refine x_iload (pc := 143) g 3 rfl dX10_read_143 ?_
                refine x_jn (fun (j155 : Int32 → Sx → Option (Int32 × Sx)) => ∀ (x4 : Int32) (σ7 : Sx), XTx p l e { frames := 7, cells := 0, slots := 0, locals := 167 } s m args below meth c D al cA ba 7 (MQx rvI D al cA ba below args s) 0 0 155 [(0, .ref (al 103)), (3, .int x4), (4, .int x2)] [] σ7 (j155 x4 σ7)) (fun x4 σ7 => ?_) (fun j155 hj155 => ?_)
                · refine x_iinc (pc := 155) (v := (x2 + (1 : Int32))) (lv' := [(4, .int (x2 + (1 : Int32))), (0, .ref (al 103)), (3, .int x4)]) g 2 rfl (by rfl) (by decide) rfl dX10_read_155 ?_
                  refine x_goto (pc := 158) (tgt := 77) g (by decide) dX10_read_158 ?_
                  refine x_lv [1, 2, 0] rfl ?_
                  exact hr77 x4 (x2 + (1 : Int32)) σ7
                · refine x_if_eq (pc := 145) (tgt := 155) g (by decide) dX10_read_145 ?_ ?_
                  · refine x_lv [0, 1, 2] rfl ?_
                    exact hj155 x1 σ6
                  · refine x_iload_n (pc := 148) g rfl 1 rfl dX10_read_148 ?_
                    refine x_iconst (pc := 149) (v := (1 : Int32)) g (by decide) dX10_read_149 ?_
                    refine x_iload (pc := 150) g 2 rfl dX10_read_150 ?_
                    refine x_ishl (pc := 152) g dX10_read_152 ?_
                    refine x_ior (pc := 153) g dX10_read_153 ?_
                    refine x_nm (fun v4 => ?_)
                    refine x_istore_n (pc := 154) (lv' := [(3, .int v4), (0, .ref (al 103)), (4, .int x2), (5, .int x3)]) g rfl (by decide) rfl dX10_read_154 ?_
                    refine x_lv [1, 0, 2] rfl ?_
                    exact hj155 v4 σ6
              · refine x_lv [2, 3, 4, 1, 0] rfl ?_
                refine lpx2_ind (fun (x5 : Int32) (x6 : Int32) (σ8 : Sx) (K : Option (Int32 × Sx)) => XTx p l e { frames := 7, cells := 0, slots := 0, locals := 167 } s m args below meth c D al cA ba 7 (MQx rvI D al cA ba below args s) 0 0 99 [(0, .ref (al 103)), (3, .int x1), (4, .int x2), (5, .int x5), (6, .int x6)] [] σ8 (K)) (fun _ _ _ => x_no) (fun r99 hr99 x5 x6 σ8 => ?_) N (1 : Int32) (1 : Int32) σ5
                show XTx p l e { frames := 7, cells := 0, slots := 0, locals := 167 } s m args below meth c D al cA ba 7 (MQx rvI D al cA ba below args s) 0 0 99 [(0, .ref (al 103)), (3, .int x1), (4, .int x2), (5, .int x5), (6, .int x6)] [] σ8 (B_X10_read_L99 N x2 j143 r99 x5 x6 σ8)
                unfold B_X10_read_L99
                refine x_iload (pc := 99) g 4 rfl dX10_read_99 ?_
                refine x_aload_n (pc := 101) g rfl 0 rfl dX10_read_101 ?_
                refine x_getI (pc := 102) g sh_103 fl_X10_330 rfl dX10_read_102 ?_
                refine x_icmp_ge (pc := 105) (tgt := 143) g (by decide) dX10_read_105 ?_ ?_
                · refine x_lv [0, 1, 2, 3] rfl ?_
                  exact hj143 x5 σ8
                · refine x_aload_n (pc := 108) g rfl 0 rfl dX10_read_108 ?_
                  refine x_getR (pc := 109) g sh_103 fl_X10_91 rfl dX10_read_109 ?_
                  refine x_iload (pc := 112) g 4 rfl dX10_read_112 ?_
                  refine x_iald (pc := 114) g sh_128 (by decide) dX10_read_114 (fun v5 => ?_)
                  refine x_iload (pc := 115) g 2 rfl dX10_read_115 ?_
                  refine x_callSI (pc := 117) (As := [.int v5, .int x2]) g (mc_X10_wayIn v5 x2) cw_X10_wayIn lk_X10_259 rfl ⟨Nat.le_of_ble_eq_true rfl, Nat.le_of_ble_eq_true rfl⟩ rfl (Nat.le_of_ble_eq_true rfl) dX10_read_117 (fun v6 σ9 => ?_)
                  refine x_aload_n (pc := 120) g rfl 0 rfl dX10_read_120 ?_
                  refine x_getR (pc := 121) g sh_103 fl_X10_91 rfl dX10_read_121 ?_
                  refine x_iconst (pc := 124) (v := (0 : Int32)) g (by decide) dX10_read_124 ?_
                  refine x_iald (pc := 125) g sh_128 (by decide) dX10_read_125 (fun v7 => ?_)
                  refine x_iload (pc := 126) g 2 rfl dX10_read_126 ?_
                  refine x_callSI (pc := 128) (As := [.int v7, .int x2]) g (mc_X10_wayIn v7 x2) cw_X10_wayIn lk_X10_259 rfl ⟨Nat.le_of_ble_eq_true rfl, Nat.le_of_ble_eq_true rfl⟩ rfl (Nat.le_of_ble_eq_true rfl) dX10_read_128 (fun v8 σ10 => ?_)
                  refine x_jn (fun (j137 : Int32 → Sx → Option (Int32 × Sx)) => ∀ (x7 : Int32) (σ11 : Sx), XTx p l e { frames := 7, cells := 0, slots := 0, locals := 167 } s m args below meth c D al cA ba 7 (MQx rvI D al cA ba below args s) 0 0 137 [(0, .ref (al 103)), (3, .int x1), (4, .int x2), (5, .int x7), (6, .int x6)] [] σ11 (j137 x7 σ11)) (fun x7 σ11 => ?_) (fun j137 hj137 => ?_)
                  · refine x_iinc (pc := 137) (v := (x6 + (1 : Int32))) (lv' := [(6, .int (x6 + (1 : Int32))), (0, .ref (al 103)), (3, .int x1), (4, .int x2), (5, .int x7)]) g 4 rfl (by rfl) (by decide) rfl dX10_read_137 ?_
                    refine x_goto (pc := 140) (tgt := 99) g (by decide) dX10_read_140 ?_
                    refine x_lv [1, 2, 3, 4, 0] rfl ?_
                    exact hr99 x7 (x6 + (1 : Int32)) σ11
                  · refine x_icmp_eq (pc := 131) (tgt := 137) g (by decide) dX10_read_131 ?_ ?_
                    · exact hj137 x5 σ10
                    · refine x_iconst (pc := 134) (v := (0 : Int32)) g (by decide) dX10_read_134 ?_
                      refine x_istore (pc := 135) (lv' := [(5, .int (0 : Int32)), (0, .ref (al 103)), (3, .int x1), (4, .int x2), (6, .int x6)]) g (by decide) rfl dX10_read_135 ?_
                      refine x_lv [1, 2, 3, 0, 4] rfl ?_
                      exact hj137 (0 : Int32) σ10
        · refine x_iload_n (pc := 42) g rfl 2 rfl dX10_read_42 ?_
          refine x_if_ne (pc := 43) (tgt := 53) g (by decide) dX10_read_43 ?_ ?_
          · refine x_aload_n (pc := 53) g rfl 0 rfl dX10_read_53 ?_
            refine x_getI (pc := 54) g sh_103 fl_X10_330 rfl dX10_read_54 ?_
            refine x_if_ne (pc := 57) (tgt := 65) g (by decide) dX10_read_57 ?_ ?_
            · refine x_aload_n (pc := 65) g rfl 0 rfl dX10_read_65 ?_
              refine x_getR (pc := 66) g sh_103 fl_X10_91 rfl dX10_read_66 ?_
              refine x_iconst (pc := 69) (v := (0 : Int32)) g (by decide) dX10_read_69 ?_
              refine x_iald (pc := 70) g sh_128 (by decide) dX10_read_70 (fun v9 => ?_)
              exact x_ireturn (pc := 71) g hrt dX10_read_71
            · refine x_bipush (pc := 60) (v := (-2 : Int32)) g (by decide) dX10_read_60 ?_
              refine x_goto (pc := 62) (tgt := 71) g (by decide) dX10_read_62 ?_
              exact x_ireturn (pc := 71) g hrt dX10_read_71
          · refine x_aload_n (pc := 46) g rfl 0 rfl dX10_read_46 ?_
            refine x_getI (pc := 47) g sh_103 fl_X10_330 rfl dX10_read_47 ?_
            refine x_goto (pc := 50) (tgt := 71) g (by decide) dX10_read_50 ?_
            exact x_ireturn (pc := 71) g hrt dX10_read_71
      · refine x_aload_n (pc := 26) g rfl 0 rfl dX10_read_26 ?_
        refine x_iload_n (pc := 27) g rfl 1 rfl dX10_read_27 ?_
        refine x_callVI (pc := 28) (As := [.int a0]) g sh_103 (mc_X10_readFault N a0) cw_X10_readFault lk_X10_333 rfl ⟨Nat.le_of_ble_eq_true rfl, Nat.le_of_ble_eq_true rfl⟩ rfl (Nat.le_of_ble_eq_true rfl) dX10_read_28 (fun v10 σ12 => ?_)
        exact x_ireturn (pc := 31) g hrt dX10_read_31
    · refine x_iconst (pc := 16) (v := (-1 : Int32)) g (by decide) dX10_read_16 ?_
      exact x_ireturn (pc := 17) g hrt dX10_read_17
def B_X10_mostAlike_L26 (N : Nat) (a0 : Int32) (a1 : Int32) (r26 : Int32 → Int32 → Sx → Option (Int32 × Sx)) (x1 : Int32) (x2 : Int32) (σ2 : Sx) : Option (Int32 × Sx) := (if (siI σ2 103 43) ≤ x2 then some (x1, σ2) else aIx 128 1024 x2 σ2 (fun v1 => clx (F_X10_seesOn N v1 a0 a1 σ2) (fun v2 σ3 => aIx 129 32 v2 σ3 (fun v3 => sIx 129 32 v2 (v3 + (1 : Int32)) σ3 (fun σ4 => aIx 129 32 v2 σ4 (fun v4 => nmx (fun (x3 : Int32) (σ5 : Sx) => r26 x3 (x2 + (1 : Int32)) σ5) (fun (j80 : Int32 → Sx → Option (Int32 × Sx)) => (if v4 ≤ x1 then j80 x1 σ4 else aIx 129 32 v2 σ4 (fun v5 => j80 v5 σ4)))))))))
def B_X10_mostAlike_L2 (N : Nat) (j21 : Sx → Option (Int32 × Sx)) (r2 : Int32 → Sx → Option (Int32 × Sx)) (x4 : Int32) (σ6 : Sx) : Option (Int32 × Sx) := (if (32 : Int32) ≤ x4 then j21 σ6 else sIx 129 32 x4 (0 : Int32) σ6 (fun σ7 => r2 (x4 + (1 : Int32)) σ7))
def F_X10_mostAlike (N : Nat) (a0 : Int32) (a1 : Int32) (σ0 : Sx) : Option (Int32 × Sx) := nmx (fun (σ1 : Sx) => lpx2 (B_X10_mostAlike_L26 N a0 a1) N (0 : Int32) (0 : Int32) σ1) (fun (j21 : Sx → Option (Int32 × Sx)) => lpx1 (B_X10_mostAlike_L2 N j21) N (0 : Int32) σ0)
set_option maxRecDepth 100000 in
set_option maxHeartbeats 4000000 in
theorem mc_X10_mostAlike {D : va_G} {al : Nat → Nat} {cA : Nat → ClassId} {ba : Nat} (N : Nat) (a0 : Int32) (a1 : Int32) : MCx D al cA ba yX10_mostAlike cX10_mostAlike 6 (some .int) 2 51 rvI [.ref (al 103), .int a0, .int a1] (F_X10_mostAlike N a0 a1) := by
  refine MCx_of (by decide +kernel) (Nat.le_of_ble_eq_true rfl) ?_
  intro p l e s m args below meth c σ0 g hrt
  unfold F_X10_mostAlike
  refine x_lv (lv' := [(0, .ref (al 103)), (1, .int a0), (2, .int a1)]) [0, 1, 2] rfl ?_
  refine x_iconst (pc := 0) (v := (0 : Int32)) g (by decide) dX10_mostAlike_0 ?_
  refine x_istore_n (pc := 1) (lv' := [(3, .int (0 : Int32)), (0, .ref (al 103)), (1, .int a0), (2, .int a1)]) g rfl (by decide) rfl dX10_mostAlike_1 ?_
  refine x_jn (fun (j21 : Sx → Option (Int32 × Sx)) => ∀ (σ1 : Sx), XTx p l e { frames := 2, cells := 0, slots := 0, locals := 51 } s m args below meth c D al cA ba 6 (MQx rvI D al cA ba below args s) 0 0 21 [(0, .ref (al 103)), (1, .int a0), (2, .int a1)] [] σ1 (j21 σ1)) (fun σ1 => ?_) (fun j21 hj21 => ?_)
  · refine x_iconst (pc := 21) (v := (0 : Int32)) g (by decide) dX10_mostAlike_21 ?_
    refine x_istore_n (pc := 22) (lv' := [(3, .int (0 : Int32)), (0, .ref (al 103)), (1, .int a0), (2, .int a1)]) g rfl (by decide) rfl dX10_mostAlike_22 ?_
    refine x_iconst (pc := 23) (v := (0 : Int32)) g (by decide) dX10_mostAlike_23 ?_
    refine x_istore (pc := 24) (lv' := [(4, .int (0 : Int32)), (3, .int (0 : Int32)), (0, .ref (al 103)), (1, .int a0), (2, .int a1)]) g (by decide) rfl dX10_mostAlike_24 ?_
    refine x_lv [2, 3, 4, 1, 0] rfl ?_
    refine lpx2_ind (fun (x1 : Int32) (x2 : Int32) (σ2 : Sx) (K : Option (Int32 × Sx)) => XTx p l e { frames := 2, cells := 0, slots := 0, locals := 51 } s m args below meth c D al cA ba 6 (MQx rvI D al cA ba below args s) 0 0 26 [(0, .ref (al 103)), (1, .int a0), (2, .int a1), (3, .int x1), (4, .int x2)] [] σ2 (K)) (fun _ _ _ => x_no) (fun r26 hr26 x1 x2 σ2 => ?_) N (0 : Int32) (0 : Int32) σ1
    show XTx p l e { frames := 2, cells := 0, slots := 0, locals := 51 } s m args below meth c D al cA ba 6 (MQx rvI D al cA ba below args s) 0 0 26 [(0, .ref (al 103)), (1, .int a0), (2, .int a1), (3, .int x1), (4, .int x2)] [] σ2 (B_X10_mostAlike_L26 N a0 a1 r26 x1 x2 σ2)
    unfold B_X10_mostAlike_L26
    refine x_iload (pc := 26) g 4 rfl dX10_mostAlike_26 ?_
    refine x_aload_n (pc := 28) g rfl 0 rfl dX10_mostAlike_28 ?_
    refine x_getI (pc := 29) g sh_103 fl_X10_330 rfl dX10_mostAlike_29 ?_
    refine x_icmp_ge (pc := 32) (tgt := 86) g (by decide) dX10_mostAlike_32 ?_ ?_
    · refine x_iload_n (pc := 86) g rfl 3 rfl dX10_mostAlike_86 ?_
      exact x_ireturn (pc := 87) g hrt dX10_mostAlike_87
    · refine x_aload_n (pc := 35) g rfl 0 rfl dX10_mostAlike_35 ?_
      refine x_aload_n (pc := 36) g rfl 0 rfl dX10_mostAlike_36 ?_
      refine x_getR (pc := 37) g sh_103 fl_X10_91 rfl dX10_mostAlike_37 ?_
      refine x_iload (pc := 40) g 4 rfl dX10_mostAlike_40 ?_
      refine x_iald (pc := 42) g sh_128 (by decide) dX10_mostAlike_42 (fun v1 => ?_)
      refine x_iload_n (pc := 43) g rfl 1 rfl dX10_mostAlike_43 ?_
      refine x_iload_n (pc := 44) g rfl 2 rfl dX10_mostAlike_44 ?_
      refine x_callVI (pc := 45) (As := [.int v1, .int a0, .int a1]) g sh_103 (mc_X10_seesOn N v1 a0 a1) cw_X10_seesOn lk_X10_314 rfl ⟨Nat.le_of_ble_eq_true rfl, Nat.le_of_ble_eq_true rfl⟩ rfl (Nat.le_of_ble_eq_true rfl) dX10_mostAlike_45 (fun v2 σ3 => ?_)
      refine x_istore (pc := 48) (lv' := [(5, .int v2), (0, .ref (al 103)), (1, .int a0), (2, .int a1), (3, .int x1), (4, .int x2)]) g (by decide) rfl dX10_mostAlike_48 ?_
      refine x_aload_n (pc := 50) g rfl 1 rfl dX10_mostAlike_50 ?_
      refine x_getR (pc := 51) g sh_103 fl_X10_94 rfl dX10_mostAlike_51 ?_
      refine x_iload (pc := 54) g 0 rfl dX10_mostAlike_54 ?_
      refine x_dup2 (pc := 56) g rfl rfl dX10_mostAlike_56 ?_
      refine x_iald (pc := 57) g sh_129 (by decide) dX10_mostAlike_57 (fun v3 => ?_)
      refine x_iconst (pc := 58) (v := (1 : Int32)) g (by decide) dX10_mostAlike_58 ?_
      refine x_iadd (pc := 59) g dX10_mostAlike_59 ?_
      refine x_iast (pc := 60) g sh_129 (by decide) dX10_mostAlike_60 (fun σ4 => ?_)
      refine x_aload_n (pc := 61) g rfl 1 rfl dX10_mostAlike_61 ?_
      refine x_getR (pc := 62) g sh_103 fl_X10_94 rfl dX10_mostAlike_62 ?_
      refine x_iload (pc := 65) g 0 rfl dX10_mostAlike_65 ?_
      refine x_iald (pc := 67) g sh_129 (by decide) dX10_mostAlike_67 (fun v4 => ?_)
      refine x_iload_n (pc := 68) g rfl 4 rfl dX10_mostAlike_68 ?_
      refine x_jn (fun (j80 : Int32 → Sx → Option (Int32 × Sx)) => ∀ (x3 : Int32) (σ5 : Sx), XTx p l e { frames := 2, cells := 0, slots := 0, locals := 51 } s m args below meth c D al cA ba 6 (MQx rvI D al cA ba below args s) 0 0 80 [(0, .ref (al 103)), (1, .int a0), (2, .int a1), (3, .int x3), (4, .int x2)] [] σ5 (j80 x3 σ5)) (fun x3 σ5 => ?_) (fun j80 hj80 => ?_)
      · refine x_iinc (pc := 80) (v := (x2 + (1 : Int32))) (lv' := [(4, .int (x2 + (1 : Int32))), (0, .ref (al 103)), (1, .int a0), (2, .int a1), (3, .int x3)]) g 4 rfl (by rfl) (by decide) rfl dX10_mostAlike_80 ?_
        refine x_goto (pc := 83) (tgt := 26) g (by decide) dX10_mostAlike_83 ?_
        refine x_lv [1, 2, 3, 4, 0] rfl ?_
        exact hr26 x3 (x2 + (1 : Int32)) σ5
      · refine x_icmp_le (pc := 69) (tgt := 80) g (by decide) dX10_mostAlike_69 ?_ ?_
        · refine x_lv [1, 2, 3, 4, 5] rfl ?_
          exact hj80 x1 σ4
        · refine x_aload_n (pc := 72) g rfl 1 rfl dX10_mostAlike_72 ?_
          refine x_getR (pc := 73) g sh_103 fl_X10_94 rfl dX10_mostAlike_73 ?_
          refine x_iload (pc := 76) g 0 rfl dX10_mostAlike_76 ?_
          refine x_iald (pc := 78) g sh_129 (by decide) dX10_mostAlike_78 (fun v5 => ?_)
          refine x_istore_n (pc := 79) (lv' := [(3, .int v5), (5, .int v2), (0, .ref (al 103)), (1, .int a0), (2, .int a1), (4, .int x2)]) g rfl (by decide) rfl dX10_mostAlike_79 ?_
          refine x_lv [2, 3, 4, 0, 5] rfl ?_
          exact hj80 v5 σ4
  · refine x_lv [1, 2, 3, 0] rfl ?_
    refine lpx1_ind (fun (x4 : Int32) (σ6 : Sx) (K : Option (Int32 × Sx)) => XTx p l e { frames := 2, cells := 0, slots := 0, locals := 51 } s m args below meth c D al cA ba 6 (MQx rvI D al cA ba below args s) 0 0 2 [(0, .ref (al 103)), (1, .int a0), (2, .int a1), (3, .int x4)] [] σ6 (K)) (fun _ _ => x_no) (fun r2 hr2 x4 σ6 => ?_) N (0 : Int32) σ0
    show XTx p l e { frames := 2, cells := 0, slots := 0, locals := 51 } s m args below meth c D al cA ba 6 (MQx rvI D al cA ba below args s) 0 0 2 [(0, .ref (al 103)), (1, .int a0), (2, .int a1), (3, .int x4)] [] σ6 (B_X10_mostAlike_L2 N j21 r2 x4 σ6)
    unfold B_X10_mostAlike_L2
    refine x_iload_n (pc := 2) g rfl 3 rfl dX10_mostAlike_2 ?_
    refine x_bipush (pc := 3) (v := (32 : Int32)) g (by decide) dX10_mostAlike_3 ?_
    refine x_icmp_ge (pc := 5) (tgt := 21) g (by decide) dX10_mostAlike_5 ?_ ?_
    · refine x_lv [0, 1, 2] rfl ?_
      exact hj21 σ6
    · refine x_aload_n (pc := 8) g rfl 0 rfl dX10_mostAlike_8 ?_
      refine x_getR (pc := 9) g sh_103 fl_X10_94 rfl dX10_mostAlike_9 ?_
      refine x_iload_n (pc := 12) g rfl 3 rfl dX10_mostAlike_12 ?_
      refine x_iconst (pc := 13) (v := (0 : Int32)) g (by decide) dX10_mostAlike_13 ?_
      refine x_iast (pc := 14) g sh_129 (by decide) dX10_mostAlike_14 (fun σ7 => ?_)
      refine x_iinc (pc := 15) (v := (x4 + (1 : Int32))) (lv' := [(3, .int (x4 + (1 : Int32))), (0, .ref (al 103)), (1, .int a0), (2, .int a1)]) g 3 rfl (by rfl) (by decide) rfl dX10_mostAlike_15 ?_
      refine x_goto (pc := 18) (tgt := 2) g (by decide) dX10_mostAlike_18 ?_
      refine x_lv [1, 2, 3, 0] rfl ?_
      exact hr2 (x4 + (1 : Int32)) σ7
def B_X10_look_L56 (N : Nat) (x3 : Int32) (j104 : Int32 → Int32 → Sx → Option (Int32 × Sx)) (r56 : Int32 → Int32 → Int32 → Sx → Option (Int32 × Sx)) (x6 : Int32) (x7 : Int32) (x8 : Int32) (σ6 : Sx) : Option (Int32 × Sx) := (if (8 : Int32) ≤ x8 then j104 x6 x7 σ6 else clx (F_X10_mostAlike N x8 x3 σ6) (fun v3 σ7 => nmx (fun (x9 : Int32) (x10 : Int32) (σ8 : Sx) => r56 x9 x10 (x8 + (1 : Int32)) σ8) (fun (j98 : Int32 → Int32 → Sx → Option (Int32 × Sx)) => nmx (fun (σ9 : Sx) => nmx ((((10 : Int32) * x3) + x8)) (fun v4 => j98 v4 v3 σ9)) (fun (j86 : Sx → Option (Int32 × Sx)) => (if x6 < 0 then j86 σ7 else (if v3 < x7 then j86 σ7 else j98 x6 x7 σ7))))))
def B_X10_look_L46 (N : Nat) (r46 : Int32 → Int32 → Int32 → Sx → Option (Int32 × Sx)) (x1 : Int32) (x2 : Int32) (x3 : Int32) (σ4 : Sx) : Option (Int32 × Sx) := (if (60 : Int32) < x3 then some (x1, σ4) else nmx (fun (x4 : Int32) (x5 : Int32) (σ5 : Sx) => r46 x4 x5 (x3 + (1 : Int32)) σ5) (fun (j104 : Int32 → Int32 → Sx → Option (Int32 × Sx)) => lpx3 (B_X10_look_L56 N x3 j104) N x1 x2 (0 : Int32) σ4))
def F_X10_look (N : Nat) (a0 : Int32) (σ0 : Sx) : Option (Int32 × Sx) := clx (F_X10_isShelf a0 σ0) (fun v1 σ1 => (if v1 = 0 then some ((-1 : Int32), σ1) else clx (F_X10_readFault N a0 σ1) (fun v2 σ2 => (if 0 ≤ v2 then clx (F_X10_findFit N a0 σ2) (fun _ σ3 => (if (2 : Int32) ≤ (siI σ3 103 43) then lpx3 (B_X10_look_L46 N) N (-1 : Int32) (0 : Int32) (0 : Int32) σ3 else some ((-2 : Int32), σ3))) else clx (F_X10_readFault N a0 σ2) (fun v5 σ10 => some (v5, σ10))))))
set_option maxRecDepth 100000 in
set_option maxHeartbeats 4000000 in
theorem mc_X10_look {D : va_G} {al : Nat → Nat} {cA : Nat → ClassId} {ba : Nat} (N : Nat) (a0 : Int32) : MCx D al cA ba yX10_look cX10_look 7 (some .int) 7 167 rvI [.ref (al 103), .int a0] (F_X10_look N a0) := by
  refine MCx_of (by decide +kernel) (Nat.le_of_ble_eq_true rfl) ?_
  intro p l e s m args below meth c σ0 g hrt
  unfold F_X10_look
  refine x_lv (lv' := [(0, .ref (al 103)), (1, .int a0)]) [0, 1] rfl ?_
  refine x_iload_n (pc := 0) g rfl 1 rfl dX10_look_0 ?_
  refine x_callSI (pc := 1) (As := [.int a0]) g (mc_X10_isShelf a0) cw_X10_isShelf lk_X10_139 rfl ⟨Nat.le_of_ble_eq_true rfl, Nat.le_of_ble_eq_true rfl⟩ rfl (Nat.le_of_ble_eq_true rfl) dX10_look_1 (fun v1 σ1 => ?_)
  refine x_if_ne (pc := 4) (tgt := 9) g (by decide) dX10_look_4 ?_ ?_
  · refine x_aload_n (pc := 9) g rfl 0 rfl dX10_look_9 ?_
    refine x_iload_n (pc := 10) g rfl 1 rfl dX10_look_10 ?_
    refine x_callVI (pc := 11) (As := [.int a0]) g sh_103 (mc_X10_readFault N a0) cw_X10_readFault lk_X10_333 rfl ⟨Nat.le_of_ble_eq_true rfl, Nat.le_of_ble_eq_true rfl⟩ rfl (Nat.le_of_ble_eq_true rfl) dX10_look_11 (fun v2 σ2 => ?_)
    refine x_if_ge (pc := 14) (tgt := 23) g (by decide) dX10_look_14 ?_ ?_
    · refine x_aload_n (pc := 23) g rfl 0 rfl dX10_look_23 ?_
      refine x_iload_n (pc := 24) g rfl 1 rfl dX10_look_24 ?_
      refine x_callVU (pc := 25) (As := [.int a0]) g sh_103 (mc_X10_findFit N a0) cw_X10_findFit lk_X10_336 rfl ⟨Nat.le_of_ble_eq_true rfl, Nat.le_of_ble_eq_true rfl⟩ rfl (Nat.le_of_ble_eq_true rfl) dX10_look_25 (fun _ σ3 => ?_)
      refine x_aload_n (pc := 28) g rfl 0 rfl dX10_look_28 ?_
      refine x_getI (pc := 29) g sh_103 fl_X10_330 rfl dX10_look_29 ?_
      refine x_iconst (pc := 32) (v := (2 : Int32)) g (by decide) dX10_look_32 ?_
      refine x_icmp_ge (pc := 33) (tgt := 39) g (by decide) dX10_look_33 ?_ ?_
      · refine x_iconst (pc := 39) (v := (-1 : Int32)) g (by decide) dX10_look_39 ?_
        refine x_istore_n (pc := 40) (lv' := [(2, .int (-1 : Int32)), (0, .ref (al 103)), (1, .int a0)]) g rfl (by decide) rfl dX10_look_40 ?_
        refine x_iconst (pc := 41) (v := (0 : Int32)) g (by decide) dX10_look_41 ?_
        refine x_istore_n (pc := 42) (lv' := [(3, .int (0 : Int32)), (2, .int (-1 : Int32)), (0, .ref (al 103)), (1, .int a0)]) g rfl (by decide) rfl dX10_look_42 ?_
        refine x_iconst (pc := 43) (v := (0 : Int32)) g (by decide) dX10_look_43 ?_
        refine x_istore (pc := 44) (lv' := [(4, .int (0 : Int32)), (3, .int (0 : Int32)), (2, .int (-1 : Int32)), (0, .ref (al 103)), (1, .int a0)]) g (by decide) rfl dX10_look_44 ?_
        refine x_lv [3, 2, 1, 0] rfl ?_
        refine lpx3_ind (fun (x1 : Int32) (x2 : Int32) (x3 : Int32) (σ4 : Sx) (K : Option (Int32 × Sx)) => XTx p l e { frames := 7, cells := 0, slots := 0, locals := 167 } s m args below meth c D al cA ba 7 (MQx rvI D al cA ba below args s) 0 0 46 [(0, .ref (al 103)), (2, .int x1), (3, .int x2), (4, .int x3)] [] σ4 (K)) (fun _ _ _ _ => x_no) (fun r46 hr46 x1 x2 x3 σ4 => ?_) N (-1 : Int32) (0 : Int32) (0 : Int32) σ3
        show XTx p l e { frames := 7, cells := 0, slots := 0, locals := 167 } s m args below meth c D al cA ba 7 (MQx rvI D al cA ba below args s) 0 0 46 [(0, .ref (al 103)), (2, .int x1), (3, .int x2), (4, .int x3)] [] σ4 (B_X10_look_L46 N r46 x1 x2 x3 σ4)
        unfold B_X10_look_L46
        refine x_iload (pc := 46) g 3 rfl dX10_look_46 ?_
        refine x_bipush (pc := 48) (v := (60 : Int32)) g (by decide) dX10_look_48 ?_
        refine x_icmp_gt (pc := 50) (tgt := 110) g (by decide) dX10_look_50 ?_ ?_
        · refine x_iload_n (pc := 110) g rfl 1 rfl dX10_look_110 ?_
          exact x_ireturn (pc := 111) g hrt dX10_look_111
        · refine x_iconst (pc := 53) (v := (0 : Int32)) g (by decide) dX10_look_53 ?_
          refine x_istore (pc := 54) (lv' := [(5, .int (0 : Int32)), (0, .ref (al 103)), (2, .int x1), (3, .int x2), (4, .int x3)]) g (by decide) rfl dX10_look_54 ?_
          refine x_jn (fun (j104 : Int32 → Int32 → Sx → Option (Int32 × Sx)) => ∀ (x4 : Int32) (x5 : Int32) (σ5 : Sx), XTx p l e { frames := 7, cells := 0, slots := 0, locals := 167 } s m args below meth c D al cA ba 7 (MQx rvI D al cA ba below args s) 0 0 104 [(0, .ref (al 103)), (2, .int x4), (3, .int x5), (4, .int x3)] [] σ5 (j104 x4 x5 σ5)) (fun x4 x5 σ5 => ?_) (fun j104 hj104 => ?_)
          · refine x_iinc (pc := 104) (v := (x3 + (1 : Int32))) (lv' := [(4, .int (x3 + (1 : Int32))), (0, .ref (al 103)), (2, .int x4), (3, .int x5)]) g 3 rfl (by rfl) (by decide) rfl dX10_look_104 ?_
            refine x_goto (pc := 107) (tgt := 46) g (by decide) dX10_look_107 ?_
            refine x_lv [1, 2, 3, 0] rfl ?_
            exact hr46 x4 x5 (x3 + (1 : Int32)) σ5
          · refine x_lv [1, 2, 3, 4, 0] rfl ?_
            refine lpx3_ind (fun (x6 : Int32) (x7 : Int32) (x8 : Int32) (σ6 : Sx) (K : Option (Int32 × Sx)) => XTx p l e { frames := 7, cells := 0, slots := 0, locals := 167 } s m args below meth c D al cA ba 7 (MQx rvI D al cA ba below args s) 0 0 56 [(0, .ref (al 103)), (2, .int x6), (3, .int x7), (4, .int x3), (5, .int x8)] [] σ6 (K)) (fun _ _ _ _ => x_no) (fun r56 hr56 x6 x7 x8 σ6 => ?_) N x1 x2 (0 : Int32) σ4
            show XTx p l e { frames := 7, cells := 0, slots := 0, locals := 167 } s m args below meth c D al cA ba 7 (MQx rvI D al cA ba below args s) 0 0 56 [(0, .ref (al 103)), (2, .int x6), (3, .int x7), (4, .int x3), (5, .int x8)] [] σ6 (B_X10_look_L56 N x3 j104 r56 x6 x7 x8 σ6)
            unfold B_X10_look_L56
            refine x_iload (pc := 56) g 4 rfl dX10_look_56 ?_
            refine x_bipush (pc := 58) (v := (8 : Int32)) g (by decide) dX10_look_58 ?_
            refine x_icmp_ge (pc := 60) (tgt := 104) g (by decide) dX10_look_60 ?_ ?_
            · refine x_lv [0, 1, 2, 3] rfl ?_
              exact hj104 x6 x7 σ6
            · refine x_aload_n (pc := 63) g rfl 0 rfl dX10_look_63 ?_
              refine x_iload (pc := 64) g 4 rfl dX10_look_64 ?_
              refine x_iload (pc := 66) g 3 rfl dX10_look_66 ?_
              refine x_callVI (pc := 68) (As := [.int x8, .int x3]) g sh_103 (mc_X10_mostAlike N x8 x3) cw_X10_mostAlike lk_X10_339 rfl ⟨Nat.le_of_ble_eq_true rfl, Nat.le_of_ble_eq_true rfl⟩ rfl (Nat.le_of_ble_eq_true rfl) dX10_look_68 (fun v3 σ7 => ?_)
              refine x_istore (pc := 71) (lv' := [(6, .int v3), (0, .ref (al 103)), (2, .int x6), (3, .int x7), (4, .int x3), (5, .int x8)]) g (by decide) rfl dX10_look_71 ?_
              refine x_iload_n (pc := 73) g rfl 2 rfl dX10_look_73 ?_
              refine x_jn (fun (j98 : Int32 → Int32 → Sx → Option (Int32 × Sx)) => ∀ (x9 : Int32) (x10 : Int32) (σ8 : Sx), XTx p l e { frames := 7, cells := 0, slots := 0, locals := 167 } s m args below meth c D al cA ba 7 (MQx rvI D al cA ba below args s) 0 0 98 [(0, .ref (al 103)), (2, .int x9), (3, .int x10), (4, .int x3), (5, .int x8)] [] σ8 (j98 x9 x10 σ8)) (fun x9 x10 σ8 => ?_) (fun j98 hj98 => ?_)
              · refine x_iinc (pc := 98) (v := (x8 + (1 : Int32))) (lv' := [(5, .int (x8 + (1 : Int32))), (0, .ref (al 103)), (2, .int x9), (3, .int x10), (4, .int x3)]) g 4 rfl (by rfl) (by decide) rfl dX10_look_98 ?_
                refine x_goto (pc := 101) (tgt := 56) g (by decide) dX10_look_101 ?_
                refine x_lv [1, 2, 3, 4, 0] rfl ?_
                exact hr56 x9 x10 (x8 + (1 : Int32)) σ8
              · refine x_jn (fun (j86 : Sx → Option (Int32 × Sx)) => ∀ (σ9 : Sx), XTx p l e { frames := 7, cells := 0, slots := 0, locals := 167 } s m args below meth c D al cA ba 7 (MQx rvI D al cA ba below args s) 0 0 86 [(0, .ref (al 103)), (4, .int x3), (5, .int x8), (6, .int v3)] [] σ9 (j86 σ9)) (fun σ9 => ?_) (fun j86 hj86 => ?_)
                · refine x_bipush (pc := 86) (v := (10 : Int32)) g (by decide) dX10_look_86 ?_
                  refine x_iload (pc := 88) g 1 rfl dX10_look_88 ?_
                  refine x_imul (pc := 90) g dX10_look_90 ?_
                  refine x_iload (pc := 91) g 2 rfl dX10_look_91 ?_
                  refine x_iadd (pc := 93) g dX10_look_93 ?_
                  refine x_nm (fun v4 => ?_)
                  refine x_istore_n (pc := 94) (lv' := [(2, .int v4), (0, .ref (al 103)), (4, .int x3), (5, .int x8), (6, .int v3)]) g rfl (by decide) rfl dX10_look_94 ?_
                  refine x_iload (pc := 95) g 4 rfl dX10_look_95 ?_
                  refine x_istore_n (pc := 97) (lv' := [(3, .int v3), (2, .int v4), (0, .ref (al 103)), (4, .int x3), (5, .int x8), (6, .int v3)]) g rfl (by decide) rfl dX10_look_97 ?_
                  refine x_lv [2, 1, 0, 3, 4] rfl ?_
                  exact hj98 v4 v3 σ9
                · refine x_if_lt (pc := 74) (tgt := 86) g (by decide) dX10_look_74 ?_ ?_
                  · refine x_lv [1, 4, 5, 0] rfl ?_
                    exact hj86 σ7
                  · refine x_iload (pc := 77) g 0 rfl dX10_look_77 ?_
                    refine x_iload_n (pc := 79) g rfl 3 rfl dX10_look_79 ?_
                    refine x_icmp_lt (pc := 80) (tgt := 86) g (by decide) dX10_look_80 ?_ ?_
                    · refine x_lv [1, 4, 5, 0] rfl ?_
                      exact hj86 σ7
                    · refine x_goto (pc := 83) (tgt := 98) g (by decide) dX10_look_83 ?_
                      refine x_lv [1, 2, 3, 4, 5] rfl ?_
                      exact hj98 x6 x7 σ7
      · refine x_bipush (pc := 36) (v := (-2 : Int32)) g (by decide) dX10_look_36 ?_
        exact x_ireturn (pc := 38) g hrt dX10_look_38
    · refine x_aload_n (pc := 17) g rfl 0 rfl dX10_look_17 ?_
      refine x_iload_n (pc := 18) g rfl 1 rfl dX10_look_18 ?_
      refine x_callVI (pc := 19) (As := [.int a0]) g sh_103 (mc_X10_readFault N a0) cw_X10_readFault lk_X10_333 rfl ⟨Nat.le_of_ble_eq_true rfl, Nat.le_of_ble_eq_true rfl⟩ rfl (Nat.le_of_ble_eq_true rfl) dX10_look_19 (fun v5 σ10 => ?_)
      exact x_ireturn (pc := 22) g hrt dX10_look_22
  · refine x_iconst (pc := 7) (v := (-1 : Int32)) g (by decide) dX10_look_7 ?_
    exact x_ireturn (pc := 8) g hrt dX10_look_8
def B_X10_isEverIn_L3 (N : Nat) (a0 : Int32) (a1 : Int32) (a2 : Int32) (r3 : Int32 → Sx → Option (Int32 × Sx)) (x1 : Int32) (σ1 : Sx) : Option (Int32 × Sx) := aIx 108 20 (((4 : Int32) * a0) + a1) σ1 (fun v1 => (if v1 ≤ x1 then some ((0 : Int32), σ1) else aIx 109 160 ((((32 : Int32) * a0) + ((8 : Int32) * a1)) + x1) σ1 (fun v2 => (if v2 = a2 then some ((1 : Int32), σ1) else r3 (x1 + (1 : Int32)) σ1))))
def F_X10_isEverIn (N : Nat) (a0 : Int32) (a1 : Int32) (a2 : Int32) (σ0 : Sx) : Option (Int32 × Sx) := lpx1 (B_X10_isEverIn_L3 N a0 a1 a2) N (0 : Int32) σ0
set_option maxRecDepth 100000 in
set_option maxHeartbeats 4000000 in
theorem mc_X10_isEverIn {D : va_G} {al : Nat → Nat} {cA : Nat → ClassId} {ba : Nat} (N : Nat) (a0 : Int32) (a1 : Int32) (a2 : Int32) : MCx D al cA ba yX10_isEverIn cX10_isEverIn 5 (some .boolean) 0 0 rvI [.ref (al 103), .int a0, .int a1, .int a2] (F_X10_isEverIn N a0 a1 a2) := by
  refine MCx_of (by decide +kernel) (Nat.le_of_ble_eq_true rfl) ?_
  intro p l e s m args below meth c σ0 g hrt
  unfold F_X10_isEverIn
  refine x_lv (lv' := [(0, .ref (al 103)), (1, .int a0), (2, .int a1), (3, .int a2)]) [0, 1, 2, 3] rfl ?_
  refine x_iconst (pc := 0) (v := (0 : Int32)) g (by decide) dX10_isEverIn_0 ?_
  refine x_istore (pc := 1) (lv' := [(4, .int (0 : Int32)), (0, .ref (al 103)), (1, .int a0), (2, .int a1), (3, .int a2)]) g (by decide) rfl dX10_isEverIn_1 ?_
  refine x_lv [1, 2, 3, 4, 0] rfl ?_
  refine lpx1_ind (fun (x1 : Int32) (σ1 : Sx) (K : Option (Int32 × Sx)) => XTx p l e { frames := 0, cells := 0, slots := 0, locals := 0 } s m args below meth c D al cA ba 5 (MQx rvI D al cA ba below args s) 0 0 3 [(0, .ref (al 103)), (1, .int a0), (2, .int a1), (3, .int a2), (4, .int x1)] [] σ1 (K)) (fun _ _ => x_no) (fun r3 hr3 x1 σ1 => ?_) N (0 : Int32) σ0
  show XTx p l e { frames := 0, cells := 0, slots := 0, locals := 0 } s m args below meth c D al cA ba 5 (MQx rvI D al cA ba below args s) 0 0 3 [(0, .ref (al 103)), (1, .int a0), (2, .int a1), (3, .int a2), (4, .int x1)] [] σ1 (B_X10_isEverIn_L3 N a0 a1 a2 r3 x1 σ1)
  unfold B_X10_isEverIn_L3
  refine x_iload (pc := 3) g 4 rfl dX10_isEverIn_3 ?_
  refine x_aload_n (pc := 5) g rfl 0 rfl dX10_isEverIn_5 ?_
  refine x_getR (pc := 6) g sh_103 fl_X10_22 rfl dX10_isEverIn_6 ?_
  refine x_iconst (pc := 9) (v := (4 : Int32)) g (by decide) dX10_isEverIn_9 ?_
  refine x_iload_n (pc := 10) g rfl 1 rfl dX10_isEverIn_10 ?_
  refine x_imul (pc := 11) g dX10_isEverIn_11 ?_
  refine x_iload_n (pc := 12) g rfl 2 rfl dX10_isEverIn_12 ?_
  refine x_iadd (pc := 13) g dX10_isEverIn_13 ?_
  refine x_iald (pc := 14) g sh_108 (by decide) dX10_isEverIn_14 (fun v1 => ?_)
  refine x_icmp_ge (pc := 15) (tgt := 47) g (by decide) dX10_isEverIn_15 ?_ ?_
  · refine x_iconst (pc := 47) (v := (0 : Int32)) g (by decide) dX10_isEverIn_47 ?_
    exact x_zreturn (pc := 48) g hrt (by decide) dX10_isEverIn_48
  · refine x_aload_n (pc := 18) g rfl 0 rfl dX10_isEverIn_18 ?_
    refine x_getR (pc := 19) g sh_103 fl_X10_25 rfl dX10_isEverIn_19 ?_
    refine x_bipush (pc := 22) (v := (32 : Int32)) g (by decide) dX10_isEverIn_22 ?_
    refine x_iload_n (pc := 24) g rfl 1 rfl dX10_isEverIn_24 ?_
    refine x_imul (pc := 25) g dX10_isEverIn_25 ?_
    refine x_bipush (pc := 26) (v := (8 : Int32)) g (by decide) dX10_isEverIn_26 ?_
    refine x_iload_n (pc := 28) g rfl 2 rfl dX10_isEverIn_28 ?_
    refine x_imul (pc := 29) g dX10_isEverIn_29 ?_
    refine x_iadd (pc := 30) g dX10_isEverIn_30 ?_
    refine x_iload (pc := 31) g 4 rfl dX10_isEverIn_31 ?_
    refine x_iadd (pc := 33) g dX10_isEverIn_33 ?_
    refine x_iald (pc := 34) g sh_109 (by decide) dX10_isEverIn_34 (fun v2 => ?_)
    refine x_iload_n (pc := 35) g rfl 3 rfl dX10_isEverIn_35 ?_
    refine x_icmp_ne (pc := 36) (tgt := 41) g (by decide) dX10_isEverIn_36 ?_ ?_
    · refine x_iinc (pc := 41) (v := (x1 + (1 : Int32))) (lv' := [(4, .int (x1 + (1 : Int32))), (0, .ref (al 103)), (1, .int a0), (2, .int a1), (3, .int a2)]) g 4 rfl (by rfl) (by decide) rfl dX10_isEverIn_41 ?_
      refine x_goto (pc := 44) (tgt := 3) g (by decide) dX10_isEverIn_44 ?_
      refine x_lv [1, 2, 3, 4, 0] rfl ?_
      exact hr3 (x1 + (1 : Int32)) σ1
    · refine x_iconst (pc := 39) (v := (1 : Int32)) g (by decide) dX10_isEverIn_39 ?_
      exact x_zreturn (pc := 40) g hrt (by decide) dX10_isEverIn_40
def B_X10_cheapest_L39 (N : Nat) (a0 : Int32) (a1 : Int32) (j111 : Int32 → Int32 → Sx → Option (Int32 × Sx)) (r39 : Int32 → Int32 → Int32 → Sx → Option (Int32 × Sx)) (x3 : Int32) (x4 : Int32) (x5 : Int32) (σ6 : Sx) : Option (Int32 × Sx) := (if (1024 : Int32) ≤ x5 then j111 x3 x4 σ6 else clx (F_X10_isDay N x5 σ6) (fun v4 σ7 => nmx (fun (x6 : Int32) (x7 : Int32) (σ8 : Sx) => r39 x6 x7 (x5 + (1 : Int32)) σ8) (fun (j105 : Int32 → Int32 → Sx → Option (Int32 × Sx)) => (if v4 = 0 then j105 x3 x4 σ7 else clx (F_X10_wayIn x5 a0 σ7) (fun v5 σ9 => clx (F_X10_isEverIn N a0 v5 a1 σ9) (fun v6 σ10 => (if v6 = 0 then clx (F_X10_besideOn N x5 σ10) (fun v7 σ11 => nmx (fun (σ12 : Sx) => j105 x5 v7 σ12) (fun (j97 : Sx → Option (Int32 × Sx)) => (if x3 < 0 then j97 σ11 else (if v7 < x4 then j97 σ11 else j105 x3 x4 σ11)))) else j105 x3 x4 σ10)))))))
def F_X10_cheapest (N : Nat) (a0 : Int32) (a1 : Int32) (a2 : Int32) (σ0 : Sx) : Option (Int32 × Sx) := clx (F_X10_isWalker a0 σ0) (fun v1 σ1 => (if v1 = 0 then some ((-1 : Int32), σ1) else clx (F_X10_isPlace a1 σ1) (fun v2 σ2 => (if v2 = 0 then some ((-1 : Int32), σ2) else clx (F_X10_in a2 (0 : Int32) (1 : Int32) σ2) (fun v3 σ3 => (if v3 = 0 then some ((-1 : Int32), σ3) else clx (F_X10_findSights N  σ3) (fun _ σ4 => nmx (fun (x1 : Int32) (x2 : Int32) (σ5 : Sx) => (if 0 ≤ x1 then (if a2 = 0 then some (x2, σ5) else some (x1, σ5)) else some ((-2 : Int32), σ5))) (fun (j111 : Int32 → Int32 → Sx → Option (Int32 × Sx)) => lpx3 (B_X10_cheapest_L39 N a0 a1 j111) N (-1 : Int32) (0 : Int32) (0 : Int32) σ4))))))))
set_option maxRecDepth 100000 in
set_option maxHeartbeats 4000000 in
theorem mc_X10_cheapest {D : va_G} {al : Nat → Nat} {cA : Nat → ClassId} {ba : Nat} (N : Nat) (a0 : Int32) (a1 : Int32) (a2 : Int32) : MCx D al cA ba yX10_cheapest cX10_cheapest 8 (some .int) 5 121 rvI [.ref (al 103), .int a0, .int a1, .int a2] (F_X10_cheapest N a0 a1 a2) := by
  refine MCx_of (by decide +kernel) (Nat.le_of_ble_eq_true rfl) ?_
  intro p l e s m args below meth c σ0 g hrt
  unfold F_X10_cheapest
  refine x_lv (lv' := [(0, .ref (al 103)), (1, .int a0), (2, .int a1), (3, .int a2)]) [0, 1, 2, 3] rfl ?_
  refine x_aload_n (pc := 0) g rfl 0 rfl dX10_cheapest_0 ?_
  refine x_iload_n (pc := 1) g rfl 1 rfl dX10_cheapest_1 ?_
  refine x_callVI (pc := 2) (As := [.int a0]) g sh_103 (mc_X10_isWalker a0) cw_X10_isWalker lk_X10_157 rfl ⟨Nat.le_of_ble_eq_true rfl, Nat.le_of_ble_eq_true rfl⟩ rfl (Nat.le_of_ble_eq_true rfl) dX10_cheapest_2 (fun v1 σ1 => ?_)
  refine x_if_eq (pc := 5) (tgt := 24) g (by decide) dX10_cheapest_5 ?_ ?_
  · refine x_iconst (pc := 24) (v := (-1 : Int32)) g (by decide) dX10_cheapest_24 ?_
    exact x_ireturn (pc := 25) g hrt dX10_cheapest_25
  · refine x_iload_n (pc := 8) g rfl 2 rfl dX10_cheapest_8 ?_
    refine x_callSI (pc := 9) (As := [.int a1]) g (mc_X10_isPlace a1) cw_X10_isPlace lk_X10_135 rfl ⟨Nat.le_of_ble_eq_true rfl, Nat.le_of_ble_eq_true rfl⟩ rfl (Nat.le_of_ble_eq_true rfl) dX10_cheapest_9 (fun v2 σ2 => ?_)
    refine x_if_eq (pc := 12) (tgt := 24) g (by decide) dX10_cheapest_12 ?_ ?_
    · refine x_iconst (pc := 24) (v := (-1 : Int32)) g (by decide) dX10_cheapest_24 ?_
      exact x_ireturn (pc := 25) g hrt dX10_cheapest_25
    · refine x_iload_n (pc := 15) g rfl 3 rfl dX10_cheapest_15 ?_
      refine x_iconst (pc := 16) (v := (0 : Int32)) g (by decide) dX10_cheapest_16 ?_
      refine x_iconst (pc := 17) (v := (1 : Int32)) g (by decide) dX10_cheapest_17 ?_
      refine x_callSI (pc := 18) (As := [.int a2, .int (0 : Int32), .int (1 : Int32)]) g (mc_X10_in a2 (0 : Int32) (1 : Int32)) cw_X10_in lk_X10_131 rfl ⟨Nat.le_of_ble_eq_true rfl, Nat.le_of_ble_eq_true rfl⟩ rfl (Nat.le_of_ble_eq_true rfl) dX10_cheapest_18 (fun v3 σ3 => ?_)
      refine x_if_ne (pc := 21) (tgt := 26) g (by decide) dX10_cheapest_21 ?_ ?_
      · refine x_aload_n (pc := 26) g rfl 0 rfl dX10_cheapest_26 ?_
        refine x_callVU (pc := 27) (As := []) g sh_103 (mc_X10_findSights N ) cw_X10_findSights lk_X10_296 rfl ⟨Nat.le_of_ble_eq_true rfl, Nat.le_of_ble_eq_true rfl⟩ rfl (Nat.le_of_ble_eq_true rfl) dX10_cheapest_27 (fun _ σ4 => ?_)
        refine x_iconst (pc := 30) (v := (-1 : Int32)) g (by decide) dX10_cheapest_30 ?_
        refine x_istore (pc := 31) (lv' := [(4, .int (-1 : Int32)), (0, .ref (al 103)), (1, .int a0), (2, .int a1), (3, .int a2)]) g (by decide) rfl dX10_cheapest_31 ?_
        refine x_iconst (pc := 33) (v := (0 : Int32)) g (by decide) dX10_cheapest_33 ?_
        refine x_istore (pc := 34) (lv' := [(5, .int (0 : Int32)), (4, .int (-1 : Int32)), (0, .ref (al 103)), (1, .int a0), (2, .int a1), (3, .int a2)]) g (by decide) rfl dX10_cheapest_34 ?_
        refine x_iconst (pc := 36) (v := (0 : Int32)) g (by decide) dX10_cheapest_36 ?_
        refine x_istore (pc := 37) (lv' := [(6, .int (0 : Int32)), (5, .int (0 : Int32)), (4, .int (-1 : Int32)), (0, .ref (al 103)), (1, .int a0), (2, .int a1), (3, .int a2)]) g (by decide) rfl dX10_cheapest_37 ?_
        refine x_jn (fun (j111 : Int32 → Int32 → Sx → Option (Int32 × Sx)) => ∀ (x1 : Int32) (x2 : Int32) (σ5 : Sx), XTx p l e { frames := 5, cells := 0, slots := 0, locals := 121 } s m args below meth c D al cA ba 8 (MQx rvI D al cA ba below args s) 0 0 111 [(3, .int a2), (4, .int x1), (5, .int x2)] [] σ5 (j111 x1 x2 σ5)) (fun x1 x2 σ5 => ?_) (fun j111 hj111 => ?_)
        · refine x_iload (pc := 111) g 1 rfl dX10_cheapest_111 ?_
          refine x_if_ge (pc := 113) (tgt := 119) g (by decide) dX10_cheapest_113 ?_ ?_
          · refine x_iload_n (pc := 119) g rfl 0 rfl dX10_cheapest_119 ?_
            refine x_if_ne (pc := 120) (tgt := 128) g (by decide) dX10_cheapest_120 ?_ ?_
            · refine x_iload (pc := 128) g 1 rfl dX10_cheapest_128 ?_
              exact x_ireturn (pc := 130) g hrt dX10_cheapest_130
            · refine x_iload (pc := 123) g 2 rfl dX10_cheapest_123 ?_
              refine x_goto (pc := 125) (tgt := 130) g (by decide) dX10_cheapest_125 ?_
              exact x_ireturn (pc := 130) g hrt dX10_cheapest_130
          · refine x_bipush (pc := 116) (v := (-2 : Int32)) g (by decide) dX10_cheapest_116 ?_
            exact x_ireturn (pc := 118) g hrt dX10_cheapest_118
        · refine x_lv [3, 4, 5, 6, 2, 1, 0] rfl ?_
          refine lpx3_ind (fun (x3 : Int32) (x4 : Int32) (x5 : Int32) (σ6 : Sx) (K : Option (Int32 × Sx)) => XTx p l e { frames := 5, cells := 0, slots := 0, locals := 121 } s m args below meth c D al cA ba 8 (MQx rvI D al cA ba below args s) 0 0 39 [(0, .ref (al 103)), (1, .int a0), (2, .int a1), (3, .int a2), (4, .int x3), (5, .int x4), (6, .int x5)] [] σ6 (K)) (fun _ _ _ _ => x_no) (fun r39 hr39 x3 x4 x5 σ6 => ?_) N (-1 : Int32) (0 : Int32) (0 : Int32) σ4
          show XTx p l e { frames := 5, cells := 0, slots := 0, locals := 121 } s m args below meth c D al cA ba 8 (MQx rvI D al cA ba below args s) 0 0 39 [(0, .ref (al 103)), (1, .int a0), (2, .int a1), (3, .int a2), (4, .int x3), (5, .int x4), (6, .int x5)] [] σ6 (B_X10_cheapest_L39 N a0 a1 j111 r39 x3 x4 x5 σ6)
          unfold B_X10_cheapest_L39
          refine x_iload (pc := 39) g 6 rfl dX10_cheapest_39 ?_
          refine x_sipush (pc := 41) (v := (1024 : Int32)) g (by decide) dX10_cheapest_41 ?_
          refine x_icmp_ge (pc := 44) (tgt := 111) g (by decide) dX10_cheapest_44 ?_ ?_
          · refine x_lv [3, 4, 5] rfl ?_
            exact hj111 x3 x4 σ6
          · refine x_aload_n (pc := 47) g rfl 0 rfl dX10_cheapest_47 ?_
            refine x_iload (pc := 48) g 6 rfl dX10_cheapest_48 ?_
            refine x_callVI (pc := 50) (As := [.int x5]) g sh_103 (mc_X10_isDay N x5) cw_X10_isDay lk_X10_290 rfl ⟨Nat.le_of_ble_eq_true rfl, Nat.le_of_ble_eq_true rfl⟩ rfl (Nat.le_of_ble_eq_true rfl) dX10_cheapest_50 (fun v4 σ7 => ?_)
            refine x_jn (fun (j105 : Int32 → Int32 → Sx → Option (Int32 × Sx)) => ∀ (x6 : Int32) (x7 : Int32) (σ8 : Sx), XTx p l e { frames := 5, cells := 0, slots := 0, locals := 121 } s m args below meth c D al cA ba 8 (MQx rvI D al cA ba below args s) 0 0 105 [(0, .ref (al 103)), (1, .int a0), (2, .int a1), (3, .int a2), (4, .int x6), (5, .int x7), (6, .int x5)] [] σ8 (j105 x6 x7 σ8)) (fun x6 x7 σ8 => ?_) (fun j105 hj105 => ?_)
            · refine x_iinc (pc := 105) (v := (x5 + (1 : Int32))) (lv' := [(6, .int (x5 + (1 : Int32))), (0, .ref (al 103)), (1, .int a0), (2, .int a1), (3, .int a2), (4, .int x6), (5, .int x7)]) g 6 rfl (by rfl) (by decide) rfl dX10_cheapest_105 ?_
              refine x_goto (pc := 108) (tgt := 39) g (by decide) dX10_cheapest_108 ?_
              refine x_lv [1, 2, 3, 4, 5, 6, 0] rfl ?_
              exact hr39 x6 x7 (x5 + (1 : Int32)) σ8
            · refine x_if_eq (pc := 53) (tgt := 105) g (by decide) dX10_cheapest_53 ?_ ?_
              · exact hj105 x3 x4 σ7
              · refine x_aload_n (pc := 56) g rfl 0 rfl dX10_cheapest_56 ?_
                refine x_iload_n (pc := 57) g rfl 1 rfl dX10_cheapest_57 ?_
                refine x_iload (pc := 58) g 6 rfl dX10_cheapest_58 ?_
                refine x_iload_n (pc := 60) g rfl 1 rfl dX10_cheapest_60 ?_
                refine x_callSI (pc := 61) (As := [.int x5, .int a0]) g (mc_X10_wayIn x5 a0) cw_X10_wayIn lk_X10_259 rfl ⟨Nat.le_of_ble_eq_true rfl, Nat.le_of_ble_eq_true rfl⟩ rfl (Nat.le_of_ble_eq_true rfl) dX10_cheapest_61 (fun v5 σ9 => ?_)
                refine x_iload_n (pc := 64) g rfl 2 rfl dX10_cheapest_64 ?_
                refine x_callVI (pc := 65) (As := [.int a0, .int v5, .int a1]) g sh_103 (mc_X10_isEverIn N a0 v5 a1) cw_X10_isEverIn lk_X10_342 rfl ⟨Nat.le_of_ble_eq_true rfl, Nat.le_of_ble_eq_true rfl⟩ rfl (Nat.le_of_ble_eq_true rfl) dX10_cheapest_65 (fun v6 σ10 => ?_)
                refine x_if_eq (pc := 68) (tgt := 74) g (by decide) dX10_cheapest_68 ?_ ?_
                · refine x_aload_n (pc := 74) g rfl 0 rfl dX10_cheapest_74 ?_
                  refine x_iload (pc := 75) g 6 rfl dX10_cheapest_75 ?_
                  refine x_callVI (pc := 77) (As := [.int x5]) g sh_103 (mc_X10_besideOn N x5) cw_X10_besideOn lk_X10_308 rfl ⟨Nat.le_of_ble_eq_true rfl, Nat.le_of_ble_eq_true rfl⟩ rfl (Nat.le_of_ble_eq_true rfl) dX10_cheapest_77 (fun v7 σ11 => ?_)
                  refine x_istore (pc := 80) (lv' := [(7, .int v7), (0, .ref (al 103)), (1, .int a0), (2, .int a1), (3, .int a2), (4, .int x3), (5, .int x4), (6, .int x5)]) g (by decide) rfl dX10_cheapest_80 ?_
                  refine x_iload (pc := 82) g 5 rfl dX10_cheapest_82 ?_
                  refine x_jn (fun (j97 : Sx → Option (Int32 × Sx)) => ∀ (σ12 : Sx), XTx p l e { frames := 5, cells := 0, slots := 0, locals := 121 } s m args below meth c D al cA ba 8 (MQx rvI D al cA ba below args s) 0 0 97 [(0, .ref (al 103)), (1, .int a0), (2, .int a1), (3, .int a2), (6, .int x5), (7, .int v7)] [] σ12 (j97 σ12)) (fun σ12 => ?_) (fun j97 hj97 => ?_)
                  · refine x_iload (pc := 97) g 4 rfl dX10_cheapest_97 ?_
                    refine x_istore (pc := 99) (lv' := [(4, .int x5), (0, .ref (al 103)), (1, .int a0), (2, .int a1), (3, .int a2), (6, .int x5), (7, .int v7)]) g (by decide) rfl dX10_cheapest_99 ?_
                    refine x_iload (pc := 101) g 6 rfl dX10_cheapest_101 ?_
                    refine x_istore (pc := 103) (lv' := [(5, .int v7), (4, .int x5), (0, .ref (al 103)), (1, .int a0), (2, .int a1), (3, .int a2), (6, .int x5), (7, .int v7)]) g (by decide) rfl dX10_cheapest_103 ?_
                    refine x_lv [2, 3, 4, 5, 1, 0, 6] rfl ?_
                    exact hj105 x5 v7 σ12
                  · refine x_if_lt (pc := 84) (tgt := 97) g (by decide) dX10_cheapest_84 ?_ ?_
                    · refine x_lv [1, 2, 3, 4, 7, 0] rfl ?_
                      exact hj97 σ11
                    · refine x_iload (pc := 87) g 0 rfl dX10_cheapest_87 ?_
                      refine x_iload (pc := 89) g 6 rfl dX10_cheapest_89 ?_
                      refine x_icmp_lt (pc := 91) (tgt := 97) g (by decide) dX10_cheapest_91 ?_ ?_
                      · refine x_lv [1, 2, 3, 4, 7, 0] rfl ?_
                        exact hj97 σ11
                      · refine x_goto (pc := 94) (tgt := 105) g (by decide) dX10_cheapest_94 ?_
                        refine x_lv [1, 2, 3, 4, 5, 6, 7] rfl ?_
                        exact hj105 x3 x4 σ11
                · refine x_goto (pc := 71) (tgt := 105) g (by decide) dX10_cheapest_71 ?_
                  exact hj105 x3 x4 σ10
      · refine x_iconst (pc := 24) (v := (-1 : Int32)) g (by decide) dX10_cheapest_24 ?_
        exact x_ireturn (pc := 25) g hrt dX10_cheapest_25
def B_X10_daysWith_L21 (N : Nat) (a0 : Int32) (a1 : Int32) (a2 : Int32) (x2 : Int32) (j72 : Int32 → Sx → Option (Int32 × Sx)) (r21 : Int32 → Int32 → Sx → Option (Int32 × Sx)) (x5 : Int32) (x6 : Int32) (σ4 : Sx) : Option (Int32 × Sx) := (if (siI σ4 103 1) ≤ x6 then j72 x5 σ4 else nmx (fun (x7 : Int32) (σ5 : Sx) => r21 x7 (x6 + (1 : Int32)) σ5) (fun (j66 : Int32 → Sx → Option (Int32 × Sx)) => (if ((jshr a0 x6) &&& (1 : Int32)) = (1 : Int32) then aIx 126 1024 x2 σ4 (fun v1 => clx (F_X10_wayIn v1 x6 σ4) (fun v2 σ6 => clx (F_X10_placeIn N x6 v2 a2 σ6) (fun v3 σ7 => (if v3 = a1 then j66 (1 : Int32) σ7 else j66 x5 σ7)))) else j66 x5 σ4)))
def B_X10_daysWith_L6 (N : Nat) (a0 : Int32) (a1 : Int32) (a2 : Int32) (r6 : Int32 → Int32 → Sx → Option (Int32 × Sx)) (x1 : Int32) (x2 : Int32) (σ1 : Sx) : Option (Int32 × Sx) := (if (siI σ1 103 38) ≤ x2 then some (x1, σ1) else nmx (fun (x3 : Int32) (σ2 : Sx) => nmx (fun (x4 : Int32) (σ3 : Sx) => r6 x4 (x2 + (1 : Int32)) σ3) (fun (j80 : Int32 → Sx → Option (Int32 × Sx)) => (if x3 = 0 then j80 x1 σ2 else j80 (x1 + (1 : Int32)) σ2))) (fun (j72 : Int32 → Sx → Option (Int32 × Sx)) => lpx2 (B_X10_daysWith_L21 N a0 a1 a2 x2 j72) N (0 : Int32) (0 : Int32) σ1))
def F_X10_daysWith (N : Nat) (a0 : Int32) (a1 : Int32) (a2 : Int32) (σ0 : Sx) : Option (Int32 × Sx) := lpx2 (B_X10_daysWith_L6 N a0 a1 a2) N (0 : Int32) (0 : Int32) σ0
set_option maxRecDepth 100000 in
set_option maxHeartbeats 4000000 in
theorem mc_X10_daysWith {D : va_G} {al : Nat → Nat} {cA : Nat → ClassId} {ba : Nat} (N : Nat) (a0 : Int32) (a1 : Int32) (a2 : Int32) : MCx D al cA ba yX10_daysWith cX10_daysWith 8 (some .int) 1 25 rvI [.ref (al 103), .int a0, .int a1, .int a2] (F_X10_daysWith N a0 a1 a2) := by
  refine MCx_of (by decide +kernel) (Nat.le_of_ble_eq_true rfl) ?_
  intro p l e s m args below meth c σ0 g hrt
  unfold F_X10_daysWith
  refine x_lv (lv' := [(0, .ref (al 103)), (1, .int a0), (2, .int a1), (3, .int a2)]) [0, 1, 2, 3] rfl ?_
  refine x_iconst (pc := 0) (v := (0 : Int32)) g (by decide) dX10_daysWith_0 ?_
  refine x_istore (pc := 1) (lv' := [(4, .int (0 : Int32)), (0, .ref (al 103)), (1, .int a0), (2, .int a1), (3, .int a2)]) g (by decide) rfl dX10_daysWith_1 ?_
  refine x_iconst (pc := 3) (v := (0 : Int32)) g (by decide) dX10_daysWith_3 ?_
  refine x_istore (pc := 4) (lv' := [(5, .int (0 : Int32)), (4, .int (0 : Int32)), (0, .ref (al 103)), (1, .int a0), (2, .int a1), (3, .int a2)]) g (by decide) rfl dX10_daysWith_4 ?_
  refine x_lv [2, 3, 4, 5, 1, 0] rfl ?_
  refine lpx2_ind (fun (x1 : Int32) (x2 : Int32) (σ1 : Sx) (K : Option (Int32 × Sx)) => XTx p l e { frames := 1, cells := 0, slots := 0, locals := 25 } s m args below meth c D al cA ba 8 (MQx rvI D al cA ba below args s) 0 0 6 [(0, .ref (al 103)), (1, .int a0), (2, .int a1), (3, .int a2), (4, .int x1), (5, .int x2)] [] σ1 (K)) (fun _ _ _ => x_no) (fun r6 hr6 x1 x2 σ1 => ?_) N (0 : Int32) (0 : Int32) σ0
  show XTx p l e { frames := 1, cells := 0, slots := 0, locals := 25 } s m args below meth c D al cA ba 8 (MQx rvI D al cA ba below args s) 0 0 6 [(0, .ref (al 103)), (1, .int a0), (2, .int a1), (3, .int a2), (4, .int x1), (5, .int x2)] [] σ1 (B_X10_daysWith_L6 N a0 a1 a2 r6 x1 x2 σ1)
  unfold B_X10_daysWith_L6
  refine x_iload (pc := 6) g 5 rfl dX10_daysWith_6 ?_
  refine x_aload_n (pc := 8) g rfl 0 rfl dX10_daysWith_8 ?_
  refine x_getI (pc := 9) g sh_103 fl_X10_299 rfl dX10_daysWith_9 ?_
  refine x_icmp_ge (pc := 12) (tgt := 86) g (by decide) dX10_daysWith_12 ?_ ?_
  · refine x_iload (pc := 86) g 4 rfl dX10_daysWith_86 ?_
    exact x_ireturn (pc := 88) g hrt dX10_daysWith_88
  · refine x_iconst (pc := 15) (v := (0 : Int32)) g (by decide) dX10_daysWith_15 ?_
    refine x_istore (pc := 16) (lv' := [(6, .int (0 : Int32)), (0, .ref (al 103)), (1, .int a0), (2, .int a1), (3, .int a2), (4, .int x1), (5, .int x2)]) g (by decide) rfl dX10_daysWith_16 ?_
    refine x_iconst (pc := 18) (v := (0 : Int32)) g (by decide) dX10_daysWith_18 ?_
    refine x_istore (pc := 19) (lv' := [(7, .int (0 : Int32)), (6, .int (0 : Int32)), (0, .ref (al 103)), (1, .int a0), (2, .int a1), (3, .int a2), (4, .int x1), (5, .int x2)]) g (by decide) rfl dX10_daysWith_19 ?_
    refine x_jn (fun (j72 : Int32 → Sx → Option (Int32 × Sx)) => ∀ (x3 : Int32) (σ2 : Sx), XTx p l e { frames := 1, cells := 0, slots := 0, locals := 25 } s m args below meth c D al cA ba 8 (MQx rvI D al cA ba below args s) 0 0 72 [(0, .ref (al 103)), (1, .int a0), (2, .int a1), (3, .int a2), (4, .int x1), (5, .int x2), (6, .int x3)] [] σ2 (j72 x3 σ2)) (fun x3 σ2 => ?_) (fun j72 hj72 => ?_)
    · refine x_iload (pc := 72) g 6 rfl dX10_daysWith_72 ?_
      refine x_jn (fun (j80 : Int32 → Sx → Option (Int32 × Sx)) => ∀ (x4 : Int32) (σ3 : Sx), XTx p l e { frames := 1, cells := 0, slots := 0, locals := 25 } s m args below meth c D al cA ba 8 (MQx rvI D al cA ba below args s) 0 0 80 [(0, .ref (al 103)), (1, .int a0), (2, .int a1), (3, .int a2), (4, .int x4), (5, .int x2)] [] σ3 (j80 x4 σ3)) (fun x4 σ3 => ?_) (fun j80 hj80 => ?_)
      · refine x_iinc (pc := 80) (v := (x2 + (1 : Int32))) (lv' := [(5, .int (x2 + (1 : Int32))), (0, .ref (al 103)), (1, .int a0), (2, .int a1), (3, .int a2), (4, .int x4)]) g 5 rfl (by rfl) (by decide) rfl dX10_daysWith_80 ?_
        refine x_goto (pc := 83) (tgt := 6) g (by decide) dX10_daysWith_83 ?_
        refine x_lv [1, 2, 3, 4, 5, 0] rfl ?_
        exact hr6 x4 (x2 + (1 : Int32)) σ3
      · refine x_if_eq (pc := 74) (tgt := 80) g (by decide) dX10_daysWith_74 ?_ ?_
        · refine x_lv [0, 1, 2, 3, 4, 5] rfl ?_
          exact hj80 x1 σ2
        · refine x_iinc (pc := 77) (v := (x1 + (1 : Int32))) (lv' := [(4, .int (x1 + (1 : Int32))), (0, .ref (al 103)), (1, .int a0), (2, .int a1), (3, .int a2), (5, .int x2), (6, .int x3)]) g 4 rfl (by rfl) (by decide) rfl dX10_daysWith_77 ?_
          refine x_lv [1, 2, 3, 4, 0, 5] rfl ?_
          exact hj80 (x1 + (1 : Int32)) σ2
    · refine x_lv [2, 3, 4, 5, 6, 7, 1, 0] rfl ?_
      refine lpx2_ind (fun (x5 : Int32) (x6 : Int32) (σ4 : Sx) (K : Option (Int32 × Sx)) => XTx p l e { frames := 1, cells := 0, slots := 0, locals := 25 } s m args below meth c D al cA ba 8 (MQx rvI D al cA ba below args s) 0 0 21 [(0, .ref (al 103)), (1, .int a0), (2, .int a1), (3, .int a2), (4, .int x1), (5, .int x2), (6, .int x5), (7, .int x6)] [] σ4 (K)) (fun _ _ _ => x_no) (fun r21 hr21 x5 x6 σ4 => ?_) N (0 : Int32) (0 : Int32) σ1
      show XTx p l e { frames := 1, cells := 0, slots := 0, locals := 25 } s m args below meth c D al cA ba 8 (MQx rvI D al cA ba below args s) 0 0 21 [(0, .ref (al 103)), (1, .int a0), (2, .int a1), (3, .int a2), (4, .int x1), (5, .int x2), (6, .int x5), (7, .int x6)] [] σ4 (B_X10_daysWith_L21 N a0 a1 a2 x2 j72 r21 x5 x6 σ4)
      unfold B_X10_daysWith_L21
      refine x_iload (pc := 21) g 7 rfl dX10_daysWith_21 ?_
      refine x_aload_n (pc := 23) g rfl 0 rfl dX10_daysWith_23 ?_
      refine x_getI (pc := 24) g sh_103 fl_X10_128 rfl dX10_daysWith_24 ?_
      refine x_icmp_ge (pc := 27) (tgt := 72) g (by decide) dX10_daysWith_27 ?_ ?_
      · refine x_lv [0, 1, 2, 3, 4, 5, 6] rfl ?_
        exact hj72 x5 σ4
      · refine x_iload_n (pc := 30) g rfl 1 rfl dX10_daysWith_30 ?_
        refine x_iload (pc := 31) g 7 rfl dX10_daysWith_31 ?_
        refine x_ishr (pc := 33) g dX10_daysWith_33 ?_
        refine x_iconst (pc := 34) (v := (1 : Int32)) g (by decide) dX10_daysWith_34 ?_
        refine x_iand (pc := 35) g dX10_daysWith_35 ?_
        refine x_iconst (pc := 36) (v := (1 : Int32)) g (by decide) dX10_daysWith_36 ?_
        refine x_jn (fun (j66 : Int32 → Sx → Option (Int32 × Sx)) => ∀ (x7 : Int32) (σ5 : Sx), XTx p l e { frames := 1, cells := 0, slots := 0, locals := 25 } s m args below meth c D al cA ba 8 (MQx rvI D al cA ba below args s) 0 0 66 [(0, .ref (al 103)), (1, .int a0), (2, .int a1), (3, .int a2), (4, .int x1), (5, .int x2), (6, .int x7), (7, .int x6)] [] σ5 (j66 x7 σ5)) (fun x7 σ5 => ?_) (fun j66 hj66 => ?_)
        · refine x_iinc (pc := 66) (v := (x6 + (1 : Int32))) (lv' := [(7, .int (x6 + (1 : Int32))), (0, .ref (al 103)), (1, .int a0), (2, .int a1), (3, .int a2), (4, .int x1), (5, .int x2), (6, .int x7)]) g 7 rfl (by rfl) (by decide) rfl dX10_daysWith_66 ?_
          refine x_goto (pc := 69) (tgt := 21) g (by decide) dX10_daysWith_69 ?_
          refine x_lv [1, 2, 3, 4, 5, 6, 7, 0] rfl ?_
          exact hr21 x7 (x6 + (1 : Int32)) σ5
        · refine x_icmp_ne (pc := 37) (tgt := 66) g (by decide) dX10_daysWith_37 ?_ ?_
          · exact hj66 x5 σ4
          · refine x_aload_n (pc := 40) g rfl 0 rfl dX10_daysWith_40 ?_
            refine x_iload (pc := 41) g 7 rfl dX10_daysWith_41 ?_
            refine x_aload_n (pc := 43) g rfl 0 rfl dX10_daysWith_43 ?_
            refine x_getR (pc := 44) g sh_103 fl_X10_85 rfl dX10_daysWith_44 ?_
            refine x_iload (pc := 47) g 5 rfl dX10_daysWith_47 ?_
            refine x_iald (pc := 49) g sh_126 (by decide) dX10_daysWith_49 (fun v1 => ?_)
            refine x_iload (pc := 50) g 7 rfl dX10_daysWith_50 ?_
            refine x_callSI (pc := 52) (As := [.int v1, .int x6]) g (mc_X10_wayIn v1 x6) cw_X10_wayIn lk_X10_259 rfl ⟨Nat.le_of_ble_eq_true rfl, Nat.le_of_ble_eq_true rfl⟩ rfl (Nat.le_of_ble_eq_true rfl) dX10_daysWith_52 (fun v2 σ6 => ?_)
            refine x_iload_n (pc := 55) g rfl 3 rfl dX10_daysWith_55 ?_
            refine x_callVI (pc := 56) (As := [.int x6, .int v2, .int a2]) g sh_103 (mc_X10_placeIn N x6 v2 a2) cw_X10_placeIn lk_X10_311 rfl ⟨Nat.le_of_ble_eq_true rfl, Nat.le_of_ble_eq_true rfl⟩ rfl (Nat.le_of_ble_eq_true rfl) dX10_daysWith_56 (fun v3 σ7 => ?_)
            refine x_iload_n (pc := 59) g rfl 2 rfl dX10_daysWith_59 ?_
            refine x_icmp_ne (pc := 60) (tgt := 66) g (by decide) dX10_daysWith_60 ?_ ?_
            · exact hj66 x5 σ7
            · refine x_iconst (pc := 63) (v := (1 : Int32)) g (by decide) dX10_daysWith_63 ?_
              refine x_istore (pc := 64) (lv' := [(6, .int (1 : Int32)), (0, .ref (al 103)), (1, .int a0), (2, .int a1), (3, .int a2), (4, .int x1), (5, .int x2), (7, .int x6)]) g (by decide) rfl dX10_daysWith_64 ?_
              refine x_lv [1, 2, 3, 4, 5, 6, 0, 7] rfl ?_
              exact hj66 (1 : Int32) σ7
def B_X10_guard_L60 (N : Nat) (a0 : Int32) (x5 : Int32) (j107 : Int32 → Int32 → Sx → Option (Int32 × Sx)) (r60 : Int32 → Int32 → Int32 → Sx → Option (Int32 × Sx)) (x8 : Int32) (x9 : Int32) (x10 : Int32) (σ7 : Sx) : Option (Int32 × Sx) := (if (8 : Int32) ≤ x10 then j107 x8 x9 σ7 else clx (F_X10_daysWith N a0 x10 x5 σ7) (fun v3 σ8 => nmx (fun (x11 : Int32) (x12 : Int32) (σ9 : Sx) => r60 x11 x12 (x10 + (1 : Int32)) σ9) (fun (j101 : Int32 → Int32 → Sx → Option (Int32 × Sx)) => (if x9 < v3 then nmx ((((10 : Int32) * x5) + x10)) (fun v4 => j101 v4 v3 σ8) else j101 x8 x9 σ8))))
def B_X10_guard_L49 (N : Nat) (a0 : Int32) (j113 : Int32 → Int32 → Sx → Option (Int32 × Sx)) (r49 : Int32 → Int32 → Int32 → Sx → Option (Int32 × Sx)) (x3 : Int32) (x4 : Int32) (x5 : Int32) (σ5 : Sx) : Option (Int32 × Sx) := (if (400 : Int32) < x5 then j113 x3 x4 σ5 else nmx (fun (x6 : Int32) (x7 : Int32) (σ6 : Sx) => r49 x6 x7 (x5 + (1 : Int32)) σ6) (fun (j107 : Int32 → Int32 → Sx → Option (Int32 × Sx)) => lpx3 (B_X10_guard_L60 N a0 x5 j107) N x3 x4 (0 : Int32) σ5))
def F_X10_guard (N : Nat) (a0 : Int32) (a1 : Int32) (σ0 : Sx) : Option (Int32 × Sx) := clx (F_X10_in a0 (0 : Int32) ((jshl (1 : Int32) (siI σ0 103 1)) - (1 : Int32)) σ0) (fun v1 σ1 => (if v1 = 0 then some ((-1 : Int32), σ1) else clx (F_X10_in a1 (0 : Int32) (1 : Int32) σ1) (fun v2 σ2 => (if v2 = 0 then some ((-1 : Int32), σ2) else clx (F_X10_findHeld N  σ2) (fun _ σ3 => (if (siI σ3 103 38) = 0 then some ((-2 : Int32), σ3) else nmx (fun (x1 : Int32) (x2 : Int32) (σ4 : Sx) => (if a1 = 0 then some (x2, σ4) else some (x1, σ4))) (fun (j113 : Int32 → Int32 → Sx → Option (Int32 × Sx)) => lpx3 (B_X10_guard_L49 N a0 j113) N (0 : Int32) (0 : Int32) (0 : Int32) σ3)))))))
set_option maxRecDepth 100000 in
set_option maxHeartbeats 4000000 in
theorem mc_X10_guard {D : va_G} {al : Nat → Nat} {cA : Nat → ClassId} {ba : Nat} (N : Nat) (a0 : Int32) (a1 : Int32) : MCx D al cA ba yX10_guard cX10_guard 8 (some .int) 6 142 rvI [.ref (al 103), .int a0, .int a1] (F_X10_guard N a0 a1) := by
  refine MCx_of (by decide +kernel) (Nat.le_of_ble_eq_true rfl) ?_
  intro p l e s m args below meth c σ0 g hrt
  unfold F_X10_guard
  refine x_lv (lv' := [(0, .ref (al 103)), (1, .int a0), (2, .int a1)]) [0, 1, 2] rfl ?_
  refine x_iload_n (pc := 0) g rfl 1 rfl dX10_guard_0 ?_
  refine x_iconst (pc := 1) (v := (0 : Int32)) g (by decide) dX10_guard_1 ?_
  refine x_iconst (pc := 2) (v := (1 : Int32)) g (by decide) dX10_guard_2 ?_
  refine x_aload_n (pc := 3) g rfl 0 rfl dX10_guard_3 ?_
  refine x_getI (pc := 4) g sh_103 fl_X10_128 rfl dX10_guard_4 ?_
  refine x_ishl (pc := 7) g dX10_guard_7 ?_
  refine x_iconst (pc := 8) (v := (1 : Int32)) g (by decide) dX10_guard_8 ?_
  refine x_isub (pc := 9) g dX10_guard_9 ?_
  refine x_callSI (pc := 10) (As := [.int a0, .int (0 : Int32), .int ((jshl (1 : Int32) (siI σ0 103 1)) - (1 : Int32))]) g (mc_X10_in a0 (0 : Int32) ((jshl (1 : Int32) (siI σ0 103 1)) - (1 : Int32))) cw_X10_in lk_X10_131 rfl ⟨Nat.le_of_ble_eq_true rfl, Nat.le_of_ble_eq_true rfl⟩ rfl (Nat.le_of_ble_eq_true rfl) dX10_guard_10 (fun v1 σ1 => ?_)
  refine x_if_eq (pc := 13) (tgt := 25) g (by decide) dX10_guard_13 ?_ ?_
  · refine x_iconst (pc := 25) (v := (-1 : Int32)) g (by decide) dX10_guard_25 ?_
    exact x_ireturn (pc := 26) g hrt dX10_guard_26
  · refine x_iload_n (pc := 16) g rfl 2 rfl dX10_guard_16 ?_
    refine x_iconst (pc := 17) (v := (0 : Int32)) g (by decide) dX10_guard_17 ?_
    refine x_iconst (pc := 18) (v := (1 : Int32)) g (by decide) dX10_guard_18 ?_
    refine x_callSI (pc := 19) (As := [.int a1, .int (0 : Int32), .int (1 : Int32)]) g (mc_X10_in a1 (0 : Int32) (1 : Int32)) cw_X10_in lk_X10_131 rfl ⟨Nat.le_of_ble_eq_true rfl, Nat.le_of_ble_eq_true rfl⟩ rfl (Nat.le_of_ble_eq_true rfl) dX10_guard_19 (fun v2 σ2 => ?_)
    refine x_if_ne (pc := 22) (tgt := 27) g (by decide) dX10_guard_22 ?_ ?_
    · refine x_aload_n (pc := 27) g rfl 0 rfl dX10_guard_27 ?_
      refine x_callVU (pc := 28) (As := []) g sh_103 (mc_X10_findHeld N ) cw_X10_findHeld lk_X10_305 rfl ⟨Nat.le_of_ble_eq_true rfl, Nat.le_of_ble_eq_true rfl⟩ rfl (Nat.le_of_ble_eq_true rfl) dX10_guard_28 (fun _ σ3 => ?_)
      refine x_aload_n (pc := 31) g rfl 0 rfl dX10_guard_31 ?_
      refine x_getI (pc := 32) g sh_103 fl_X10_299 rfl dX10_guard_32 ?_
      refine x_if_ne (pc := 35) (tgt := 41) g (by decide) dX10_guard_35 ?_ ?_
      · refine x_iconst (pc := 41) (v := (0 : Int32)) g (by decide) dX10_guard_41 ?_
        refine x_istore_n (pc := 42) (lv' := [(3, .int (0 : Int32)), (0, .ref (al 103)), (1, .int a0), (2, .int a1)]) g rfl (by decide) rfl dX10_guard_42 ?_
        refine x_iconst (pc := 43) (v := (0 : Int32)) g (by decide) dX10_guard_43 ?_
        refine x_istore (pc := 44) (lv' := [(4, .int (0 : Int32)), (3, .int (0 : Int32)), (0, .ref (al 103)), (1, .int a0), (2, .int a1)]) g (by decide) rfl dX10_guard_44 ?_
        refine x_iconst (pc := 46) (v := (0 : Int32)) g (by decide) dX10_guard_46 ?_
        refine x_istore (pc := 47) (lv' := [(5, .int (0 : Int32)), (4, .int (0 : Int32)), (3, .int (0 : Int32)), (0, .ref (al 103)), (1, .int a0), (2, .int a1)]) g (by decide) rfl dX10_guard_47 ?_
        refine x_jn (fun (j113 : Int32 → Int32 → Sx → Option (Int32 × Sx)) => ∀ (x1 : Int32) (x2 : Int32) (σ4 : Sx), XTx p l e { frames := 6, cells := 0, slots := 0, locals := 142 } s m args below meth c D al cA ba 8 (MQx rvI D al cA ba below args s) 0 0 113 [(2, .int a1), (3, .int x1), (4, .int x2)] [] σ4 (j113 x1 x2 σ4)) (fun x1 x2 σ4 => ?_) (fun j113 hj113 => ?_)
        · refine x_iload_n (pc := 113) g rfl 0 rfl dX10_guard_113 ?_
          refine x_if_ne (pc := 114) (tgt := 122) g (by decide) dX10_guard_114 ?_ ?_
          · refine x_iload_n (pc := 122) g rfl 1 rfl dX10_guard_122 ?_
            exact x_ireturn (pc := 123) g hrt dX10_guard_123
          · refine x_iload (pc := 117) g 2 rfl dX10_guard_117 ?_
            refine x_goto (pc := 119) (tgt := 123) g (by decide) dX10_guard_119 ?_
            exact x_ireturn (pc := 123) g hrt dX10_guard_123
        · refine x_lv [3, 4, 5, 2, 1, 0] rfl ?_
          refine lpx3_ind (fun (x3 : Int32) (x4 : Int32) (x5 : Int32) (σ5 : Sx) (K : Option (Int32 × Sx)) => XTx p l e { frames := 6, cells := 0, slots := 0, locals := 142 } s m args below meth c D al cA ba 8 (MQx rvI D al cA ba below args s) 0 0 49 [(0, .ref (al 103)), (1, .int a0), (2, .int a1), (3, .int x3), (4, .int x4), (5, .int x5)] [] σ5 (K)) (fun _ _ _ _ => x_no) (fun r49 hr49 x3 x4 x5 σ5 => ?_) N (0 : Int32) (0 : Int32) (0 : Int32) σ3
          show XTx p l e { frames := 6, cells := 0, slots := 0, locals := 142 } s m args below meth c D al cA ba 8 (MQx rvI D al cA ba below args s) 0 0 49 [(0, .ref (al 103)), (1, .int a0), (2, .int a1), (3, .int x3), (4, .int x4), (5, .int x5)] [] σ5 (B_X10_guard_L49 N a0 j113 r49 x3 x4 x5 σ5)
          unfold B_X10_guard_L49
          refine x_iload (pc := 49) g 5 rfl dX10_guard_49 ?_
          refine x_sipush (pc := 51) (v := (400 : Int32)) g (by decide) dX10_guard_51 ?_
          refine x_icmp_gt (pc := 54) (tgt := 113) g (by decide) dX10_guard_54 ?_ ?_
          · refine x_lv [2, 3, 4] rfl ?_
            exact hj113 x3 x4 σ5
          · refine x_iconst (pc := 57) (v := (0 : Int32)) g (by decide) dX10_guard_57 ?_
            refine x_istore (pc := 58) (lv' := [(6, .int (0 : Int32)), (0, .ref (al 103)), (1, .int a0), (2, .int a1), (3, .int x3), (4, .int x4), (5, .int x5)]) g (by decide) rfl dX10_guard_58 ?_
            refine x_jn (fun (j107 : Int32 → Int32 → Sx → Option (Int32 × Sx)) => ∀ (x6 : Int32) (x7 : Int32) (σ6 : Sx), XTx p l e { frames := 6, cells := 0, slots := 0, locals := 142 } s m args below meth c D al cA ba 8 (MQx rvI D al cA ba below args s) 0 0 107 [(0, .ref (al 103)), (1, .int a0), (2, .int a1), (3, .int x6), (4, .int x7), (5, .int x5)] [] σ6 (j107 x6 x7 σ6)) (fun x6 x7 σ6 => ?_) (fun j107 hj107 => ?_)
            · refine x_iinc (pc := 107) (v := (x5 + (1 : Int32))) (lv' := [(5, .int (x5 + (1 : Int32))), (0, .ref (al 103)), (1, .int a0), (2, .int a1), (3, .int x6), (4, .int x7)]) g 5 rfl (by rfl) (by decide) rfl dX10_guard_107 ?_
              refine x_goto (pc := 110) (tgt := 49) g (by decide) dX10_guard_110 ?_
              refine x_lv [1, 2, 3, 4, 5, 0] rfl ?_
              exact hr49 x6 x7 (x5 + (1 : Int32)) σ6
            · refine x_lv [1, 2, 3, 4, 5, 6, 0] rfl ?_
              refine lpx3_ind (fun (x8 : Int32) (x9 : Int32) (x10 : Int32) (σ7 : Sx) (K : Option (Int32 × Sx)) => XTx p l e { frames := 6, cells := 0, slots := 0, locals := 142 } s m args below meth c D al cA ba 8 (MQx rvI D al cA ba below args s) 0 0 60 [(0, .ref (al 103)), (1, .int a0), (2, .int a1), (3, .int x8), (4, .int x9), (5, .int x5), (6, .int x10)] [] σ7 (K)) (fun _ _ _ _ => x_no) (fun r60 hr60 x8 x9 x10 σ7 => ?_) N x3 x4 (0 : Int32) σ5
              show XTx p l e { frames := 6, cells := 0, slots := 0, locals := 142 } s m args below meth c D al cA ba 8 (MQx rvI D al cA ba below args s) 0 0 60 [(0, .ref (al 103)), (1, .int a0), (2, .int a1), (3, .int x8), (4, .int x9), (5, .int x5), (6, .int x10)] [] σ7 (B_X10_guard_L60 N a0 x5 j107 r60 x8 x9 x10 σ7)
              unfold B_X10_guard_L60
              refine x_iload (pc := 60) g 6 rfl dX10_guard_60 ?_
              refine x_bipush (pc := 62) (v := (8 : Int32)) g (by decide) dX10_guard_62 ?_
              refine x_icmp_ge (pc := 64) (tgt := 107) g (by decide) dX10_guard_64 ?_ ?_
              · refine x_lv [0, 1, 2, 3, 4, 5] rfl ?_
                exact hj107 x8 x9 σ7
              · refine x_aload_n (pc := 67) g rfl 0 rfl dX10_guard_67 ?_
                refine x_iload_n (pc := 68) g rfl 1 rfl dX10_guard_68 ?_
                refine x_iload (pc := 69) g 6 rfl dX10_guard_69 ?_
                refine x_iload (pc := 71) g 5 rfl dX10_guard_71 ?_
                refine x_callVI (pc := 73) (As := [.int a0, .int x10, .int x5]) g sh_103 (mc_X10_daysWith N a0 x10 x5) cw_X10_daysWith lk_X10_345 rfl ⟨Nat.le_of_ble_eq_true rfl, Nat.le_of_ble_eq_true rfl⟩ rfl (Nat.le_of_ble_eq_true rfl) dX10_guard_73 (fun v3 σ8 => ?_)
                refine x_istore (pc := 76) (lv' := [(7, .int v3), (0, .ref (al 103)), (1, .int a0), (2, .int a1), (3, .int x8), (4, .int x9), (5, .int x5), (6, .int x10)]) g (by decide) rfl dX10_guard_76 ?_
                refine x_iload (pc := 78) g 0 rfl dX10_guard_78 ?_
                refine x_iload (pc := 80) g 5 rfl dX10_guard_80 ?_
                refine x_jn (fun (j101 : Int32 → Int32 → Sx → Option (Int32 × Sx)) => ∀ (x11 : Int32) (x12 : Int32) (σ9 : Sx), XTx p l e { frames := 6, cells := 0, slots := 0, locals := 142 } s m args below meth c D al cA ba 8 (MQx rvI D al cA ba below args s) 0 0 101 [(0, .ref (al 103)), (1, .int a0), (2, .int a1), (3, .int x11), (4, .int x12), (5, .int x5), (6, .int x10)] [] σ9 (j101 x11 x12 σ9)) (fun x11 x12 σ9 => ?_) (fun j101 hj101 => ?_)
                · refine x_iinc (pc := 101) (v := (x10 + (1 : Int32))) (lv' := [(6, .int (x10 + (1 : Int32))), (0, .ref (al 103)), (1, .int a0), (2, .int a1), (3, .int x11), (4, .int x12), (5, .int x5)]) g 6 rfl (by rfl) (by decide) rfl dX10_guard_101 ?_
                  refine x_goto (pc := 104) (tgt := 60) g (by decide) dX10_guard_104 ?_
                  refine x_lv [1, 2, 3, 4, 5, 6, 0] rfl ?_
                  exact hr60 x11 x12 (x10 + (1 : Int32)) σ9
                · refine x_icmp_gt (pc := 82) (tgt := 88) g (by decide) dX10_guard_82 ?_ ?_
                  · refine x_bipush (pc := 88) (v := (10 : Int32)) g (by decide) dX10_guard_88 ?_
                    refine x_iload (pc := 90) g 6 rfl dX10_guard_90 ?_
                    refine x_imul (pc := 92) g dX10_guard_92 ?_
                    refine x_iload (pc := 93) g 7 rfl dX10_guard_93 ?_
                    refine x_iadd (pc := 95) g dX10_guard_95 ?_
                    refine x_nm (fun v4 => ?_)
                    refine x_istore_n (pc := 96) (lv' := [(3, .int v4), (7, .int v3), (0, .ref (al 103)), (1, .int a0), (2, .int a1), (4, .int x9), (5, .int x5), (6, .int x10)]) g rfl (by decide) rfl dX10_guard_96 ?_
                    refine x_iload (pc := 97) g 1 rfl dX10_guard_97 ?_
                    refine x_istore (pc := 99) (lv' := [(4, .int v3), (3, .int v4), (7, .int v3), (0, .ref (al 103)), (1, .int a0), (2, .int a1), (5, .int x5), (6, .int x10)]) g (by decide) rfl dX10_guard_99 ?_
                    refine x_lv [3, 4, 5, 1, 0, 6, 7] rfl ?_
                    exact hj101 v4 v3 σ8
                  · refine x_goto (pc := 85) (tgt := 101) g (by decide) dX10_guard_85 ?_
                    refine x_lv [1, 2, 3, 4, 5, 6, 7] rfl ?_
                    exact hj101 x8 x9 σ8
      · refine x_bipush (pc := 38) (v := (-2 : Int32)) g (by decide) dX10_guard_38 ?_
        exact x_ireturn (pc := 40) g hrt dX10_guard_40
    · refine x_iconst (pc := 25) (v := (-1 : Int32)) g (by decide) dX10_guard_25 ?_
      exact x_ireturn (pc := 26) g hrt dX10_guard_26
def B_X10_shoes_L37 (N : Nat) (a0 : Int32) (j96 : Int32 → Int32 → Sx → Option (Int32 × Sx)) (r37 : Int32 → Int32 → Int32 → Sx → Option (Int32 × Sx)) (x3 : Int32) (x4 : Int32) (x5 : Int32) (σ5 : Sx) : Option (Int32 × Sx) := (if (60 : Int32) < x5 then j96 x3 x4 σ5 else sIx 104 5 a0 x5 σ5 (fun σ6 => clx (F_X10_findHeld N  σ6) (fun _ σ7 => nmx (fun (x6 : Int32) (x7 : Int32) (σ8 : Sx) => r37 x6 x7 (x5 + (1 : Int32)) σ8) (fun (j90 : Int32 → Int32 → Sx → Option (Int32 × Sx)) => (if (siI σ7 103 38) = 0 then j90 x3 x4 σ7 else nmx (fun (σ9 : Sx) => nmx ((siI σ9 103 38)) (fun v4 => j90 x5 v4 σ9)) (fun (j80 : Sx → Option (Int32 × Sx)) => (if x3 < 0 then j80 σ7 else (if (siI σ7 103 38) < x4 then j80 σ7 else j90 x3 x4 σ7))))))))
def F_X10_shoes (N : Nat) (a0 : Int32) (a1 : Int32) (σ0 : Sx) : Option (Int32 × Sx) := clx (F_X10_isWalker a0 σ0) (fun v1 σ1 => (if v1 = 0 then some ((-1 : Int32), σ1) else clx (F_X10_in a1 (0 : Int32) (1 : Int32) σ1) (fun v2 σ2 => (if v2 = 0 then some ((-1 : Int32), σ2) else aIx 104 5 a0 σ2 (fun v3 => nmx (fun (x1 : Int32) (x2 : Int32) (σ3 : Sx) => sIx 104 5 a0 v3 σ3 (fun σ4 => (if a1 = 0 then some (x1, σ4) else some (x2, σ4)))) (fun (j96 : Int32 → Int32 → Sx → Option (Int32 × Sx)) => lpx3 (B_X10_shoes_L37 N a0 j96) N (-2 : Int32) (-2 : Int32) (0 : Int32) σ2))))))
set_option maxRecDepth 100000 in
set_option maxHeartbeats 4000000 in
theorem mc_X10_shoes {D : va_G} {al : Nat → Nat} {cA : Nat → ClassId} {ba : Nat} (N : Nat) (a0 : Int32) (a1 : Int32) : MCx D al cA ba yX10_shoes cX10_shoes 7 (some .int) 6 142 rvI [.ref (al 103), .int a0, .int a1] (F_X10_shoes N a0 a1) := by
  refine MCx_of (by decide +kernel) (Nat.le_of_ble_eq_true rfl) ?_
  intro p l e s m args below meth c σ0 g hrt
  unfold F_X10_shoes
  refine x_lv (lv' := [(0, .ref (al 103)), (1, .int a0), (2, .int a1)]) [0, 1, 2] rfl ?_
  refine x_aload_n (pc := 0) g rfl 0 rfl dX10_shoes_0 ?_
  refine x_iload_n (pc := 1) g rfl 1 rfl dX10_shoes_1 ?_
  refine x_callVI (pc := 2) (As := [.int a0]) g sh_103 (mc_X10_isWalker a0) cw_X10_isWalker lk_X10_157 rfl ⟨Nat.le_of_ble_eq_true rfl, Nat.le_of_ble_eq_true rfl⟩ rfl (Nat.le_of_ble_eq_true rfl) dX10_shoes_2 (fun v1 σ1 => ?_)
  refine x_if_eq (pc := 5) (tgt := 17) g (by decide) dX10_shoes_5 ?_ ?_
  · refine x_iconst (pc := 17) (v := (-1 : Int32)) g (by decide) dX10_shoes_17 ?_
    exact x_ireturn (pc := 18) g hrt dX10_shoes_18
  · refine x_iload_n (pc := 8) g rfl 2 rfl dX10_shoes_8 ?_
    refine x_iconst (pc := 9) (v := (0 : Int32)) g (by decide) dX10_shoes_9 ?_
    refine x_iconst (pc := 10) (v := (1 : Int32)) g (by decide) dX10_shoes_10 ?_
    refine x_callSI (pc := 11) (As := [.int a1, .int (0 : Int32), .int (1 : Int32)]) g (mc_X10_in a1 (0 : Int32) (1 : Int32)) cw_X10_in lk_X10_131 rfl ⟨Nat.le_of_ble_eq_true rfl, Nat.le_of_ble_eq_true rfl⟩ rfl (Nat.le_of_ble_eq_true rfl) dX10_shoes_11 (fun v2 σ2 => ?_)
    refine x_if_ne (pc := 14) (tgt := 19) g (by decide) dX10_shoes_14 ?_ ?_
    · refine x_aload_n (pc := 19) g rfl 0 rfl dX10_shoes_19 ?_
      refine x_getR (pc := 20) g sh_103 fl_X10_7 rfl dX10_shoes_20 ?_
      refine x_iload_n (pc := 23) g rfl 1 rfl dX10_shoes_23 ?_
      refine x_iald (pc := 24) g sh_104 (by decide) dX10_shoes_24 (fun v3 => ?_)
      refine x_istore_n (pc := 25) (lv' := [(3, .int v3), (0, .ref (al 103)), (1, .int a0), (2, .int a1)]) g rfl (by decide) rfl dX10_shoes_25 ?_
      refine x_bipush (pc := 26) (v := (-2 : Int32)) g (by decide) dX10_shoes_26 ?_
      refine x_istore (pc := 28) (lv' := [(4, .int (-2 : Int32)), (3, .int v3), (0, .ref (al 103)), (1, .int a0), (2, .int a1)]) g (by decide) rfl dX10_shoes_28 ?_
      refine x_bipush (pc := 30) (v := (-2 : Int32)) g (by decide) dX10_shoes_30 ?_
      refine x_istore (pc := 32) (lv' := [(5, .int (-2 : Int32)), (4, .int (-2 : Int32)), (3, .int v3), (0, .ref (al 103)), (1, .int a0), (2, .int a1)]) g (by decide) rfl dX10_shoes_32 ?_
      refine x_iconst (pc := 34) (v := (0 : Int32)) g (by decide) dX10_shoes_34 ?_
      refine x_istore (pc := 35) (lv' := [(6, .int (0 : Int32)), (5, .int (-2 : Int32)), (4, .int (-2 : Int32)), (3, .int v3), (0, .ref (al 103)), (1, .int a0), (2, .int a1)]) g (by decide) rfl dX10_shoes_35 ?_
      refine x_jn (fun (j96 : Int32 → Int32 → Sx → Option (Int32 × Sx)) => ∀ (x1 : Int32) (x2 : Int32) (σ3 : Sx), XTx p l e { frames := 6, cells := 0, slots := 0, locals := 142 } s m args below meth c D al cA ba 7 (MQx rvI D al cA ba below args s) 0 0 96 [(0, .ref (al 103)), (1, .int a0), (2, .int a1), (3, .int v3), (4, .int x1), (5, .int x2)] [] σ3 (j96 x1 x2 σ3)) (fun x1 x2 σ3 => ?_) (fun j96 hj96 => ?_)
      · refine x_aload_n (pc := 96) g rfl 0 rfl dX10_shoes_96 ?_
        refine x_getR (pc := 97) g sh_103 fl_X10_7 rfl dX10_shoes_97 ?_
        refine x_iload_n (pc := 100) g rfl 1 rfl dX10_shoes_100 ?_
        refine x_iload_n (pc := 101) g rfl 3 rfl dX10_shoes_101 ?_
        refine x_iast (pc := 102) g sh_104 (by decide) dX10_shoes_102 (fun σ4 => ?_)
        refine x_iload_n (pc := 103) g rfl 2 rfl dX10_shoes_103 ?_
        refine x_if_ne (pc := 104) (tgt := 112) g (by decide) dX10_shoes_104 ?_ ?_
        · refine x_iload (pc := 112) g 5 rfl dX10_shoes_112 ?_
          exact x_ireturn (pc := 114) g hrt dX10_shoes_114
        · refine x_iload (pc := 107) g 4 rfl dX10_shoes_107 ?_
          refine x_goto (pc := 109) (tgt := 114) g (by decide) dX10_shoes_109 ?_
          exact x_ireturn (pc := 114) g hrt dX10_shoes_114
      · refine x_lv [4, 5, 6, 3, 2, 1, 0] rfl ?_
        refine lpx3_ind (fun (x3 : Int32) (x4 : Int32) (x5 : Int32) (σ5 : Sx) (K : Option (Int32 × Sx)) => XTx p l e { frames := 6, cells := 0, slots := 0, locals := 142 } s m args below meth c D al cA ba 7 (MQx rvI D al cA ba below args s) 0 0 37 [(0, .ref (al 103)), (1, .int a0), (2, .int a1), (3, .int v3), (4, .int x3), (5, .int x4), (6, .int x5)] [] σ5 (K)) (fun _ _ _ _ => x_no) (fun r37 hr37 x3 x4 x5 σ5 => ?_) N (-2 : Int32) (-2 : Int32) (0 : Int32) σ2
        show XTx p l e { frames := 6, cells := 0, slots := 0, locals := 142 } s m args below meth c D al cA ba 7 (MQx rvI D al cA ba below args s) 0 0 37 [(0, .ref (al 103)), (1, .int a0), (2, .int a1), (3, .int v3), (4, .int x3), (5, .int x4), (6, .int x5)] [] σ5 (B_X10_shoes_L37 N a0 j96 r37 x3 x4 x5 σ5)
        unfold B_X10_shoes_L37
        refine x_iload (pc := 37) g 6 rfl dX10_shoes_37 ?_
        refine x_bipush (pc := 39) (v := (60 : Int32)) g (by decide) dX10_shoes_39 ?_
        refine x_icmp_gt (pc := 41) (tgt := 96) g (by decide) dX10_shoes_41 ?_ ?_
        · refine x_lv [0, 1, 2, 3, 4, 5] rfl ?_
          exact hj96 x3 x4 σ5
        · refine x_aload_n (pc := 44) g rfl 0 rfl dX10_shoes_44 ?_
          refine x_getR (pc := 45) g sh_103 fl_X10_7 rfl dX10_shoes_45 ?_
          refine x_iload_n (pc := 48) g rfl 1 rfl dX10_shoes_48 ?_
          refine x_iload (pc := 49) g 6 rfl dX10_shoes_49 ?_
          refine x_iast (pc := 51) g sh_104 (by decide) dX10_shoes_51 (fun σ6 => ?_)
          refine x_aload_n (pc := 52) g rfl 0 rfl dX10_shoes_52 ?_
          refine x_callVU (pc := 53) (As := []) g sh_103 (mc_X10_findHeld N ) cw_X10_findHeld lk_X10_305 rfl ⟨Nat.le_of_ble_eq_true rfl, Nat.le_of_ble_eq_true rfl⟩ rfl (Nat.le_of_ble_eq_true rfl) dX10_shoes_53 (fun _ σ7 => ?_)
          refine x_aload_n (pc := 56) g rfl 0 rfl dX10_shoes_56 ?_
          refine x_getI (pc := 57) g sh_103 fl_X10_299 rfl dX10_shoes_57 ?_
          refine x_jn (fun (j90 : Int32 → Int32 → Sx → Option (Int32 × Sx)) => ∀ (x6 : Int32) (x7 : Int32) (σ8 : Sx), XTx p l e { frames := 6, cells := 0, slots := 0, locals := 142 } s m args below meth c D al cA ba 7 (MQx rvI D al cA ba below args s) 0 0 90 [(0, .ref (al 103)), (1, .int a0), (2, .int a1), (3, .int v3), (4, .int x6), (5, .int x7), (6, .int x5)] [] σ8 (j90 x6 x7 σ8)) (fun x6 x7 σ8 => ?_) (fun j90 hj90 => ?_)
          · refine x_iinc (pc := 90) (v := (x5 + (1 : Int32))) (lv' := [(6, .int (x5 + (1 : Int32))), (0, .ref (al 103)), (1, .int a0), (2, .int a1), (3, .int v3), (4, .int x6), (5, .int x7)]) g 6 rfl (by rfl) (by decide) rfl dX10_shoes_90 ?_
            refine x_goto (pc := 93) (tgt := 37) g (by decide) dX10_shoes_93 ?_
            refine x_lv [1, 2, 3, 4, 5, 6, 0] rfl ?_
            exact hr37 x6 x7 (x5 + (1 : Int32)) σ8
          · refine x_if_eq (pc := 60) (tgt := 90) g (by decide) dX10_shoes_60 ?_ ?_
            · exact hj90 x3 x4 σ7
            · refine x_iload (pc := 63) g 4 rfl dX10_shoes_63 ?_
              refine x_jn (fun (j80 : Sx → Option (Int32 × Sx)) => ∀ (σ9 : Sx), XTx p l e { frames := 6, cells := 0, slots := 0, locals := 142 } s m args below meth c D al cA ba 7 (MQx rvI D al cA ba below args s) 0 0 80 [(0, .ref (al 103)), (1, .int a0), (2, .int a1), (3, .int v3), (6, .int x5)] [] σ9 (j80 σ9)) (fun σ9 => ?_) (fun j80 hj80 => ?_)
              · refine x_iload (pc := 80) g 4 rfl dX10_shoes_80 ?_
                refine x_istore (pc := 82) (lv' := [(4, .int x5), (0, .ref (al 103)), (1, .int a0), (2, .int a1), (3, .int v3), (6, .int x5)]) g (by decide) rfl dX10_shoes_82 ?_
                refine x_aload_n (pc := 84) g rfl 1 rfl dX10_shoes_84 ?_
                refine x_getI (pc := 85) g sh_103 fl_X10_299 rfl dX10_shoes_85 ?_
                refine x_nm (fun v4 => ?_)
                refine x_istore (pc := 88) (lv' := [(5, .int v4), (4, .int x5), (0, .ref (al 103)), (1, .int a0), (2, .int a1), (3, .int v3), (6, .int x5)]) g (by decide) rfl dX10_shoes_88 ?_
                refine x_lv [2, 3, 4, 5, 1, 0, 6] rfl ?_
                exact hj90 x5 v4 σ9
              · refine x_if_lt (pc := 65) (tgt := 80) g (by decide) dX10_shoes_65 ?_ ?_
                · refine x_lv [0, 1, 2, 3, 6] rfl ?_
                  exact hj80 σ7
                · refine x_aload_n (pc := 68) g rfl 0 rfl dX10_shoes_68 ?_
                  refine x_getI (pc := 69) g sh_103 fl_X10_299 rfl dX10_shoes_69 ?_
                  refine x_iload (pc := 72) g 5 rfl dX10_shoes_72 ?_
                  refine x_icmp_lt (pc := 74) (tgt := 80) g (by decide) dX10_shoes_74 ?_ ?_
                  · refine x_lv [0, 1, 2, 3, 6] rfl ?_
                    exact hj80 σ7
                  · refine x_goto (pc := 77) (tgt := 90) g (by decide) dX10_shoes_77 ?_
                    exact hj90 x3 x4 σ7
    · refine x_iconst (pc := 17) (v := (-1 : Int32)) g (by decide) dX10_shoes_17 ?_
      exact x_ireturn (pc := 18) g hrt dX10_shoes_18
def F_X10_heldBy (a0 : Int32) (σ0 : Sx) : Option (Int32 × Sx) := (if a0 = 0 then some ((siI σ0 103 38), σ0) else (if (siI σ0 103 38) = 0 then some ((-2 : Int32), σ0) else aIx 126 1024 (0 : Int32) σ0 (fun v1 => some (v1, σ0))))
set_option maxRecDepth 100000 in
set_option maxHeartbeats 4000000 in
theorem mc_X10_heldBy {D : va_G} {al : Nat → Nat} {cA : Nat → ClassId} {ba : Nat} (a0 : Int32) : MCx D al cA ba yX10_heldBy cX10_heldBy 2 (some .int) 0 0 rvI [.ref (al 103), .int a0] (F_X10_heldBy a0) := by
  refine MCx_of (by decide +kernel) (Nat.le_of_ble_eq_true rfl) ?_
  intro p l e s m args below meth c σ0 g hrt
  unfold F_X10_heldBy
  refine x_lv (lv' := [(0, .ref (al 103)), (1, .int a0)]) [0, 1] rfl ?_
  refine x_iload_n (pc := 0) g rfl 1 rfl dX10_heldBy_0 ?_
  refine x_if_ne (pc := 1) (tgt := 11) g (by decide) dX10_heldBy_1 ?_ ?_
  · refine x_aload_n (pc := 11) g rfl 0 rfl dX10_heldBy_11 ?_
    refine x_getI (pc := 12) g sh_103 fl_X10_299 rfl dX10_heldBy_12 ?_
    refine x_if_ne (pc := 15) (tgt := 23) g (by decide) dX10_heldBy_15 ?_ ?_
    · refine x_aload_n (pc := 23) g rfl 0 rfl dX10_heldBy_23 ?_
      refine x_getR (pc := 24) g sh_103 fl_X10_85 rfl dX10_heldBy_24 ?_
      refine x_iconst (pc := 27) (v := (0 : Int32)) g (by decide) dX10_heldBy_27 ?_
      refine x_iald (pc := 28) g sh_126 (by decide) dX10_heldBy_28 (fun v1 => ?_)
      exact x_ireturn (pc := 29) g hrt dX10_heldBy_29
    · refine x_bipush (pc := 18) (v := (-2 : Int32)) g (by decide) dX10_heldBy_18 ?_
      refine x_goto (pc := 20) (tgt := 29) g (by decide) dX10_heldBy_20 ?_
      exact x_ireturn (pc := 29) g hrt dX10_heldBy_29
  · refine x_aload_n (pc := 4) g rfl 0 rfl dX10_heldBy_4 ?_
    refine x_getI (pc := 5) g sh_103 fl_X10_299 rfl dX10_heldBy_5 ?_
    refine x_goto (pc := 8) (tgt := 29) g (by decide) dX10_heldBy_8 ?_
    exact x_ireturn (pc := 29) g hrt dX10_heldBy_29
def F_X10_feigned (N : Nat) (a0 : Int32) (a1 : Int32) (a2 : Int32) (σ0 : Sx) : Option (Int32 × Sx) := clx (F_X10_isWalker a0 σ0) (fun v1 σ1 => (if v1 = 0 then some ((-1 : Int32), σ1) else clx (F_X10_isPlace a1 σ1) (fun v2 σ2 => (if v2 = 0 then some ((-1 : Int32), σ2) else clx (F_X10_in a2 (0 : Int32) (1 : Int32) σ2) (fun v3 σ3 => (if v3 = 0 then some ((-1 : Int32), σ3) else pIx 103 32 a0 σ3 (fun σ4 => pIx 103 33 a1 σ4 (fun σ5 => clx (F_X10_findHeld N  σ5) (fun _ σ6 => pIx 103 32 (-1 : Int32) σ6 (fun σ7 => clx (F_X10_heldBy a2 σ7) (fun v4 σ8 => some (v4, σ8))))))))))))
set_option maxRecDepth 100000 in
set_option maxHeartbeats 4000000 in
theorem mc_X10_feigned {D : va_G} {al : Nat → Nat} {cA : Nat → ClassId} {ba : Nat} (N : Nat) (a0 : Int32) (a1 : Int32) (a2 : Int32) : MCx D al cA ba yX10_feigned cX10_feigned 4 (some .int) 6 142 rvI [.ref (al 103), .int a0, .int a1, .int a2] (F_X10_feigned N a0 a1 a2) := by
  refine MCx_of (by decide +kernel) (Nat.le_of_ble_eq_true rfl) ?_
  intro p l e s m args below meth c σ0 g hrt
  unfold F_X10_feigned
  refine x_lv (lv' := [(0, .ref (al 103)), (1, .int a0), (2, .int a1), (3, .int a2)]) [0, 1, 2, 3] rfl ?_
  refine x_aload_n (pc := 0) g rfl 0 rfl dX10_feigned_0 ?_
  refine x_iload_n (pc := 1) g rfl 1 rfl dX10_feigned_1 ?_
  refine x_callVI (pc := 2) (As := [.int a0]) g sh_103 (mc_X10_isWalker a0) cw_X10_isWalker lk_X10_157 rfl ⟨Nat.le_of_ble_eq_true rfl, Nat.le_of_ble_eq_true rfl⟩ rfl (Nat.le_of_ble_eq_true rfl) dX10_feigned_2 (fun v1 σ1 => ?_)
  refine x_if_eq (pc := 5) (tgt := 24) g (by decide) dX10_feigned_5 ?_ ?_
  · refine x_iconst (pc := 24) (v := (-1 : Int32)) g (by decide) dX10_feigned_24 ?_
    exact x_ireturn (pc := 25) g hrt dX10_feigned_25
  · refine x_iload_n (pc := 8) g rfl 2 rfl dX10_feigned_8 ?_
    refine x_callSI (pc := 9) (As := [.int a1]) g (mc_X10_isPlace a1) cw_X10_isPlace lk_X10_135 rfl ⟨Nat.le_of_ble_eq_true rfl, Nat.le_of_ble_eq_true rfl⟩ rfl (Nat.le_of_ble_eq_true rfl) dX10_feigned_9 (fun v2 σ2 => ?_)
    refine x_if_eq (pc := 12) (tgt := 24) g (by decide) dX10_feigned_12 ?_ ?_
    · refine x_iconst (pc := 24) (v := (-1 : Int32)) g (by decide) dX10_feigned_24 ?_
      exact x_ireturn (pc := 25) g hrt dX10_feigned_25
    · refine x_iload_n (pc := 15) g rfl 3 rfl dX10_feigned_15 ?_
      refine x_iconst (pc := 16) (v := (0 : Int32)) g (by decide) dX10_feigned_16 ?_
      refine x_iconst (pc := 17) (v := (1 : Int32)) g (by decide) dX10_feigned_17 ?_
      refine x_callSI (pc := 18) (As := [.int a2, .int (0 : Int32), .int (1 : Int32)]) g (mc_X10_in a2 (0 : Int32) (1 : Int32)) cw_X10_in lk_X10_131 rfl ⟨Nat.le_of_ble_eq_true rfl, Nat.le_of_ble_eq_true rfl⟩ rfl (Nat.le_of_ble_eq_true rfl) dX10_feigned_18 (fun v3 σ3 => ?_)
      refine x_if_ne (pc := 21) (tgt := 26) g (by decide) dX10_feigned_21 ?_ ?_
      · refine x_aload_n (pc := 26) g rfl 0 rfl dX10_feigned_26 ?_
        refine x_iload_n (pc := 27) g rfl 1 rfl dX10_feigned_27 ?_
        refine x_putI (pc := 28) g sh_103 fl_X10_78 rfl dX10_feigned_28 (fun σ4 => ?_)
        refine x_aload_n (pc := 31) g rfl 0 rfl dX10_feigned_31 ?_
        refine x_iload_n (pc := 32) g rfl 2 rfl dX10_feigned_32 ?_
        refine x_putI (pc := 33) g sh_103 fl_X10_284 rfl dX10_feigned_33 (fun σ5 => ?_)
        refine x_aload_n (pc := 36) g rfl 0 rfl dX10_feigned_36 ?_
        refine x_callVU (pc := 37) (As := []) g sh_103 (mc_X10_findHeld N ) cw_X10_findHeld lk_X10_305 rfl ⟨Nat.le_of_ble_eq_true rfl, Nat.le_of_ble_eq_true rfl⟩ rfl (Nat.le_of_ble_eq_true rfl) dX10_feigned_37 (fun _ σ6 => ?_)
        refine x_aload_n (pc := 40) g rfl 0 rfl dX10_feigned_40 ?_
        refine x_iconst (pc := 41) (v := (-1 : Int32)) g (by decide) dX10_feigned_41 ?_
        refine x_putI (pc := 42) g sh_103 fl_X10_78 rfl dX10_feigned_42 (fun σ7 => ?_)
        refine x_aload_n (pc := 45) g rfl 0 rfl dX10_feigned_45 ?_
        refine x_iload_n (pc := 46) g rfl 3 rfl dX10_feigned_46 ?_
        refine x_callVI (pc := 47) (As := [.int a2]) g sh_103 (mc_X10_heldBy a2) cw_X10_heldBy lk_X10_348 rfl ⟨Nat.le_of_ble_eq_true rfl, Nat.le_of_ble_eq_true rfl⟩ rfl (Nat.le_of_ble_eq_true rfl) dX10_feigned_47 (fun v4 σ8 => ?_)
        exact x_ireturn (pc := 50) g hrt dX10_feigned_50
      · refine x_iconst (pc := 24) (v := (-1 : Int32)) g (by decide) dX10_feigned_24 ?_
        exact x_ireturn (pc := 25) g hrt dX10_feigned_25
def F_X10_flood (N : Nat) (a0 : Int32) (a1 : Int32) (a2 : Int32) (σ0 : Sx) : Option (Int32 × Sx) := clx (F_X10_isPlace a0 σ0) (fun v1 σ1 => (if v1 = 0 then some ((-1 : Int32), σ1) else (if a1 < 0 then some ((-1 : Int32), σ1) else (if (jrem a1 (1000 : Int32)) < (a1 / (1000 : Int32)) then some ((-1 : Int32), σ1) else (if (999 : Int32) < (a1 / (1000 : Int32)) then some ((-1 : Int32), σ1) else clx (F_X10_in a2 (0 : Int32) (1 : Int32) σ1) (fun v2 σ2 => (if v2 = 0 then some ((-1 : Int32), σ2) else pIx 103 34 a0 σ2 (fun σ3 => pIx 103 35 (a1 / (1000 : Int32)) σ3 (fun σ4 => pIx 103 36 (jrem a1 (1000 : Int32)) σ4 (fun σ5 => clx (F_X10_findHeld N  σ5) (fun _ σ6 => pIx 103 34 (-1 : Int32) σ6 (fun σ7 => clx (F_X10_heldBy a2 σ7) (fun v3 σ8 => some (v3, σ8))))))))))))))
set_option maxRecDepth 100000 in
set_option maxHeartbeats 4000000 in
theorem mc_X10_flood {D : va_G} {al : Nat → Nat} {cA : Nat → ClassId} {ba : Nat} (N : Nat) (a0 : Int32) (a1 : Int32) (a2 : Int32) : MCx D al cA ba yX10_flood cX10_flood 4 (some .int) 6 142 rvI [.ref (al 103), .int a0, .int a1, .int a2] (F_X10_flood N a0 a1 a2) := by
  refine MCx_of (by decide +kernel) (Nat.le_of_ble_eq_true rfl) ?_
  intro p l e s m args below meth c σ0 g hrt
  unfold F_X10_flood
  refine x_lv (lv' := [(0, .ref (al 103)), (1, .int a0), (2, .int a1), (3, .int a2)]) [0, 1, 2, 3] rfl ?_
  refine x_iload_n (pc := 0) g rfl 1 rfl dX10_flood_0 ?_
  refine x_callSI (pc := 1) (As := [.int a0]) g (mc_X10_isPlace a0) cw_X10_isPlace lk_X10_135 rfl ⟨Nat.le_of_ble_eq_true rfl, Nat.le_of_ble_eq_true rfl⟩ rfl (Nat.le_of_ble_eq_true rfl) dX10_flood_1 (fun v1 σ1 => ?_)
  refine x_if_eq (pc := 4) (tgt := 44) g (by decide) dX10_flood_4 ?_ ?_
  · refine x_iconst (pc := 44) (v := (-1 : Int32)) g (by decide) dX10_flood_44 ?_
    exact x_ireturn (pc := 45) g hrt dX10_flood_45
  · refine x_iload_n (pc := 7) g rfl 2 rfl dX10_flood_7 ?_
    refine x_if_lt (pc := 8) (tgt := 44) g (by decide) dX10_flood_8 ?_ ?_
    · refine x_iconst (pc := 44) (v := (-1 : Int32)) g (by decide) dX10_flood_44 ?_
      exact x_ireturn (pc := 45) g hrt dX10_flood_45
    · refine x_iload_n (pc := 11) g rfl 2 rfl dX10_flood_11 ?_
      refine x_sipush (pc := 12) (v := (1000 : Int32)) g (by decide) dX10_flood_12 ?_
      refine x_idiv (pc := 15) g (by decide) dX10_flood_15 ?_
      refine x_iload_n (pc := 16) g rfl 2 rfl dX10_flood_16 ?_
      refine x_sipush (pc := 17) (v := (1000 : Int32)) g (by decide) dX10_flood_17 ?_
      refine x_irem (pc := 20) g (by decide) dX10_flood_20 ?_
      refine x_icmp_gt (pc := 21) (tgt := 44) g (by decide) dX10_flood_21 ?_ ?_
      · refine x_iconst (pc := 44) (v := (-1 : Int32)) g (by decide) dX10_flood_44 ?_
        exact x_ireturn (pc := 45) g hrt dX10_flood_45
      · refine x_iload_n (pc := 24) g rfl 2 rfl dX10_flood_24 ?_
        refine x_sipush (pc := 25) (v := (1000 : Int32)) g (by decide) dX10_flood_25 ?_
        refine x_idiv (pc := 28) g (by decide) dX10_flood_28 ?_
        refine x_sipush (pc := 29) (v := (999 : Int32)) g (by decide) dX10_flood_29 ?_
        refine x_icmp_gt (pc := 32) (tgt := 44) g (by decide) dX10_flood_32 ?_ ?_
        · refine x_iconst (pc := 44) (v := (-1 : Int32)) g (by decide) dX10_flood_44 ?_
          exact x_ireturn (pc := 45) g hrt dX10_flood_45
        · refine x_iload_n (pc := 35) g rfl 3 rfl dX10_flood_35 ?_
          refine x_iconst (pc := 36) (v := (0 : Int32)) g (by decide) dX10_flood_36 ?_
          refine x_iconst (pc := 37) (v := (1 : Int32)) g (by decide) dX10_flood_37 ?_
          refine x_callSI (pc := 38) (As := [.int a2, .int (0 : Int32), .int (1 : Int32)]) g (mc_X10_in a2 (0 : Int32) (1 : Int32)) cw_X10_in lk_X10_131 rfl ⟨Nat.le_of_ble_eq_true rfl, Nat.le_of_ble_eq_true rfl⟩ rfl (Nat.le_of_ble_eq_true rfl) dX10_flood_38 (fun v2 σ2 => ?_)
          refine x_if_ne (pc := 41) (tgt := 46) g (by decide) dX10_flood_41 ?_ ?_
          · refine x_aload_n (pc := 46) g rfl 0 rfl dX10_flood_46 ?_
            refine x_iload_n (pc := 47) g rfl 1 rfl dX10_flood_47 ?_
            refine x_putI (pc := 48) g sh_103 fl_X10_82 rfl dX10_flood_48 (fun σ3 => ?_)
            refine x_aload_n (pc := 51) g rfl 0 rfl dX10_flood_51 ?_
            refine x_iload_n (pc := 52) g rfl 2 rfl dX10_flood_52 ?_
            refine x_sipush (pc := 53) (v := (1000 : Int32)) g (by decide) dX10_flood_53 ?_
            refine x_idiv (pc := 56) g (by decide) dX10_flood_56 ?_
            refine x_putI (pc := 57) g sh_103 fl_X10_274 rfl dX10_flood_57 (fun σ4 => ?_)
            refine x_aload_n (pc := 60) g rfl 0 rfl dX10_flood_60 ?_
            refine x_iload_n (pc := 61) g rfl 2 rfl dX10_flood_61 ?_
            refine x_sipush (pc := 62) (v := (1000 : Int32)) g (by decide) dX10_flood_62 ?_
            refine x_irem (pc := 65) g (by decide) dX10_flood_65 ?_
            refine x_putI (pc := 66) g sh_103 fl_X10_277 rfl dX10_flood_66 (fun σ5 => ?_)
            refine x_aload_n (pc := 69) g rfl 0 rfl dX10_flood_69 ?_
            refine x_callVU (pc := 70) (As := []) g sh_103 (mc_X10_findHeld N ) cw_X10_findHeld lk_X10_305 rfl ⟨Nat.le_of_ble_eq_true rfl, Nat.le_of_ble_eq_true rfl⟩ rfl (Nat.le_of_ble_eq_true rfl) dX10_flood_70 (fun _ σ6 => ?_)
            refine x_aload_n (pc := 73) g rfl 0 rfl dX10_flood_73 ?_
            refine x_iconst (pc := 74) (v := (-1 : Int32)) g (by decide) dX10_flood_74 ?_
            refine x_putI (pc := 75) g sh_103 fl_X10_82 rfl dX10_flood_75 (fun σ7 => ?_)
            refine x_aload_n (pc := 78) g rfl 0 rfl dX10_flood_78 ?_
            refine x_iload_n (pc := 79) g rfl 3 rfl dX10_flood_79 ?_
            refine x_callVI (pc := 80) (As := [.int a2]) g sh_103 (mc_X10_heldBy a2) cw_X10_heldBy lk_X10_348 rfl ⟨Nat.le_of_ble_eq_true rfl, Nat.le_of_ble_eq_true rfl⟩ rfl (Nat.le_of_ble_eq_true rfl) dX10_flood_80 (fun v3 σ8 => ?_)
            exact x_ireturn (pc := 83) g hrt dX10_flood_83
          · refine x_iconst (pc := 44) (v := (-1 : Int32)) g (by decide) dX10_flood_44 ?_
            exact x_ireturn (pc := 45) g hrt dX10_flood_45
def B_X10_drawn_L145 (N : Nat) (j171 : Sx → Option (Int32 × Sx)) (r145 : Int32 → Sx → Option (Int32 × Sx)) (x3 : Int32) (σ6 : Sx) : Option (Int32 × Sx) := (if (5 : Int32) ≤ x3 then j171 σ6 else aIx 130 5 x3 σ6 (fun v3 => sIx 104 5 x3 v3 σ6 (fun σ7 => r145 (x3 + (1 : Int32)) σ7)))
def B_X10_drawn_L71 (N : Nat) (j113 : Int32 → Sx → Option (Int32 × Sx)) (r71 : Int32 → Int32 → Sx → Option (Int32 × Sx)) (x10 : Int32) (x11 : Int32) (σ12 : Sx) : Option (Int32 × Sx) := (if (siI σ12 103 1) ≤ x11 then j113 x10 σ12 else nmx (((x10 * (1103515245 : Int32)) + (12345 : Int32))) (fun v5 => sIx 104 5 x11 (jrem (jushr v5 (8 : Int32)) (61 : Int32)) σ12 (fun σ13 => r71 v5 (x11 + (1 : Int32)) σ13)))
def B_X10_drawn_L62 (N : Nat) (a1 : Int32) (j142 : Int32 → Int32 → Sx → Option (Int32 × Sx)) (r62 : Int32 → Int32 → Int32 → Int32 → Sx → Option (Int32 × Sx)) (x4 : Int32) (x5 : Int32) (x6 : Int32) (x7 : Int32) (σ8 : Sx) : Option (Int32 × Sx) := (if a1 ≤ x7 then j142 x5 x6 σ8 else nmx (fun (x8 : Int32) (σ9 : Sx) => clx (F_X10_findHeld N  σ9) (fun _ σ10 => nmx ((x5 + (siI σ10 103 38))) (fun v4 => nmx (fun (x9 : Int32) (σ11 : Sx) => r62 x8 v4 x9 (x7 + (1 : Int32)) σ11) (fun (j136 : Int32 → Sx → Option (Int32 × Sx)) => (if (siI σ10 103 38) = 0 then j136 (x6 + (1 : Int32)) σ10 else j136 x6 σ10))))) (fun (j113 : Int32 → Sx → Option (Int32 × Sx)) => lpx2 (B_X10_drawn_L71 N j113) N x4 (0 : Int32) σ8))
def B_X10_drawn_L24 (N : Nat) (j50 : Sx → Option (Int32 × Sx)) (r24 : Int32 → Sx → Option (Int32 × Sx)) (x12 : Int32) (σ14 : Sx) : Option (Int32 × Sx) := (if (5 : Int32) ≤ x12 then j50 σ14 else aIx 104 5 x12 σ14 (fun v6 => sIx 130 5 x12 v6 σ14 (fun σ15 => r24 (x12 + (1 : Int32)) σ15)))
def F_X10_drawn (N : Nat) (a0 : Int32) (a1 : Int32) (a2 : Int32) (σ0 : Sx) : Option (Int32 × Sx) := clx (F_X10_in a1 (1 : Int32) (20 : Int32) σ0) (fun v1 σ1 => (if v1 = 0 then some ((-1 : Int32), σ1) else clx (F_X10_in a2 (0 : Int32) (1 : Int32) σ1) (fun v2 σ2 => (if v2 = 0 then some ((-1 : Int32), σ2) else nmx (fun (σ3 : Sx) => nmx (fun (x1 : Int32) (x2 : Int32) (σ4 : Sx) => nmx (fun (σ5 : Sx) => (if a2 = 0 then some (x1, σ5) else some (x2, σ5))) (fun (j171 : Sx → Option (Int32 × Sx)) => lpx1 (B_X10_drawn_L145 N j171) N (0 : Int32) σ4)) (fun (j142 : Int32 → Int32 → Sx → Option (Int32 × Sx)) => lpx4 (B_X10_drawn_L62 N a1 j142) N a0 (0 : Int32) (0 : Int32) (0 : Int32) σ3)) (fun (j50 : Sx → Option (Int32 × Sx)) => lpx1 (B_X10_drawn_L24 N j50) N (0 : Int32) σ2)))))
set_option maxRecDepth 100000 in
set_option maxHeartbeats 4000000 in
theorem mc_X10_drawn {D : va_G} {al : Nat → Nat} {cA : Nat → ClassId} {ba : Nat} (N : Nat) (a0 : Int32) (a1 : Int32) (a2 : Int32) : MCx D al cA ba yX10_drawn cX10_drawn 9 (some .int) 6 142 rvI [.ref (al 103), .int a0, .int a1, .int a2] (F_X10_drawn N a0 a1 a2) := by
  refine MCx_of (by decide +kernel) (Nat.le_of_ble_eq_true rfl) ?_
  intro p l e s m args below meth c σ0 g hrt
  unfold F_X10_drawn
  refine x_lv (lv' := [(0, .ref (al 103)), (1, .int a0), (2, .int a1), (3, .int a2)]) [0, 1, 2, 3] rfl ?_
  refine x_iload_n (pc := 0) g rfl 2 rfl dX10_drawn_0 ?_
  refine x_iconst (pc := 1) (v := (1 : Int32)) g (by decide) dX10_drawn_1 ?_
  refine x_bipush (pc := 2) (v := (20 : Int32)) g (by decide) dX10_drawn_2 ?_
  refine x_callSI (pc := 4) (As := [.int a1, .int (1 : Int32), .int (20 : Int32)]) g (mc_X10_in a1 (1 : Int32) (20 : Int32)) cw_X10_in lk_X10_131 rfl ⟨Nat.le_of_ble_eq_true rfl, Nat.le_of_ble_eq_true rfl⟩ rfl (Nat.le_of_ble_eq_true rfl) dX10_drawn_4 (fun v1 σ1 => ?_)
  refine x_if_eq (pc := 7) (tgt := 19) g (by decide) dX10_drawn_7 ?_ ?_
  · refine x_iconst (pc := 19) (v := (-1 : Int32)) g (by decide) dX10_drawn_19 ?_
    exact x_ireturn (pc := 20) g hrt dX10_drawn_20
  · refine x_iload_n (pc := 10) g rfl 3 rfl dX10_drawn_10 ?_
    refine x_iconst (pc := 11) (v := (0 : Int32)) g (by decide) dX10_drawn_11 ?_
    refine x_iconst (pc := 12) (v := (1 : Int32)) g (by decide) dX10_drawn_12 ?_
    refine x_callSI (pc := 13) (As := [.int a2, .int (0 : Int32), .int (1 : Int32)]) g (mc_X10_in a2 (0 : Int32) (1 : Int32)) cw_X10_in lk_X10_131 rfl ⟨Nat.le_of_ble_eq_true rfl, Nat.le_of_ble_eq_true rfl⟩ rfl (Nat.le_of_ble_eq_true rfl) dX10_drawn_13 (fun v2 σ2 => ?_)
    refine x_if_ne (pc := 16) (tgt := 21) g (by decide) dX10_drawn_16 ?_ ?_
    · refine x_iconst (pc := 21) (v := (0 : Int32)) g (by decide) dX10_drawn_21 ?_
      refine x_istore (pc := 22) (lv' := [(4, .int (0 : Int32)), (0, .ref (al 103)), (1, .int a0), (2, .int a1), (3, .int a2)]) g (by decide) rfl dX10_drawn_22 ?_
      refine x_jn (fun (j50 : Sx → Option (Int32 × Sx)) => ∀ (σ3 : Sx), XTx p l e { frames := 6, cells := 0, slots := 0, locals := 142 } s m args below meth c D al cA ba 9 (MQx rvI D al cA ba below args s) 0 0 50 [(0, .ref (al 103)), (1, .int a0), (2, .int a1), (3, .int a2)] [] σ3 (j50 σ3)) (fun σ3 => ?_) (fun j50 hj50 => ?_)
      · refine x_iload_n (pc := 50) g rfl 1 rfl dX10_drawn_50 ?_
        refine x_istore (pc := 51) (lv' := [(4, .int a0), (0, .ref (al 103)), (1, .int a0), (2, .int a1), (3, .int a2)]) g (by decide) rfl dX10_drawn_51 ?_
        refine x_iconst (pc := 53) (v := (0 : Int32)) g (by decide) dX10_drawn_53 ?_
        refine x_istore (pc := 54) (lv' := [(5, .int (0 : Int32)), (4, .int a0), (0, .ref (al 103)), (1, .int a0), (2, .int a1), (3, .int a2)]) g (by decide) rfl dX10_drawn_54 ?_
        refine x_iconst (pc := 56) (v := (0 : Int32)) g (by decide) dX10_drawn_56 ?_
        refine x_istore (pc := 57) (lv' := [(6, .int (0 : Int32)), (5, .int (0 : Int32)), (4, .int a0), (0, .ref (al 103)), (1, .int a0), (2, .int a1), (3, .int a2)]) g (by decide) rfl dX10_drawn_57 ?_
        refine x_iconst (pc := 59) (v := (0 : Int32)) g (by decide) dX10_drawn_59 ?_
        refine x_istore (pc := 60) (lv' := [(7, .int (0 : Int32)), (6, .int (0 : Int32)), (5, .int (0 : Int32)), (4, .int a0), (0, .ref (al 103)), (1, .int a0), (2, .int a1), (3, .int a2)]) g (by decide) rfl dX10_drawn_60 ?_
        refine x_jn (fun (j142 : Int32 → Int32 → Sx → Option (Int32 × Sx)) => ∀ (x1 : Int32) (x2 : Int32) (σ4 : Sx), XTx p l e { frames := 6, cells := 0, slots := 0, locals := 142 } s m args below meth c D al cA ba 9 (MQx rvI D al cA ba below args s) 0 0 142 [(0, .ref (al 103)), (3, .int a2), (5, .int x1), (6, .int x2)] [] σ4 (j142 x1 x2 σ4)) (fun x1 x2 σ4 => ?_) (fun j142 hj142 => ?_)
        · refine x_iconst (pc := 142) (v := (0 : Int32)) g (by decide) dX10_drawn_142 ?_
          refine x_istore (pc := 143) (lv' := [(7, .int (0 : Int32)), (0, .ref (al 103)), (3, .int a2), (5, .int x1), (6, .int x2)]) g (by decide) rfl dX10_drawn_143 ?_
          refine x_jn (fun (j171 : Sx → Option (Int32 × Sx)) => ∀ (σ5 : Sx), XTx p l e { frames := 6, cells := 0, slots := 0, locals := 142 } s m args below meth c D al cA ba 9 (MQx rvI D al cA ba below args s) 0 0 171 [(3, .int a2), (5, .int x1), (6, .int x2)] [] σ5 (j171 σ5)) (fun σ5 => ?_) (fun j171 hj171 => ?_)
          · refine x_iload_n (pc := 171) g rfl 0 rfl dX10_drawn_171 ?_
            refine x_if_ne (pc := 172) (tgt := 180) g (by decide) dX10_drawn_172 ?_ ?_
            · refine x_iload (pc := 180) g 2 rfl dX10_drawn_180 ?_
              exact x_ireturn (pc := 182) g hrt dX10_drawn_182
            · refine x_iload (pc := 175) g 1 rfl dX10_drawn_175 ?_
              refine x_goto (pc := 177) (tgt := 182) g (by decide) dX10_drawn_177 ?_
              exact x_ireturn (pc := 182) g hrt dX10_drawn_182
          · refine x_lv [1, 2, 3, 4, 0] rfl ?_
            refine lpx1_ind (fun (x3 : Int32) (σ6 : Sx) (K : Option (Int32 × Sx)) => XTx p l e { frames := 6, cells := 0, slots := 0, locals := 142 } s m args below meth c D al cA ba 9 (MQx rvI D al cA ba below args s) 0 0 145 [(0, .ref (al 103)), (3, .int a2), (5, .int x1), (6, .int x2), (7, .int x3)] [] σ6 (K)) (fun _ _ => x_no) (fun r145 hr145 x3 σ6 => ?_) N (0 : Int32) σ4
            show XTx p l e { frames := 6, cells := 0, slots := 0, locals := 142 } s m args below meth c D al cA ba 9 (MQx rvI D al cA ba below args s) 0 0 145 [(0, .ref (al 103)), (3, .int a2), (5, .int x1), (6, .int x2), (7, .int x3)] [] σ6 (B_X10_drawn_L145 N j171 r145 x3 σ6)
            unfold B_X10_drawn_L145
            refine x_iload (pc := 145) g 4 rfl dX10_drawn_145 ?_
            refine x_iconst (pc := 147) (v := (5 : Int32)) g (by decide) dX10_drawn_147 ?_
            refine x_icmp_ge (pc := 148) (tgt := 171) g (by decide) dX10_drawn_148 ?_ ?_
            · refine x_lv [1, 2, 3] rfl ?_
              exact hj171 σ6
            · refine x_aload_n (pc := 151) g rfl 0 rfl dX10_drawn_151 ?_
              refine x_getR (pc := 152) g sh_103 fl_X10_7 rfl dX10_drawn_152 ?_
              refine x_iload (pc := 155) g 4 rfl dX10_drawn_155 ?_
              refine x_aload_n (pc := 157) g rfl 0 rfl dX10_drawn_157 ?_
              refine x_getR (pc := 158) g sh_103 fl_X10_97 rfl dX10_drawn_158 ?_
              refine x_iload (pc := 161) g 4 rfl dX10_drawn_161 ?_
              refine x_iald (pc := 163) g sh_130 (by decide) dX10_drawn_163 (fun v3 => ?_)
              refine x_iast (pc := 164) g sh_104 (by decide) dX10_drawn_164 (fun σ7 => ?_)
              refine x_iinc (pc := 165) (v := (x3 + (1 : Int32))) (lv' := [(7, .int (x3 + (1 : Int32))), (0, .ref (al 103)), (3, .int a2), (5, .int x1), (6, .int x2)]) g 4 rfl (by rfl) (by decide) rfl dX10_drawn_165 ?_
              refine x_goto (pc := 168) (tgt := 145) g (by decide) dX10_drawn_168 ?_
              refine x_lv [1, 2, 3, 4, 0] rfl ?_
              exact hr145 (x3 + (1 : Int32)) σ7
        · refine x_lv [4, 6, 7, 3, 2, 1, 0] rfl ?_
          refine lpx4_ind (fun (x4 : Int32) (x5 : Int32) (x6 : Int32) (x7 : Int32) (σ8 : Sx) (K : Option (Int32 × Sx)) => XTx p l e { frames := 6, cells := 0, slots := 0, locals := 142 } s m args below meth c D al cA ba 9 (MQx rvI D al cA ba below args s) 0 0 62 [(0, .ref (al 103)), (2, .int a1), (3, .int a2), (4, .int x4), (5, .int x5), (6, .int x6), (7, .int x7)] [] σ8 (K)) (fun _ _ _ _ _ => x_no) (fun r62 hr62 x4 x5 x6 x7 σ8 => ?_) N a0 (0 : Int32) (0 : Int32) (0 : Int32) σ3
          show XTx p l e { frames := 6, cells := 0, slots := 0, locals := 142 } s m args below meth c D al cA ba 9 (MQx rvI D al cA ba below args s) 0 0 62 [(0, .ref (al 103)), (2, .int a1), (3, .int a2), (4, .int x4), (5, .int x5), (6, .int x6), (7, .int x7)] [] σ8 (B_X10_drawn_L62 N a1 j142 r62 x4 x5 x6 x7 σ8)
          unfold B_X10_drawn_L62
          refine x_iload (pc := 62) g 6 rfl dX10_drawn_62 ?_
          refine x_iload_n (pc := 64) g rfl 1 rfl dX10_drawn_64 ?_
          refine x_icmp_ge (pc := 65) (tgt := 142) g (by decide) dX10_drawn_65 ?_ ?_
          · refine x_lv [0, 2, 4, 5] rfl ?_
            exact hj142 x5 x6 σ8
          · refine x_iconst (pc := 68) (v := (0 : Int32)) g (by decide) dX10_drawn_68 ?_
            refine x_istore (pc := 69) (lv' := [(8, .int (0 : Int32)), (0, .ref (al 103)), (2, .int a1), (3, .int a2), (4, .int x4), (5, .int x5), (6, .int x6), (7, .int x7)]) g (by decide) rfl dX10_drawn_69 ?_
            refine x_jn (fun (j113 : Int32 → Sx → Option (Int32 × Sx)) => ∀ (x8 : Int32) (σ9 : Sx), XTx p l e { frames := 6, cells := 0, slots := 0, locals := 142 } s m args below meth c D al cA ba 9 (MQx rvI D al cA ba below args s) 0 0 113 [(0, .ref (al 103)), (2, .int a1), (3, .int a2), (4, .int x8), (5, .int x5), (6, .int x6), (7, .int x7)] [] σ9 (j113 x8 σ9)) (fun x8 σ9 => ?_) (fun j113 hj113 => ?_)
            · refine x_aload_n (pc := 113) g rfl 0 rfl dX10_drawn_113 ?_
              refine x_callVU (pc := 114) (As := []) g sh_103 (mc_X10_findHeld N ) cw_X10_findHeld lk_X10_305 rfl ⟨Nat.le_of_ble_eq_true rfl, Nat.le_of_ble_eq_true rfl⟩ rfl (Nat.le_of_ble_eq_true rfl) dX10_drawn_114 (fun _ σ10 => ?_)
              refine x_iload (pc := 117) g 4 rfl dX10_drawn_117 ?_
              refine x_aload_n (pc := 119) g rfl 0 rfl dX10_drawn_119 ?_
              refine x_getI (pc := 120) g sh_103 fl_X10_299 rfl dX10_drawn_120 ?_
              refine x_iadd (pc := 123) g dX10_drawn_123 ?_
              refine x_nm (fun v4 => ?_)
              refine x_istore (pc := 124) (lv' := [(5, .int v4), (0, .ref (al 103)), (2, .int a1), (3, .int a2), (4, .int x8), (6, .int x6), (7, .int x7)]) g (by decide) rfl dX10_drawn_124 ?_
              refine x_aload_n (pc := 126) g rfl 1 rfl dX10_drawn_126 ?_
              refine x_getI (pc := 127) g sh_103 fl_X10_299 rfl dX10_drawn_127 ?_
              refine x_jn (fun (j136 : Int32 → Sx → Option (Int32 × Sx)) => ∀ (x9 : Int32) (σ11 : Sx), XTx p l e { frames := 6, cells := 0, slots := 0, locals := 142 } s m args below meth c D al cA ba 9 (MQx rvI D al cA ba below args s) 0 0 136 [(0, .ref (al 103)), (2, .int a1), (3, .int a2), (4, .int x8), (5, .int v4), (6, .int x9), (7, .int x7)] [] σ11 (j136 x9 σ11)) (fun x9 σ11 => ?_) (fun j136 hj136 => ?_)
              · refine x_iinc (pc := 136) (v := (x7 + (1 : Int32))) (lv' := [(7, .int (x7 + (1 : Int32))), (0, .ref (al 103)), (2, .int a1), (3, .int a2), (4, .int x8), (5, .int v4), (6, .int x9)]) g 6 rfl (by rfl) (by decide) rfl dX10_drawn_136 ?_
                refine x_goto (pc := 139) (tgt := 62) g (by decide) dX10_drawn_139 ?_
                refine x_lv [1, 2, 3, 4, 5, 6, 0] rfl ?_
                exact hr62 x8 v4 x9 (x7 + (1 : Int32)) σ11
              · refine x_if_ne (pc := 130) (tgt := 136) g (by decide) dX10_drawn_130 ?_ ?_
                · refine x_lv [1, 2, 3, 4, 0, 5, 6] rfl ?_
                  exact hj136 x6 σ10
                · refine x_iinc (pc := 133) (v := (x6 + (1 : Int32))) (lv' := [(6, .int (x6 + (1 : Int32))), (5, .int v4), (0, .ref (al 103)), (2, .int a1), (3, .int a2), (4, .int x8), (7, .int x7)]) g 5 rfl (by rfl) (by decide) rfl dX10_drawn_133 ?_
                  refine x_lv [2, 3, 4, 5, 1, 0, 6] rfl ?_
                  exact hj136 (x6 + (1 : Int32)) σ10
            · refine x_lv [1, 2, 3, 4, 5, 6, 7, 0] rfl ?_
              refine lpx2_ind (fun (x10 : Int32) (x11 : Int32) (σ12 : Sx) (K : Option (Int32 × Sx)) => XTx p l e { frames := 6, cells := 0, slots := 0, locals := 142 } s m args below meth c D al cA ba 9 (MQx rvI D al cA ba below args s) 0 0 71 [(0, .ref (al 103)), (2, .int a1), (3, .int a2), (4, .int x10), (5, .int x5), (6, .int x6), (7, .int x7), (8, .int x11)] [] σ12 (K)) (fun _ _ _ => x_no) (fun r71 hr71 x10 x11 σ12 => ?_) N x4 (0 : Int32) σ8
              show XTx p l e { frames := 6, cells := 0, slots := 0, locals := 142 } s m args below meth c D al cA ba 9 (MQx rvI D al cA ba below args s) 0 0 71 [(0, .ref (al 103)), (2, .int a1), (3, .int a2), (4, .int x10), (5, .int x5), (6, .int x6), (7, .int x7), (8, .int x11)] [] σ12 (B_X10_drawn_L71 N j113 r71 x10 x11 σ12)
              unfold B_X10_drawn_L71
              refine x_iload (pc := 71) g 7 rfl dX10_drawn_71 ?_
              refine x_aload_n (pc := 73) g rfl 0 rfl dX10_drawn_73 ?_
              refine x_getI (pc := 74) g sh_103 fl_X10_128 rfl dX10_drawn_74 ?_
              refine x_icmp_ge (pc := 77) (tgt := 113) g (by decide) dX10_drawn_77 ?_ ?_
              · refine x_lv [0, 1, 2, 3, 4, 5, 6] rfl ?_
                exact hj113 x10 σ12
              · refine x_iload (pc := 80) g 3 rfl dX10_drawn_80 ?_
                refine x_ldcw (pc := 82) (v := (1103515245 : Int32)) g ct_X10_351 dX10_drawn_82 ?_
                refine x_imul (pc := 85) g dX10_drawn_85 ?_
                refine x_sipush (pc := 86) (v := (12345 : Int32)) g (by decide) dX10_drawn_86 ?_
                refine x_iadd (pc := 89) g dX10_drawn_89 ?_
                refine x_nm (fun v5 => ?_)
                refine x_istore (pc := 90) (lv' := [(4, .int v5), (0, .ref (al 103)), (2, .int a1), (3, .int a2), (5, .int x5), (6, .int x6), (7, .int x7), (8, .int x11)]) g (by decide) rfl dX10_drawn_90 ?_
                refine x_aload_n (pc := 92) g rfl 1 rfl dX10_drawn_92 ?_
                refine x_getR (pc := 93) g sh_103 fl_X10_7 rfl dX10_drawn_93 ?_
                refine x_iload (pc := 96) g 7 rfl dX10_drawn_96 ?_
                refine x_iload (pc := 98) g 0 rfl dX10_drawn_98 ?_
                refine x_bipush (pc := 100) (v := (8 : Int32)) g (by decide) dX10_drawn_100 ?_
                refine x_iushr (pc := 102) g dX10_drawn_102 ?_
                refine x_bipush (pc := 103) (v := (61 : Int32)) g (by decide) dX10_drawn_103 ?_
                refine x_irem (pc := 105) g (by decide) dX10_drawn_105 ?_
                refine x_iast (pc := 106) g sh_104 (by decide) dX10_drawn_106 (fun σ13 => ?_)
                refine x_iinc (pc := 107) (v := (x11 + (1 : Int32))) (lv' := [(8, .int (x11 + (1 : Int32))), (4, .int v5), (0, .ref (al 103)), (2, .int a1), (3, .int a2), (5, .int x5), (6, .int x6), (7, .int x7)]) g 7 rfl (by rfl) (by decide) rfl dX10_drawn_107 ?_
                refine x_goto (pc := 110) (tgt := 71) g (by decide) dX10_drawn_110 ?_
                refine x_lv [2, 3, 4, 1, 5, 6, 7, 0] rfl ?_
                exact hr71 v5 (x11 + (1 : Int32)) σ13
      · refine x_lv [1, 2, 3, 4, 0] rfl ?_
        refine lpx1_ind (fun (x12 : Int32) (σ14 : Sx) (K : Option (Int32 × Sx)) => XTx p l e { frames := 6, cells := 0, slots := 0, locals := 142 } s m args below meth c D al cA ba 9 (MQx rvI D al cA ba below args s) 0 0 24 [(0, .ref (al 103)), (1, .int a0), (2, .int a1), (3, .int a2), (4, .int x12)] [] σ14 (K)) (fun _ _ => x_no) (fun r24 hr24 x12 σ14 => ?_) N (0 : Int32) σ2
        show XTx p l e { frames := 6, cells := 0, slots := 0, locals := 142 } s m args below meth c D al cA ba 9 (MQx rvI D al cA ba below args s) 0 0 24 [(0, .ref (al 103)), (1, .int a0), (2, .int a1), (3, .int a2), (4, .int x12)] [] σ14 (B_X10_drawn_L24 N j50 r24 x12 σ14)
        unfold B_X10_drawn_L24
        refine x_iload (pc := 24) g 4 rfl dX10_drawn_24 ?_
        refine x_iconst (pc := 26) (v := (5 : Int32)) g (by decide) dX10_drawn_26 ?_
        refine x_icmp_ge (pc := 27) (tgt := 50) g (by decide) dX10_drawn_27 ?_ ?_
        · refine x_lv [0, 1, 2, 3] rfl ?_
          exact hj50 σ14
        · refine x_aload_n (pc := 30) g rfl 0 rfl dX10_drawn_30 ?_
          refine x_getR (pc := 31) g sh_103 fl_X10_97 rfl dX10_drawn_31 ?_
          refine x_iload (pc := 34) g 4 rfl dX10_drawn_34 ?_
          refine x_aload_n (pc := 36) g rfl 0 rfl dX10_drawn_36 ?_
          refine x_getR (pc := 37) g sh_103 fl_X10_7 rfl dX10_drawn_37 ?_
          refine x_iload (pc := 40) g 4 rfl dX10_drawn_40 ?_
          refine x_iald (pc := 42) g sh_104 (by decide) dX10_drawn_42 (fun v6 => ?_)
          refine x_iast (pc := 43) g sh_130 (by decide) dX10_drawn_43 (fun σ15 => ?_)
          refine x_iinc (pc := 44) (v := (x12 + (1 : Int32))) (lv' := [(4, .int (x12 + (1 : Int32))), (0, .ref (al 103)), (1, .int a0), (2, .int a1), (3, .int a2)]) g 4 rfl (by rfl) (by decide) rfl dX10_drawn_44 ?_
          refine x_goto (pc := 47) (tgt := 24) g (by decide) dX10_drawn_47 ?_
          refine x_lv [1, 2, 3, 4, 0] rfl ?_
          exact hr24 (x12 + (1 : Int32)) σ15
    · refine x_iconst (pc := 19) (v := (-1 : Int32)) g (by decide) dX10_drawn_19 ?_
      exact x_ireturn (pc := 20) g hrt dX10_drawn_20
def F_X10_lived (N : Nat) (a0 : Int32) (σ0 : Sx) : Option (Unit × Sx) := clx (F_X10_findMet N a0 σ0) (fun _ σ1 => aIx 131 4 (0 : Int32) σ1 (fun v1 => sIx 131 4 (0 : Int32) (v1 + (1 : Int32)) σ1 (fun σ2 => aIx 131 4 (1 : Int32) σ2 (fun v2 => sIx 131 4 (1 : Int32) (v2 + (siI σ2 103 39)) σ2 (fun σ3 => sIx 131 4 (3 : Int32) a0 σ3 (fun σ4 => some ((), σ4)))))))
set_option maxRecDepth 100000 in
set_option maxHeartbeats 4000000 in
theorem mc_X10_lived {D : va_G} {al : Nat → Nat} {cA : Nat → ClassId} {ba : Nat} (N : Nat) (a0 : Int32) : MCx D al cA ba yX10_lived cX10_lived 2 none 2 51 rvU [.ref (al 103), .int a0] (F_X10_lived N a0) := by
  refine MCx_of (by decide +kernel) (Nat.le_of_ble_eq_true rfl) ?_
  intro p l e s m args below meth c σ0 g hrt
  unfold F_X10_lived
  refine x_lv (lv' := [(0, .ref (al 103)), (1, .int a0)]) [0, 1] rfl ?_
  refine x_aload_n (pc := 0) g rfl 0 rfl dX10_lived_0 ?_
  refine x_iload_n (pc := 1) g rfl 1 rfl dX10_lived_1 ?_
  refine x_callVU (pc := 2) (As := [.int a0]) g sh_103 (mc_X10_findMet N a0) cw_X10_findMet lk_X10_323 rfl ⟨Nat.le_of_ble_eq_true rfl, Nat.le_of_ble_eq_true rfl⟩ rfl (Nat.le_of_ble_eq_true rfl) dX10_lived_2 (fun _ σ1 => ?_)
  refine x_aload_n (pc := 5) g rfl 0 rfl dX10_lived_5 ?_
  refine x_getR (pc := 6) g sh_103 fl_X10_100 rfl dX10_lived_6 ?_
  refine x_iconst (pc := 9) (v := (0 : Int32)) g (by decide) dX10_lived_9 ?_
  refine x_dup2 (pc := 10) g rfl rfl dX10_lived_10 ?_
  refine x_iald (pc := 11) g sh_131 (by decide) dX10_lived_11 (fun v1 => ?_)
  refine x_iconst (pc := 12) (v := (1 : Int32)) g (by decide) dX10_lived_12 ?_
  refine x_iadd (pc := 13) g dX10_lived_13 ?_
  refine x_iast (pc := 14) g sh_131 (by decide) dX10_lived_14 (fun σ2 => ?_)
  refine x_aload_n (pc := 15) g rfl 0 rfl dX10_lived_15 ?_
  refine x_getR (pc := 16) g sh_103 fl_X10_100 rfl dX10_lived_16 ?_
  refine x_iconst (pc := 19) (v := (1 : Int32)) g (by decide) dX10_lived_19 ?_
  refine x_dup2 (pc := 20) g rfl rfl dX10_lived_20 ?_
  refine x_iald (pc := 21) g sh_131 (by decide) dX10_lived_21 (fun v2 => ?_)
  refine x_aload_n (pc := 22) g rfl 0 rfl dX10_lived_22 ?_
  refine x_getI (pc := 23) g sh_103 fl_X10_317 rfl dX10_lived_23 ?_
  refine x_iadd (pc := 26) g dX10_lived_26 ?_
  refine x_iast (pc := 27) g sh_131 (by decide) dX10_lived_27 (fun σ3 => ?_)
  refine x_aload_n (pc := 28) g rfl 0 rfl dX10_lived_28 ?_
  refine x_getR (pc := 29) g sh_103 fl_X10_100 rfl dX10_lived_29 ?_
  refine x_iconst (pc := 32) (v := (3 : Int32)) g (by decide) dX10_lived_32 ?_
  refine x_iload_n (pc := 33) g rfl 1 rfl dX10_lived_33 ?_
  refine x_iast (pc := 34) g sh_131 (by decide) dX10_lived_34 (fun σ4 => ?_)
  exact x_return (pc := 35) g hrt dX10_lived_35
def F_X10_live (N : Nat) (a0 : Int32) (σ0 : Sx) : Option (Int32 × Sx) := (if 0 ≤ a0 then clx (F_X10_findHeld N  σ0) (fun _ σ1 => (if a0 < (siI σ1 103 38) then aIx 126 1024 a0 σ1 (fun v1 => clx (F_X10_lived N v1 σ1) (fun _ σ2 => some ((siI σ2 103 39), σ2))) else some ((-2 : Int32), σ1))) else some ((-1 : Int32), σ0))
set_option maxRecDepth 100000 in
set_option maxHeartbeats 4000000 in
theorem mc_X10_live {D : va_G} {al : Nat → Nat} {cA : Nat → ClassId} {ba : Nat} (N : Nat) (a0 : Int32) : MCx D al cA ba yX10_live cX10_live 2 (some .int) 6 142 rvI [.ref (al 103), .int a0] (F_X10_live N a0) := by
  refine MCx_of (by decide +kernel) (Nat.le_of_ble_eq_true rfl) ?_
  intro p l e s m args below meth c σ0 g hrt
  unfold F_X10_live
  refine x_lv (lv' := [(0, .ref (al 103)), (1, .int a0)]) [0, 1] rfl ?_
  refine x_iload_n (pc := 0) g rfl 1 rfl dX10_live_0 ?_
  refine x_if_ge (pc := 1) (tgt := 6) g (by decide) dX10_live_1 ?_ ?_
  · refine x_aload_n (pc := 6) g rfl 0 rfl dX10_live_6 ?_
    refine x_callVU (pc := 7) (As := []) g sh_103 (mc_X10_findHeld N ) cw_X10_findHeld lk_X10_305 rfl ⟨Nat.le_of_ble_eq_true rfl, Nat.le_of_ble_eq_true rfl⟩ rfl (Nat.le_of_ble_eq_true rfl) dX10_live_7 (fun _ σ1 => ?_)
    refine x_iload_n (pc := 10) g rfl 1 rfl dX10_live_10 ?_
    refine x_aload_n (pc := 11) g rfl 0 rfl dX10_live_11 ?_
    refine x_getI (pc := 12) g sh_103 fl_X10_299 rfl dX10_live_12 ?_
    refine x_icmp_lt (pc := 15) (tgt := 21) g (by decide) dX10_live_15 ?_ ?_
    · refine x_aload_n (pc := 21) g rfl 0 rfl dX10_live_21 ?_
      refine x_aload_n (pc := 22) g rfl 0 rfl dX10_live_22 ?_
      refine x_getR (pc := 23) g sh_103 fl_X10_85 rfl dX10_live_23 ?_
      refine x_iload_n (pc := 26) g rfl 1 rfl dX10_live_26 ?_
      refine x_iald (pc := 27) g sh_126 (by decide) dX10_live_27 (fun v1 => ?_)
      refine x_callVU (pc := 28) (As := [.int v1]) g sh_103 (mc_X10_lived N v1) cw_X10_lived lk_X10_352 rfl ⟨Nat.le_of_ble_eq_true rfl, Nat.le_of_ble_eq_true rfl⟩ rfl (Nat.le_of_ble_eq_true rfl) dX10_live_28 (fun _ σ2 => ?_)
      refine x_aload_n (pc := 31) g rfl 0 rfl dX10_live_31 ?_
      refine x_getI (pc := 32) g sh_103 fl_X10_317 rfl dX10_live_32 ?_
      exact x_ireturn (pc := 35) g hrt dX10_live_35
    · refine x_bipush (pc := 18) (v := (-2 : Int32)) g (by decide) dX10_live_18 ?_
      exact x_ireturn (pc := 20) g hrt dX10_live_20
  · refine x_iconst (pc := 4) (v := (-1 : Int32)) g (by decide) dX10_live_4 ?_
    exact x_ireturn (pc := 5) g hrt dX10_live_5
def F_X10_step (N : Nat) (a0 : Int32) (a1 : Int32) (σ0 : Sx) : Option (Int32 × Sx) := clx (F_X10_isWay a0 a1 σ0) (fun v1 σ1 => (if v1 = 0 then some ((-1 : Int32), σ1) else aIx 131 4 (3 : Int32) σ1 (fun v2 => (if v2 < 0 then some ((-5 : Int32), σ1) else aIx 131 4 (3 : Int32) σ1 (fun v3 => clx (F_X10_isDay N v3 σ1) (fun v4 σ2 => (if v4 = 0 then some ((-5 : Int32), σ2) else clx (F_X10_findSights N  σ2) (fun _ σ3 => aIx 131 4 (3 : Int32) σ3 (fun v5 => clx (F_X10_takesOn N v5 a0 σ3) (fun v6 σ4 => aIx 131 4 (3 : Int32) σ4 (fun v7 => clx (F_X10_nextOf N v7 σ4) (fun v8 σ5 => nmx (((v8 &&& ((jshl (3 : Int32) ((2 : Int32) * a0)) ^^^ (-1 : Int32))) ||| (jshl a1 ((2 : Int32) * a0)))) (fun v9 => nmx (fun (y1 : Int32) (σ6 : Sx) => aIx 131 4 (2 : Int32) σ6 (fun v10 => sIx 131 4 (2 : Int32) (v10 + y1) σ6 (fun σ7 => clx (F_X10_lived N v9 σ7) (fun _ σ8 => some (y1, σ8))))) (fun (j93 : Int32 → Sx → Option (Int32 × Sx)) => (if v6 = a1 then j93 (0 : Int32) σ5 else aIx 106 5 a0 σ5 (fun v11 => j93 v11 σ5))))))))))))))))
set_option maxRecDepth 100000 in
set_option maxHeartbeats 4000000 in
theorem mc_X10_step {D : va_G} {al : Nat → Nat} {cA : Nat → ClassId} {ba : Nat} (N : Nat) (a0 : Int32) (a1 : Int32) : MCx D al cA ba yX10_step cX10_step 6 (some .int) 5 121 rvI [.ref (al 103), .int a0, .int a1] (F_X10_step N a0 a1) := by
  refine MCx_of (by decide +kernel) (Nat.le_of_ble_eq_true rfl) ?_
  intro p l e s m args below meth c σ0 g hrt
  unfold F_X10_step
  refine x_lv (lv' := [(0, .ref (al 103)), (1, .int a0), (2, .int a1)]) [0, 1, 2] rfl ?_
  refine x_aload_n (pc := 0) g rfl 0 rfl dX10_step_0 ?_
  refine x_iload_n (pc := 1) g rfl 1 rfl dX10_step_1 ?_
  refine x_iload_n (pc := 2) g rfl 2 rfl dX10_step_2 ?_
  refine x_callVI (pc := 3) (As := [.int a0, .int a1]) g sh_103 (mc_X10_isWay a0 a1) cw_X10_isWay lk_X10_186 rfl ⟨Nat.le_of_ble_eq_true rfl, Nat.le_of_ble_eq_true rfl⟩ rfl (Nat.le_of_ble_eq_true rfl) dX10_step_3 (fun v1 σ1 => ?_)
  refine x_if_ne (pc := 6) (tgt := 11) g (by decide) dX10_step_6 ?_ ?_
  · refine x_aload_n (pc := 11) g rfl 0 rfl dX10_step_11 ?_
    refine x_getR (pc := 12) g sh_103 fl_X10_100 rfl dX10_step_12 ?_
    refine x_iconst (pc := 15) (v := (3 : Int32)) g (by decide) dX10_step_15 ?_
    refine x_iald (pc := 16) g sh_131 (by decide) dX10_step_16 (fun v2 => ?_)
    refine x_if_lt (pc := 17) (tgt := 33) g (by decide) dX10_step_17 ?_ ?_
    · refine x_bipush (pc := 33) (v := (-5 : Int32)) g (by decide) dX10_step_33 ?_
      exact x_ireturn (pc := 35) g hrt dX10_step_35
    · refine x_aload_n (pc := 20) g rfl 0 rfl dX10_step_20 ?_
      refine x_aload_n (pc := 21) g rfl 0 rfl dX10_step_21 ?_
      refine x_getR (pc := 22) g sh_103 fl_X10_100 rfl dX10_step_22 ?_
      refine x_iconst (pc := 25) (v := (3 : Int32)) g (by decide) dX10_step_25 ?_
      refine x_iald (pc := 26) g sh_131 (by decide) dX10_step_26 (fun v3 => ?_)
      refine x_callVI (pc := 27) (As := [.int v3]) g sh_103 (mc_X10_isDay N v3) cw_X10_isDay lk_X10_290 rfl ⟨Nat.le_of_ble_eq_true rfl, Nat.le_of_ble_eq_true rfl⟩ rfl (Nat.le_of_ble_eq_true rfl) dX10_step_27 (fun v4 σ2 => ?_)
      refine x_if_ne (pc := 30) (tgt := 36) g (by decide) dX10_step_30 ?_ ?_
      · refine x_aload_n (pc := 36) g rfl 0 rfl dX10_step_36 ?_
        refine x_callVU (pc := 37) (As := []) g sh_103 (mc_X10_findSights N ) cw_X10_findSights lk_X10_296 rfl ⟨Nat.le_of_ble_eq_true rfl, Nat.le_of_ble_eq_true rfl⟩ rfl (Nat.le_of_ble_eq_true rfl) dX10_step_37 (fun _ σ3 => ?_)
        refine x_aload_n (pc := 40) g rfl 0 rfl dX10_step_40 ?_
        refine x_aload_n (pc := 41) g rfl 0 rfl dX10_step_41 ?_
        refine x_getR (pc := 42) g sh_103 fl_X10_100 rfl dX10_step_42 ?_
        refine x_iconst (pc := 45) (v := (3 : Int32)) g (by decide) dX10_step_45 ?_
        refine x_iald (pc := 46) g sh_131 (by decide) dX10_step_46 (fun v5 => ?_)
        refine x_iload_n (pc := 47) g rfl 1 rfl dX10_step_47 ?_
        refine x_callVI (pc := 48) (As := [.int v5, .int a0]) g sh_103 (mc_X10_takesOn N v5 a0) cw_X10_takesOn lk_X10_293 rfl ⟨Nat.le_of_ble_eq_true rfl, Nat.le_of_ble_eq_true rfl⟩ rfl (Nat.le_of_ble_eq_true rfl) dX10_step_48 (fun v6 σ4 => ?_)
        refine x_istore_n (pc := 51) (lv' := [(3, .int v6), (0, .ref (al 103)), (1, .int a0), (2, .int a1)]) g rfl (by decide) rfl dX10_step_51 ?_
        refine x_aload_n (pc := 52) g rfl 1 rfl dX10_step_52 ?_
        refine x_aload_n (pc := 53) g rfl 1 rfl dX10_step_53 ?_
        refine x_getR (pc := 54) g sh_103 fl_X10_100 rfl dX10_step_54 ?_
        refine x_iconst (pc := 57) (v := (3 : Int32)) g (by decide) dX10_step_57 ?_
        refine x_iald (pc := 58) g sh_131 (by decide) dX10_step_58 (fun v7 => ?_)
        refine x_callVI (pc := 59) (As := [.int v7]) g sh_103 (mc_X10_nextOf N v7) cw_X10_nextOf lk_X10_327 rfl ⟨Nat.le_of_ble_eq_true rfl, Nat.le_of_ble_eq_true rfl⟩ rfl (Nat.le_of_ble_eq_true rfl) dX10_step_59 (fun v8 σ5 => ?_)
        refine x_iconst (pc := 62) (v := (3 : Int32)) g (by decide) dX10_step_62 ?_
        refine x_iconst (pc := 63) (v := (2 : Int32)) g (by decide) dX10_step_63 ?_
        refine x_iload_n (pc := 64) g rfl 2 rfl dX10_step_64 ?_
        refine x_imul (pc := 65) g dX10_step_65 ?_
        refine x_ishl (pc := 66) g dX10_step_66 ?_
        refine x_iconst (pc := 67) (v := (-1 : Int32)) g (by decide) dX10_step_67 ?_
        refine x_ixor (pc := 68) g dX10_step_68 ?_
        refine x_iand (pc := 69) g dX10_step_69 ?_
        refine x_iload_n (pc := 70) g rfl 3 rfl dX10_step_70 ?_
        refine x_iconst (pc := 71) (v := (2 : Int32)) g (by decide) dX10_step_71 ?_
        refine x_iload_n (pc := 72) g rfl 2 rfl dX10_step_72 ?_
        refine x_imul (pc := 73) g dX10_step_73 ?_
        refine x_ishl (pc := 74) g dX10_step_74 ?_
        refine x_ior (pc := 75) g dX10_step_75 ?_
        refine x_nm (fun v9 => ?_)
        refine x_istore (pc := 76) (lv' := [(4, .int v9), (3, .int v6), (0, .ref (al 103)), (1, .int a0), (2, .int a1)]) g (by decide) rfl dX10_step_76 ?_
        refine x_iload_n (pc := 78) g rfl 1 rfl dX10_step_78 ?_
        refine x_iload_n (pc := 79) g rfl 4 rfl dX10_step_79 ?_
        refine x_jn (fun (j93 : Int32 → Sx → Option (Int32 × Sx)) => ∀ (y1 : Int32) (σ6 : Sx), XTx p l e { frames := 5, cells := 0, slots := 0, locals := 121 } s m args below meth c D al cA ba 6 (MQx rvI D al cA ba below args s) 0 0 93 [(0, .ref (al 103)), (4, .int v9)] [.int y1] σ6 (j93 y1 σ6)) (fun y1 σ6 => ?_) (fun j93 hj93 => ?_)
        · refine x_istore (pc := 93) (lv' := [(5, .int y1), (0, .ref (al 103)), (4, .int v9)]) g (by decide) rfl dX10_step_93 ?_
          refine x_aload_n (pc := 95) g rfl 1 rfl dX10_step_95 ?_
          refine x_getR (pc := 96) g sh_103 fl_X10_100 rfl dX10_step_96 ?_
          refine x_iconst (pc := 99) (v := (2 : Int32)) g (by decide) dX10_step_99 ?_
          refine x_dup2 (pc := 100) g rfl rfl dX10_step_100 ?_
          refine x_iald (pc := 101) g sh_131 (by decide) dX10_step_101 (fun v10 => ?_)
          refine x_iload (pc := 102) g 0 rfl dX10_step_102 ?_
          refine x_iadd (pc := 104) g dX10_step_104 ?_
          refine x_iast (pc := 105) g sh_131 (by decide) dX10_step_105 (fun σ7 => ?_)
          refine x_aload_n (pc := 106) g rfl 1 rfl dX10_step_106 ?_
          refine x_iload (pc := 107) g 2 rfl dX10_step_107 ?_
          refine x_callVU (pc := 109) (As := [.int v9]) g sh_103 (mc_X10_lived N v9) cw_X10_lived lk_X10_352 rfl ⟨Nat.le_of_ble_eq_true rfl, Nat.le_of_ble_eq_true rfl⟩ rfl (Nat.le_of_ble_eq_true rfl) dX10_step_109 (fun _ σ8 => ?_)
          refine x_iload (pc := 112) g 0 rfl dX10_step_112 ?_
          exact x_ireturn (pc := 114) g hrt dX10_step_114
        · refine x_icmp_ne (pc := 80) (tgt := 87) g (by decide) dX10_step_80 ?_ ?_
          · refine x_aload_n (pc := 87) g rfl 2 rfl dX10_step_87 ?_
            refine x_getR (pc := 88) g sh_103 fl_X10_16 rfl dX10_step_88 ?_
            refine x_iload_n (pc := 91) g rfl 3 rfl dX10_step_91 ?_
            refine x_iald (pc := 92) g sh_106 (by decide) dX10_step_92 (fun v11 => ?_)
            refine x_lv [2, 0] rfl ?_
            exact hj93 v11 σ5
          · refine x_iconst (pc := 83) (v := (0 : Int32)) g (by decide) dX10_step_83 ?_
            refine x_goto (pc := 84) (tgt := 93) g (by decide) dX10_step_84 ?_
            refine x_lv [2, 0] rfl ?_
            exact hj93 (0 : Int32) σ5
      · refine x_bipush (pc := 33) (v := (-5 : Int32)) g (by decide) dX10_step_33 ?_
        exact x_ireturn (pc := 35) g hrt dX10_step_35
  · refine x_iconst (pc := 9) (v := (-1 : Int32)) g (by decide) dX10_step_9 ?_
    exact x_ireturn (pc := 10) g hrt dX10_step_10
def F_X10_led (a0 : Int32) (σ0 : Sx) : Option (Int32 × Sx) := clx (F_X10_in a0 (0 : Int32) (3 : Int32) σ0) (fun v1 σ1 => (if v1 = 0 then some ((-1 : Int32), σ1) else aIx 131 4 a0 σ1 (fun v2 => some (v2, σ1))))
set_option maxRecDepth 100000 in
set_option maxHeartbeats 4000000 in
theorem mc_X10_led {D : va_G} {al : Nat → Nat} {cA : Nat → ClassId} {ba : Nat} (a0 : Int32) : MCx D al cA ba yX10_led cX10_led 2 (some .int) 1 22 rvI [.ref (al 103), .int a0] (F_X10_led a0) := by
  refine MCx_of (by decide +kernel) (Nat.le_of_ble_eq_true rfl) ?_
  intro p l e s m args below meth c σ0 g hrt
  unfold F_X10_led
  refine x_lv (lv' := [(0, .ref (al 103)), (1, .int a0)]) [0, 1] rfl ?_
  refine x_iload_n (pc := 0) g rfl 1 rfl dX10_led_0 ?_
  refine x_iconst (pc := 1) (v := (0 : Int32)) g (by decide) dX10_led_1 ?_
  refine x_iconst (pc := 2) (v := (3 : Int32)) g (by decide) dX10_led_2 ?_
  refine x_callSI (pc := 3) (As := [.int a0, .int (0 : Int32), .int (3 : Int32)]) g (mc_X10_in a0 (0 : Int32) (3 : Int32)) cw_X10_in lk_X10_131 rfl ⟨Nat.le_of_ble_eq_true rfl, Nat.le_of_ble_eq_true rfl⟩ rfl (Nat.le_of_ble_eq_true rfl) dX10_led_3 (fun v1 σ1 => ?_)
  refine x_if_eq (pc := 6) (tgt := 18) g (by decide) dX10_led_6 ?_ ?_
  · refine x_iconst (pc := 18) (v := (-1 : Int32)) g (by decide) dX10_led_18 ?_
    exact x_ireturn (pc := 19) g hrt dX10_led_19
  · refine x_aload_n (pc := 9) g rfl 0 rfl dX10_led_9 ?_
    refine x_getR (pc := 10) g sh_103 fl_X10_100 rfl dX10_led_10 ?_
    refine x_iload_n (pc := 13) g rfl 1 rfl dX10_led_13 ?_
    refine x_iald (pc := 14) g sh_131 (by decide) dX10_led_14 (fun v2 => ?_)
    refine x_goto (pc := 15) (tgt := 19) g (by decide) dX10_led_15 ?_
    exact x_ireturn (pc := 19) g hrt dX10_led_19
def B_X10_image_L7 (N : Nat) (j30 : Sx → Option (Int32 × Sx)) (r7 : Int32 → Sx → Option (Int32 × Sx)) (x1 : Int32) (σ3 : Sx) : Option (Int32 × Sx) := (if (4 : Int32) ≤ x1 then j30 σ3 else aIx 131 4 x1 σ3 (fun v2 => sIx 132 4 x1 v2 σ3 (fun σ4 => r7 (x1 + (1 : Int32)) σ4)))
def F_X10_image (N : Nat) (σ0 : Sx) : Option (Int32 × Sx) := pZx 103 48 (1 : Int32) σ0 (fun σ1 => nmx (fun (σ2 : Sx) => aIx 131 4 (0 : Int32) σ2 (fun v1 => some (v1, σ2))) (fun (j30 : Sx → Option (Int32 × Sx)) => lpx1 (B_X10_image_L7 N j30) N (0 : Int32) σ1))
set_option maxRecDepth 100000 in
set_option maxHeartbeats 4000000 in
theorem mc_X10_image {D : va_G} {al : Nat → Nat} {cA : Nat → ClassId} {ba : Nat} (N : Nat)  : MCx D al cA ba yX10_image cX10_image 2 (some .int) 0 0 rvI [.ref (al 103)] (F_X10_image N) := by
  refine MCx_of (by decide +kernel) (Nat.le_of_ble_eq_true rfl) ?_
  intro p l e s m args below meth c σ0 g hrt
  unfold F_X10_image
  refine x_lv (lv' := [(0, .ref (al 103))]) [0] rfl ?_
  refine x_aload_n (pc := 0) g rfl 0 rfl dX10_image_0 ?_
  refine x_iconst (pc := 1) (v := (1 : Int32)) g (by decide) dX10_image_1 ?_
  refine x_putZ (pc := 2) g sh_103 fl_X10_355 rfl dX10_image_2 (fun σ1 => ?_)
  refine x_iconst (pc := 5) (v := (0 : Int32)) g (by decide) dX10_image_5 ?_
  refine x_istore_n (pc := 6) (lv' := [(1, .int (0 : Int32)), (0, .ref (al 103))]) g rfl (by decide) rfl dX10_image_6 ?_
  refine x_jn (fun (j30 : Sx → Option (Int32 × Sx)) => ∀ (σ2 : Sx), XTx p l e { frames := 0, cells := 0, slots := 0, locals := 0 } s m args below meth c D al cA ba 2 (MQx rvI D al cA ba below args s) 0 0 30 [(0, .ref (al 103))] [] σ2 (j30 σ2)) (fun σ2 => ?_) (fun j30 hj30 => ?_)
  · refine x_aload_n (pc := 30) g rfl 0 rfl dX10_image_30 ?_
    refine x_getR (pc := 31) g sh_103 fl_X10_100 rfl dX10_image_31 ?_
    refine x_iconst (pc := 34) (v := (0 : Int32)) g (by decide) dX10_image_34 ?_
    refine x_iald (pc := 35) g sh_131 (by decide) dX10_image_35 (fun v1 => ?_)
    exact x_ireturn (pc := 36) g hrt dX10_image_36
  · refine x_lv [1, 0] rfl ?_
    refine lpx1_ind (fun (x1 : Int32) (σ3 : Sx) (K : Option (Int32 × Sx)) => XTx p l e { frames := 0, cells := 0, slots := 0, locals := 0 } s m args below meth c D al cA ba 2 (MQx rvI D al cA ba below args s) 0 0 7 [(0, .ref (al 103)), (1, .int x1)] [] σ3 (K)) (fun _ _ => x_no) (fun r7 hr7 x1 σ3 => ?_) N (0 : Int32) σ1
    show XTx p l e { frames := 0, cells := 0, slots := 0, locals := 0 } s m args below meth c D al cA ba 2 (MQx rvI D al cA ba below args s) 0 0 7 [(0, .ref (al 103)), (1, .int x1)] [] σ3 (B_X10_image_L7 N j30 r7 x1 σ3)
    unfold B_X10_image_L7
    refine x_iload_n (pc := 7) g rfl 1 rfl dX10_image_7 ?_
    refine x_iconst (pc := 8) (v := (4 : Int32)) g (by decide) dX10_image_8 ?_
    refine x_icmp_ge (pc := 9) (tgt := 30) g (by decide) dX10_image_9 ?_ ?_
    · refine x_lv [0] rfl ?_
      exact hj30 σ3
    · refine x_aload_n (pc := 12) g rfl 0 rfl dX10_image_12 ?_
      refine x_getR (pc := 13) g sh_103 fl_X10_103 rfl dX10_image_13 ?_
      refine x_iload_n (pc := 16) g rfl 1 rfl dX10_image_16 ?_
      refine x_aload_n (pc := 17) g rfl 0 rfl dX10_image_17 ?_
      refine x_getR (pc := 18) g sh_103 fl_X10_100 rfl dX10_image_18 ?_
      refine x_iload_n (pc := 21) g rfl 1 rfl dX10_image_21 ?_
      refine x_iald (pc := 22) g sh_131 (by decide) dX10_image_22 (fun v2 => ?_)
      refine x_iast (pc := 23) g sh_132 (by decide) dX10_image_23 (fun σ4 => ?_)
      refine x_iinc (pc := 24) (v := (x1 + (1 : Int32))) (lv' := [(1, .int (x1 + (1 : Int32))), (0, .ref (al 103))]) g 1 rfl (by rfl) (by decide) rfl dX10_image_24 ?_
      refine x_goto (pc := 27) (tgt := 7) g (by decide) dX10_image_27 ?_
      refine x_lv [1, 0] rfl ?_
      exact hr7 (x1 + (1 : Int32)) σ4
def B_X10_back_L12 (N : Nat) (j35 : Sx → Option (Int32 × Sx)) (r12 : Int32 → Sx → Option (Int32 × Sx)) (x1 : Int32) (σ2 : Sx) : Option (Int32 × Sx) := (if (4 : Int32) ≤ x1 then j35 σ2 else aIx 132 4 x1 σ2 (fun v2 => sIx 131 4 x1 v2 σ2 (fun σ3 => r12 (x1 + (1 : Int32)) σ3)))
def F_X10_back (N : Nat) (σ0 : Sx) : Option (Int32 × Sx) := (if (siI σ0 103 48) = 0 then some ((-5 : Int32), σ0) else nmx (fun (σ1 : Sx) => aIx 131 4 (0 : Int32) σ1 (fun v1 => some (v1, σ1))) (fun (j35 : Sx → Option (Int32 × Sx)) => lpx1 (B_X10_back_L12 N j35) N (0 : Int32) σ0))
set_option maxRecDepth 100000 in
set_option maxHeartbeats 4000000 in
theorem mc_X10_back {D : va_G} {al : Nat → Nat} {cA : Nat → ClassId} {ba : Nat} (N : Nat)  : MCx D al cA ba yX10_back cX10_back 2 (some .int) 0 0 rvI [.ref (al 103)] (F_X10_back N) := by
  refine MCx_of (by decide +kernel) (Nat.le_of_ble_eq_true rfl) ?_
  intro p l e s m args below meth c σ0 g hrt
  unfold F_X10_back
  refine x_lv (lv' := [(0, .ref (al 103))]) [0] rfl ?_
  refine x_aload_n (pc := 0) g rfl 0 rfl dX10_back_0 ?_
  refine x_getI (pc := 1) g sh_103 fl_X10_355 rfl dX10_back_1 ?_
  refine x_if_ne (pc := 4) (tgt := 10) g (by decide) dX10_back_4 ?_ ?_
  · refine x_iconst (pc := 10) (v := (0 : Int32)) g (by decide) dX10_back_10 ?_
    refine x_istore_n (pc := 11) (lv' := [(1, .int (0 : Int32)), (0, .ref (al 103))]) g rfl (by decide) rfl dX10_back_11 ?_
    refine x_jn (fun (j35 : Sx → Option (Int32 × Sx)) => ∀ (σ1 : Sx), XTx p l e { frames := 0, cells := 0, slots := 0, locals := 0 } s m args below meth c D al cA ba 2 (MQx rvI D al cA ba below args s) 0 0 35 [(0, .ref (al 103))] [] σ1 (j35 σ1)) (fun σ1 => ?_) (fun j35 hj35 => ?_)
    · refine x_aload_n (pc := 35) g rfl 0 rfl dX10_back_35 ?_
      refine x_getR (pc := 36) g sh_103 fl_X10_100 rfl dX10_back_36 ?_
      refine x_iconst (pc := 39) (v := (0 : Int32)) g (by decide) dX10_back_39 ?_
      refine x_iald (pc := 40) g sh_131 (by decide) dX10_back_40 (fun v1 => ?_)
      exact x_ireturn (pc := 41) g hrt dX10_back_41
    · refine x_lv [1, 0] rfl ?_
      refine lpx1_ind (fun (x1 : Int32) (σ2 : Sx) (K : Option (Int32 × Sx)) => XTx p l e { frames := 0, cells := 0, slots := 0, locals := 0 } s m args below meth c D al cA ba 2 (MQx rvI D al cA ba below args s) 0 0 12 [(0, .ref (al 103)), (1, .int x1)] [] σ2 (K)) (fun _ _ => x_no) (fun r12 hr12 x1 σ2 => ?_) N (0 : Int32) σ0
      show XTx p l e { frames := 0, cells := 0, slots := 0, locals := 0 } s m args below meth c D al cA ba 2 (MQx rvI D al cA ba below args s) 0 0 12 [(0, .ref (al 103)), (1, .int x1)] [] σ2 (B_X10_back_L12 N j35 r12 x1 σ2)
      unfold B_X10_back_L12
      refine x_iload_n (pc := 12) g rfl 1 rfl dX10_back_12 ?_
      refine x_iconst (pc := 13) (v := (4 : Int32)) g (by decide) dX10_back_13 ?_
      refine x_icmp_ge (pc := 14) (tgt := 35) g (by decide) dX10_back_14 ?_ ?_
      · refine x_lv [0] rfl ?_
        exact hj35 σ2
      · refine x_aload_n (pc := 17) g rfl 0 rfl dX10_back_17 ?_
        refine x_getR (pc := 18) g sh_103 fl_X10_100 rfl dX10_back_18 ?_
        refine x_iload_n (pc := 21) g rfl 1 rfl dX10_back_21 ?_
        refine x_aload_n (pc := 22) g rfl 0 rfl dX10_back_22 ?_
        refine x_getR (pc := 23) g sh_103 fl_X10_103 rfl dX10_back_23 ?_
        refine x_iload_n (pc := 26) g rfl 1 rfl dX10_back_26 ?_
        refine x_iald (pc := 27) g sh_132 (by decide) dX10_back_27 (fun v2 => ?_)
        refine x_iast (pc := 28) g sh_131 (by decide) dX10_back_28 (fun σ3 => ?_)
        refine x_iinc (pc := 29) (v := (x1 + (1 : Int32))) (lv' := [(1, .int (x1 + (1 : Int32))), (0, .ref (al 103))]) g 1 rfl (by rfl) (by decide) rfl dX10_back_29 ?_
        refine x_goto (pc := 32) (tgt := 12) g (by decide) dX10_back_32 ?_
        refine x_lv [1, 0] rfl ?_
        exact hr12 (x1 + (1 : Int32)) σ3
  · refine x_bipush (pc := 7) (v := (-5 : Int32)) g (by decide) dX10_back_7 ?_
    exact x_ireturn (pc := 9) g hrt dX10_back_9
def B_X10_allWays_L4 (N : Nat) (r4 : Int32 → Int32 → Sx → Option (Int32 × Sx)) (x1 : Int32) (x2 : Int32) (σ1 : Sx) : Option (Int32 × Sx) := (if (siI σ1 103 1) ≤ x2 then some (x1, σ1) else aIx 107 5 x2 σ1 (fun v1 => nmx ((x1 + v1)) (fun v2 => r4 v2 (x2 + (1 : Int32)) σ1)))
def F_X10_allWays (N : Nat) (σ0 : Sx) : Option (Int32 × Sx) := lpx2 (B_X10_allWays_L4 N) N (0 : Int32) (0 : Int32) σ0
set_option maxRecDepth 100000 in
set_option maxHeartbeats 4000000 in
theorem mc_X10_allWays {D : va_G} {al : Nat → Nat} {cA : Nat → ClassId} {ba : Nat} (N : Nat)  : MCx D al cA ba yX10_allWays cX10_allWays 3 (some .int) 0 0 rvI [.ref (al 103)] (F_X10_allWays N) := by
  refine MCx_of (by decide +kernel) (Nat.le_of_ble_eq_true rfl) ?_
  intro p l e s m args below meth c σ0 g hrt
  unfold F_X10_allWays
  refine x_lv (lv' := [(0, .ref (al 103))]) [0] rfl ?_
  refine x_iconst (pc := 0) (v := (0 : Int32)) g (by decide) dX10_allWays_0 ?_
  refine x_istore_n (pc := 1) (lv' := [(1, .int (0 : Int32)), (0, .ref (al 103))]) g rfl (by decide) rfl dX10_allWays_1 ?_
  refine x_iconst (pc := 2) (v := (0 : Int32)) g (by decide) dX10_allWays_2 ?_
  refine x_istore_n (pc := 3) (lv' := [(2, .int (0 : Int32)), (1, .int (0 : Int32)), (0, .ref (al 103))]) g rfl (by decide) rfl dX10_allWays_3 ?_
  refine x_lv [2, 1, 0] rfl ?_
  refine lpx2_ind (fun (x1 : Int32) (x2 : Int32) (σ1 : Sx) (K : Option (Int32 × Sx)) => XTx p l e { frames := 0, cells := 0, slots := 0, locals := 0 } s m args below meth c D al cA ba 3 (MQx rvI D al cA ba below args s) 0 0 4 [(0, .ref (al 103)), (1, .int x1), (2, .int x2)] [] σ1 (K)) (fun _ _ _ => x_no) (fun r4 hr4 x1 x2 σ1 => ?_) N (0 : Int32) (0 : Int32) σ0
  show XTx p l e { frames := 0, cells := 0, slots := 0, locals := 0 } s m args below meth c D al cA ba 3 (MQx rvI D al cA ba below args s) 0 0 4 [(0, .ref (al 103)), (1, .int x1), (2, .int x2)] [] σ1 (B_X10_allWays_L4 N r4 x1 x2 σ1)
  unfold B_X10_allWays_L4
  refine x_iload_n (pc := 4) g rfl 2 rfl dX10_allWays_4 ?_
  refine x_aload_n (pc := 5) g rfl 0 rfl dX10_allWays_5 ?_
  refine x_getI (pc := 6) g sh_103 fl_X10_128 rfl dX10_allWays_6 ?_
  refine x_icmp_ge (pc := 9) (tgt := 27) g (by decide) dX10_allWays_9 ?_ ?_
  · refine x_iload_n (pc := 27) g rfl 1 rfl dX10_allWays_27 ?_
    exact x_ireturn (pc := 28) g hrt dX10_allWays_28
  · refine x_iload_n (pc := 12) g rfl 1 rfl dX10_allWays_12 ?_
    refine x_aload_n (pc := 13) g rfl 0 rfl dX10_allWays_13 ?_
    refine x_getR (pc := 14) g sh_103 fl_X10_19 rfl dX10_allWays_14 ?_
    refine x_iload_n (pc := 17) g rfl 2 rfl dX10_allWays_17 ?_
    refine x_iald (pc := 18) g sh_107 (by decide) dX10_allWays_18 (fun v1 => ?_)
    refine x_iadd (pc := 19) g dX10_allWays_19 ?_
    refine x_nm (fun v2 => ?_)
    refine x_istore_n (pc := 20) (lv' := [(1, .int v2), (0, .ref (al 103)), (2, .int x2)]) g rfl (by decide) rfl dX10_allWays_20 ?_
    refine x_iinc (pc := 21) (v := (x2 + (1 : Int32))) (lv' := [(2, .int (x2 + (1 : Int32))), (1, .int v2), (0, .ref (al 103))]) g 2 rfl (by rfl) (by decide) rfl dX10_allWays_21 ?_
    refine x_goto (pc := 24) (tgt := 4) g (by decide) dX10_allWays_24 ?_
    refine x_lv [2, 1, 0] rfl ?_
    exact hr4 v2 (x2 + (1 : Int32)) σ1
def F_X10_isBody (a0 : Int32) (σ0 : Sx) : Option (Int32 × Sx) := clx (F_X10_in a0 (0 : Int32) ((siI σ0 103 49) - (1 : Int32)) σ0) (fun v1 σ1 => rZx v1 σ1)
set_option maxRecDepth 100000 in
set_option maxHeartbeats 4000000 in
theorem mc_X10_isBody {D : va_G} {al : Nat → Nat} {cA : Nat → ClassId} {ba : Nat} (a0 : Int32) : MCx D al cA ba yX10_isBody cX10_isBody 2 (some .boolean) 1 22 rvI [.ref (al 103), .int a0] (F_X10_isBody a0) := by
  refine MCx_of (by decide +kernel) (Nat.le_of_ble_eq_true rfl) ?_
  intro p l e s m args below meth c σ0 g hrt
  unfold F_X10_isBody
  refine x_lv (lv' := [(0, .ref (al 103)), (1, .int a0)]) [0, 1] rfl ?_
  refine x_iload_n (pc := 0) g rfl 1 rfl dX10_isBody_0 ?_
  refine x_iconst (pc := 1) (v := (0 : Int32)) g (by decide) dX10_isBody_1 ?_
  refine x_aload_n (pc := 2) g rfl 0 rfl dX10_isBody_2 ?_
  refine x_getI (pc := 3) g sh_103 fl_X10_358 rfl dX10_isBody_3 ?_
  refine x_iconst (pc := 6) (v := (1 : Int32)) g (by decide) dX10_isBody_6 ?_
  refine x_isub (pc := 7) g dX10_isBody_7 ?_
  refine x_callSI (pc := 8) (As := [.int a0, .int (0 : Int32), .int ((siI σ0 103 49) - (1 : Int32))]) g (mc_X10_in a0 (0 : Int32) ((siI σ0 103 49) - (1 : Int32))) cw_X10_in lk_X10_131 rfl ⟨Nat.le_of_ble_eq_true rfl, Nat.le_of_ble_eq_true rfl⟩ rfl (Nat.le_of_ble_eq_true rfl) dX10_isBody_8 (fun v1 σ1 => ?_)
  exact x_rZ (pc := 11) g hrt dX10_isBody_11
def F_X10_ran (a0 : Int32) (σ0 : Sx) : Option (Unit × Sx) := nmx (fun (σ1 : Sx) => pIx 103 51 ((siI σ1 103 51) + (1 : Int32)) σ1 (fun σ2 => some ((), σ2))) (fun (j19 : Sx → Option (Unit × Sx)) => (if (24 : Int32) ≤ (siI σ0 103 51) then j19 σ0 else sIx 134 24 (siI σ0 103 51) a0 σ0 (fun σ3 => j19 σ3)))
set_option maxRecDepth 100000 in
set_option maxHeartbeats 4000000 in
theorem mc_X10_ran {D : va_G} {al : Nat → Nat} {cA : Nat → ClassId} {ba : Nat} (a0 : Int32) : MCx D al cA ba yX10_ran cX10_ran 2 none 0 0 rvU [.ref (al 103), .int a0] (F_X10_ran a0) := by
  refine MCx_of (by decide +kernel) (Nat.le_of_ble_eq_true rfl) ?_
  intro p l e s m args below meth c σ0 g hrt
  unfold F_X10_ran
  refine x_lv (lv' := [(0, .ref (al 103)), (1, .int a0)]) [0, 1] rfl ?_
  refine x_aload_n (pc := 0) g rfl 0 rfl dX10_ran_0 ?_
  refine x_getI (pc := 1) g sh_103 fl_X10_361 rfl dX10_ran_1 ?_
  refine x_bipush (pc := 4) (v := (24 : Int32)) g (by decide) dX10_ran_4 ?_
  refine x_jn (fun (j19 : Sx → Option (Unit × Sx)) => ∀ (σ1 : Sx), XTx p l e { frames := 0, cells := 0, slots := 0, locals := 0 } s m args below meth c D al cA ba 2 (MQx rvU D al cA ba below args s) 0 0 19 [(0, .ref (al 103))] [] σ1 (j19 σ1)) (fun σ1 => ?_) (fun j19 hj19 => ?_)
  · refine x_aload_n (pc := 19) g rfl 0 rfl dX10_ran_19 ?_
    refine x_dup (pc := 20) g rfl dX10_ran_20 ?_
    refine x_getI (pc := 21) g sh_103 fl_X10_361 rfl dX10_ran_21 ?_
    refine x_iconst (pc := 24) (v := (1 : Int32)) g (by decide) dX10_ran_24 ?_
    refine x_iadd (pc := 25) g dX10_ran_25 ?_
    refine x_putI (pc := 26) g sh_103 fl_X10_361 rfl dX10_ran_26 (fun σ2 => ?_)
    exact x_return (pc := 29) g hrt dX10_ran_29
  · refine x_icmp_ge (pc := 6) (tgt := 19) g (by decide) dX10_ran_6 ?_ ?_
    · refine x_lv [0] rfl ?_
      exact hj19 σ0
    · refine x_aload_n (pc := 9) g rfl 0 rfl dX10_ran_9 ?_
      refine x_getR (pc := 10) g sh_103 fl_X10_109 rfl dX10_ran_10 ?_
      refine x_aload_n (pc := 13) g rfl 0 rfl dX10_ran_13 ?_
      refine x_getI (pc := 14) g sh_103 fl_X10_361 rfl dX10_ran_14 ?_
      refine x_iload_n (pc := 17) g rfl 1 rfl dX10_ran_17 ?_
      refine x_iast (pc := 18) g sh_134 (by decide) dX10_ran_18 (fun σ3 => ?_)
      refine x_lv [0] rfl ?_
      exact hj19 σ3
def F_X10_trace (a0 : Int32) (σ0 : Sx) : Option (Int32 × Sx) := (if a0 < 0 then some ((-1 : Int32), σ0) else (if (siI σ0 103 51) ≤ a0 then some ((-1 : Int32), σ0) else (if (24 : Int32) ≤ a0 then some ((-1 : Int32), σ0) else aIx 134 24 a0 σ0 (fun v1 => some (v1, σ0)))))
set_option maxRecDepth 100000 in
set_option maxHeartbeats 4000000 in
theorem mc_X10_trace {D : va_G} {al : Nat → Nat} {cA : Nat → ClassId} {ba : Nat} (a0 : Int32) : MCx D al cA ba yX10_trace cX10_trace 2 (some .int) 0 0 rvI [.ref (al 103), .int a0] (F_X10_trace a0) := by
  refine MCx_of (by decide +kernel) (Nat.le_of_ble_eq_true rfl) ?_
  intro p l e s m args below meth c σ0 g hrt
  unfold F_X10_trace
  refine x_lv (lv' := [(0, .ref (al 103)), (1, .int a0)]) [0, 1] rfl ?_
  refine x_iload_n (pc := 0) g rfl 1 rfl dX10_trace_0 ?_
  refine x_if_lt (pc := 1) (tgt := 27) g (by decide) dX10_trace_1 ?_ ?_
  · refine x_iconst (pc := 27) (v := (-1 : Int32)) g (by decide) dX10_trace_27 ?_
    exact x_ireturn (pc := 28) g hrt dX10_trace_28
  · refine x_iload_n (pc := 4) g rfl 1 rfl dX10_trace_4 ?_
    refine x_aload_n (pc := 5) g rfl 0 rfl dX10_trace_5 ?_
    refine x_getI (pc := 6) g sh_103 fl_X10_361 rfl dX10_trace_6 ?_
    refine x_icmp_ge (pc := 9) (tgt := 27) g (by decide) dX10_trace_9 ?_ ?_
    · refine x_iconst (pc := 27) (v := (-1 : Int32)) g (by decide) dX10_trace_27 ?_
      exact x_ireturn (pc := 28) g hrt dX10_trace_28
    · refine x_iload_n (pc := 12) g rfl 1 rfl dX10_trace_12 ?_
      refine x_bipush (pc := 13) (v := (24 : Int32)) g (by decide) dX10_trace_13 ?_
      refine x_icmp_ge (pc := 15) (tgt := 27) g (by decide) dX10_trace_15 ?_ ?_
      · refine x_iconst (pc := 27) (v := (-1 : Int32)) g (by decide) dX10_trace_27 ?_
        exact x_ireturn (pc := 28) g hrt dX10_trace_28
      · refine x_aload_n (pc := 18) g rfl 0 rfl dX10_trace_18 ?_
        refine x_getR (pc := 19) g sh_103 fl_X10_109 rfl dX10_trace_19 ?_
        refine x_iload_n (pc := 22) g rfl 1 rfl dX10_trace_22 ?_
        refine x_iald (pc := 23) g sh_134 (by decide) dX10_trace_23 (fun v1 => ?_)
        refine x_goto (pc := 24) (tgt := 28) g (by decide) dX10_trace_24 ?_
        exact x_ireturn (pc := 28) g hrt dX10_trace_28
def F_X10_body (a0 : Int32) (σ0 : Sx) : Option (Int32 × Sx) := clx (F_X10_in a0 (0 : Int32) (7 : Int32) σ0) (fun v1 σ1 => (if v1 = 0 then some ((-1 : Int32), σ1) else (if (siI σ1 103 49) = (50 : Int32) then some ((-3 : Int32), σ1) else sIx 133 50 (siI σ1 103 49) a0 σ1 (fun σ2 => pIx 103 49 ((siI σ2 103 49) + (1 : Int32)) σ2 (fun σ3 => some (((siI σ3 103 49) - (1 : Int32)), σ3))))))
set_option maxRecDepth 100000 in
set_option maxHeartbeats 4000000 in
theorem mc_X10_body {D : va_G} {al : Nat → Nat} {cA : Nat → ClassId} {ba : Nat} (a0 : Int32) : MCx D al cA ba yX10_body cX10_body 2 (some .int) 1 22 rvI [.ref (al 103), .int a0] (F_X10_body a0) := by
  refine MCx_of (by decide +kernel) (Nat.le_of_ble_eq_true rfl) ?_
  intro p l e s m args below meth c σ0 g hrt
  unfold F_X10_body
  refine x_lv (lv' := [(0, .ref (al 103)), (1, .int a0)]) [0, 1] rfl ?_
  refine x_iload_n (pc := 0) g rfl 1 rfl dX10_body_0 ?_
  refine x_iconst (pc := 1) (v := (0 : Int32)) g (by decide) dX10_body_1 ?_
  refine x_bipush (pc := 2) (v := (7 : Int32)) g (by decide) dX10_body_2 ?_
  refine x_callSI (pc := 4) (As := [.int a0, .int (0 : Int32), .int (7 : Int32)]) g (mc_X10_in a0 (0 : Int32) (7 : Int32)) cw_X10_in lk_X10_131 rfl ⟨Nat.le_of_ble_eq_true rfl, Nat.le_of_ble_eq_true rfl⟩ rfl (Nat.le_of_ble_eq_true rfl) dX10_body_4 (fun v1 σ1 => ?_)
  refine x_if_ne (pc := 7) (tgt := 12) g (by decide) dX10_body_7 ?_ ?_
  · refine x_aload_n (pc := 12) g rfl 0 rfl dX10_body_12 ?_
    refine x_getI (pc := 13) g sh_103 fl_X10_358 rfl dX10_body_13 ?_
    refine x_bipush (pc := 16) (v := (50 : Int32)) g (by decide) dX10_body_16 ?_
    refine x_icmp_ne (pc := 18) (tgt := 24) g (by decide) dX10_body_18 ?_ ?_
    · refine x_aload_n (pc := 24) g rfl 0 rfl dX10_body_24 ?_
      refine x_getR (pc := 25) g sh_103 fl_X10_106 rfl dX10_body_25 ?_
      refine x_aload_n (pc := 28) g rfl 0 rfl dX10_body_28 ?_
      refine x_getI (pc := 29) g sh_103 fl_X10_358 rfl dX10_body_29 ?_
      refine x_iload_n (pc := 32) g rfl 1 rfl dX10_body_32 ?_
      refine x_iast (pc := 33) g sh_133 (by decide) dX10_body_33 (fun σ2 => ?_)
      refine x_aload_n (pc := 34) g rfl 0 rfl dX10_body_34 ?_
      refine x_dup (pc := 35) g rfl dX10_body_35 ?_
      refine x_getI (pc := 36) g sh_103 fl_X10_358 rfl dX10_body_36 ?_
      refine x_iconst (pc := 39) (v := (1 : Int32)) g (by decide) dX10_body_39 ?_
      refine x_iadd (pc := 40) g dX10_body_40 ?_
      refine x_putI (pc := 41) g sh_103 fl_X10_358 rfl dX10_body_41 (fun σ3 => ?_)
      refine x_aload_n (pc := 44) g rfl 0 rfl dX10_body_44 ?_
      refine x_getI (pc := 45) g sh_103 fl_X10_358 rfl dX10_body_45 ?_
      refine x_iconst (pc := 48) (v := (1 : Int32)) g (by decide) dX10_body_48 ?_
      refine x_isub (pc := 49) g dX10_body_49 ?_
      exact x_ireturn (pc := 50) g hrt dX10_body_50
    · refine x_bipush (pc := 21) (v := (-3 : Int32)) g (by decide) dX10_body_21 ?_
      exact x_ireturn (pc := 23) g hrt dX10_body_23
  · refine x_iconst (pc := 10) (v := (-1 : Int32)) g (by decide) dX10_body_10 ?_
    exact x_ireturn (pc := 11) g hrt dX10_body_11
def F_X10_isUnder (a0 : Int32) (a1 : Int32) (σ0 : Sx) : Option (Int32 × Sx) := (if a1 = 0 then some ((1 : Int32), σ0) else (if a0 = a1 then some ((1 : Int32), σ0) else nmx (fun (σ1 : Sx) => nmx (fun (σ2 : Sx) => nmx (fun (σ3 : Sx) => (if a1 = (6 : Int32) then (if a0 = (7 : Int32) then some ((1 : Int32), σ3) else some ((0 : Int32), σ3)) else some ((0 : Int32), σ3))) (fun (j44 : Sx → Option (Int32 × Sx)) => (if a1 = (3 : Int32) then (if a0 = (5 : Int32) then some ((1 : Int32), σ2) else j44 σ2) else j44 σ2))) (fun (j34 : Sx → Option (Int32 × Sx)) => (if a1 = (2 : Int32) then (if a0 = (3 : Int32) then some ((1 : Int32), σ1) else (if a0 = (5 : Int32) then some ((1 : Int32), σ1) else j34 σ1)) else j34 σ1))) (fun (j19 : Sx → Option (Int32 × Sx)) => (if a1 = (1 : Int32) then (if a0 = (4 : Int32) then some ((1 : Int32), σ0) else j19 σ0) else j19 σ0))))
set_option maxRecDepth 100000 in
set_option maxHeartbeats 4000000 in
theorem mc_X10_isUnder {D : va_G} {al : Nat → Nat} {cA : Nat → ClassId} {ba : Nat} (a0 : Int32) (a1 : Int32) : MCx D al cA ba yX10_isUnder cX10_isUnder 2 (some .boolean) 0 0 rvI [.int a0, .int a1] (F_X10_isUnder a0 a1) := by
  refine MCx_of (by decide +kernel) (Nat.le_of_ble_eq_true rfl) ?_
  intro p l e s m args below meth c σ0 g hrt
  unfold F_X10_isUnder
  refine x_lv (lv' := [(0, .int a0), (1, .int a1)]) [0, 1] rfl ?_
  refine x_iload_n (pc := 0) g rfl 1 rfl dX10_isUnder_0 ?_
  refine x_if_eq (pc := 1) (tgt := 56) g (by decide) dX10_isUnder_1 ?_ ?_
  · refine x_iconst (pc := 56) (v := (1 : Int32)) g (by decide) dX10_isUnder_56 ?_
    refine x_goto (pc := 57) (tgt := 61) g (by decide) dX10_isUnder_57 ?_
    exact x_zreturn (pc := 61) g hrt (by decide) dX10_isUnder_61
  · refine x_iload_n (pc := 4) g rfl 0 rfl dX10_isUnder_4 ?_
    refine x_iload_n (pc := 5) g rfl 1 rfl dX10_isUnder_5 ?_
    refine x_icmp_eq (pc := 6) (tgt := 56) g (by decide) dX10_isUnder_6 ?_ ?_
    · refine x_iconst (pc := 56) (v := (1 : Int32)) g (by decide) dX10_isUnder_56 ?_
      refine x_goto (pc := 57) (tgt := 61) g (by decide) dX10_isUnder_57 ?_
      exact x_zreturn (pc := 61) g hrt (by decide) dX10_isUnder_61
    · refine x_iload_n (pc := 9) g rfl 1 rfl dX10_isUnder_9 ?_
      refine x_iconst (pc := 10) (v := (1 : Int32)) g (by decide) dX10_isUnder_10 ?_
      refine x_jn (fun (j19 : Sx → Option (Int32 × Sx)) => ∀ (σ1 : Sx), XTx p l e { frames := 0, cells := 0, slots := 0, locals := 0 } s m args below meth c D al cA ba 2 (MQx rvI D al cA ba below args s) 0 0 19 [(0, .int a0), (1, .int a1)] [] σ1 (j19 σ1)) (fun σ1 => ?_) (fun j19 hj19 => ?_)
      · refine x_iload_n (pc := 19) g rfl 1 rfl dX10_isUnder_19 ?_
        refine x_iconst (pc := 20) (v := (2 : Int32)) g (by decide) dX10_isUnder_20 ?_
        refine x_jn (fun (j34 : Sx → Option (Int32 × Sx)) => ∀ (σ2 : Sx), XTx p l e { frames := 0, cells := 0, slots := 0, locals := 0 } s m args below meth c D al cA ba 2 (MQx rvI D al cA ba below args s) 0 0 34 [(0, .int a0), (1, .int a1)] [] σ2 (j34 σ2)) (fun σ2 => ?_) (fun j34 hj34 => ?_)
        · refine x_iload_n (pc := 34) g rfl 1 rfl dX10_isUnder_34 ?_
          refine x_iconst (pc := 35) (v := (3 : Int32)) g (by decide) dX10_isUnder_35 ?_
          refine x_jn (fun (j44 : Sx → Option (Int32 × Sx)) => ∀ (σ3 : Sx), XTx p l e { frames := 0, cells := 0, slots := 0, locals := 0 } s m args below meth c D al cA ba 2 (MQx rvI D al cA ba below args s) 0 0 44 [(0, .int a0), (1, .int a1)] [] σ3 (j44 σ3)) (fun σ3 => ?_) (fun j44 hj44 => ?_)
          · refine x_iload_n (pc := 44) g rfl 1 rfl dX10_isUnder_44 ?_
            refine x_bipush (pc := 45) (v := (6 : Int32)) g (by decide) dX10_isUnder_45 ?_
            refine x_icmp_ne (pc := 47) (tgt := 60) g (by decide) dX10_isUnder_47 ?_ ?_
            · refine x_iconst (pc := 60) (v := (0 : Int32)) g (by decide) dX10_isUnder_60 ?_
              exact x_zreturn (pc := 61) g hrt (by decide) dX10_isUnder_61
            · refine x_iload_n (pc := 50) g rfl 0 rfl dX10_isUnder_50 ?_
              refine x_bipush (pc := 51) (v := (7 : Int32)) g (by decide) dX10_isUnder_51 ?_
              refine x_icmp_ne (pc := 53) (tgt := 60) g (by decide) dX10_isUnder_53 ?_ ?_
              · refine x_iconst (pc := 60) (v := (0 : Int32)) g (by decide) dX10_isUnder_60 ?_
                exact x_zreturn (pc := 61) g hrt (by decide) dX10_isUnder_61
              · refine x_iconst (pc := 56) (v := (1 : Int32)) g (by decide) dX10_isUnder_56 ?_
                refine x_goto (pc := 57) (tgt := 61) g (by decide) dX10_isUnder_57 ?_
                exact x_zreturn (pc := 61) g hrt (by decide) dX10_isUnder_61
          · refine x_icmp_ne (pc := 36) (tgt := 44) g (by decide) dX10_isUnder_36 ?_ ?_
            · exact hj44 σ2
            · refine x_iload_n (pc := 39) g rfl 0 rfl dX10_isUnder_39 ?_
              refine x_iconst (pc := 40) (v := (5 : Int32)) g (by decide) dX10_isUnder_40 ?_
              refine x_icmp_eq (pc := 41) (tgt := 56) g (by decide) dX10_isUnder_41 ?_ ?_
              · refine x_iconst (pc := 56) (v := (1 : Int32)) g (by decide) dX10_isUnder_56 ?_
                refine x_goto (pc := 57) (tgt := 61) g (by decide) dX10_isUnder_57 ?_
                exact x_zreturn (pc := 61) g hrt (by decide) dX10_isUnder_61
              · exact hj44 σ2
        · refine x_icmp_ne (pc := 21) (tgt := 34) g (by decide) dX10_isUnder_21 ?_ ?_
          · exact hj34 σ1
          · refine x_iload_n (pc := 24) g rfl 0 rfl dX10_isUnder_24 ?_
            refine x_iconst (pc := 25) (v := (3 : Int32)) g (by decide) dX10_isUnder_25 ?_
            refine x_icmp_eq (pc := 26) (tgt := 56) g (by decide) dX10_isUnder_26 ?_ ?_
            · refine x_iconst (pc := 56) (v := (1 : Int32)) g (by decide) dX10_isUnder_56 ?_
              refine x_goto (pc := 57) (tgt := 61) g (by decide) dX10_isUnder_57 ?_
              exact x_zreturn (pc := 61) g hrt (by decide) dX10_isUnder_61
            · refine x_iload_n (pc := 29) g rfl 0 rfl dX10_isUnder_29 ?_
              refine x_iconst (pc := 30) (v := (5 : Int32)) g (by decide) dX10_isUnder_30 ?_
              refine x_icmp_eq (pc := 31) (tgt := 56) g (by decide) dX10_isUnder_31 ?_ ?_
              · refine x_iconst (pc := 56) (v := (1 : Int32)) g (by decide) dX10_isUnder_56 ?_
                refine x_goto (pc := 57) (tgt := 61) g (by decide) dX10_isUnder_57 ?_
                exact x_zreturn (pc := 61) g hrt (by decide) dX10_isUnder_61
              · exact hj34 σ1
      · refine x_icmp_ne (pc := 11) (tgt := 19) g (by decide) dX10_isUnder_11 ?_ ?_
        · exact hj19 σ0
        · refine x_iload_n (pc := 14) g rfl 0 rfl dX10_isUnder_14 ?_
          refine x_iconst (pc := 15) (v := (4 : Int32)) g (by decide) dX10_isUnder_15 ?_
          refine x_icmp_eq (pc := 16) (tgt := 56) g (by decide) dX10_isUnder_16 ?_ ?_
          · refine x_iconst (pc := 56) (v := (1 : Int32)) g (by decide) dX10_isUnder_56 ?_
            refine x_goto (pc := 57) (tgt := 61) g (by decide) dX10_isUnder_57 ?_
            exact x_zreturn (pc := 61) g hrt (by decide) dX10_isUnder_61
          · exact hj19 σ0
def F_X10_plainLeads (a0 : Int32) (a1 : Int32) (σ0 : Sx) : Option (Int32 × Sx) := clx (F_X10_ran (1 : Int32) σ0) (fun _ σ1 => some ((a1 + a0), σ1))
set_option maxRecDepth 100000 in
set_option maxHeartbeats 4000000 in
theorem mc_X10_plainLeads {D : va_G} {al : Nat → Nat} {cA : Nat → ClassId} {ba : Nat} (a0 : Int32) (a1 : Int32) : MCx D al cA ba yX10_plainLeads cX10_plainLeads 3 (some .int) 1 21 rvI [.ref (al 103), .int a0, .int a1] (F_X10_plainLeads a0 a1) := by
  refine MCx_of (by decide +kernel) (Nat.le_of_ble_eq_true rfl) ?_
  intro p l e s m args below meth c σ0 g hrt
  unfold F_X10_plainLeads
  refine x_lv (lv' := [(0, .ref (al 103)), (1, .int a0), (2, .int a1)]) [0, 1, 2] rfl ?_
  refine x_aload_n (pc := 0) g rfl 0 rfl dX10_plainLeads_0 ?_
  refine x_iconst (pc := 1) (v := (1 : Int32)) g (by decide) dX10_plainLeads_1 ?_
  refine x_callVU (pc := 2) (As := [.int (1 : Int32)]) g sh_103 (mc_X10_ran (1 : Int32)) cw_X10_ran lk_X10_364 rfl ⟨Nat.le_of_ble_eq_true rfl, Nat.le_of_ble_eq_true rfl⟩ rfl (Nat.le_of_ble_eq_true rfl) dX10_plainLeads_2 (fun _ σ1 => ?_)
  refine x_iload_n (pc := 5) g rfl 2 rfl dX10_plainLeads_5 ?_
  refine x_iload_n (pc := 6) g rfl 1 rfl dX10_plainLeads_6 ?_
  refine x_iadd (pc := 7) g dX10_plainLeads_7 ?_
  exact x_ireturn (pc := 8) g hrt dX10_plainLeads_8
def F_X10_dancedLeads (a0 : Int32) (a1 : Int32) (σ0 : Sx) : Option (Int32 × Sx) := clx (F_X10_ran (70 : Int32) σ0) (fun _ σ1 => clx (F_X10_plainLeads a0 a1 σ1) (fun v1 σ2 => some ((v1 * (2 : Int32)), σ2)))
set_option maxRecDepth 100000 in
set_option maxHeartbeats 4000000 in
theorem mc_X10_dancedLeads {D : va_G} {al : Nat → Nat} {cA : Nat → ClassId} {ba : Nat} (a0 : Int32) (a1 : Int32) : MCx D al cA ba yX10_dancedLeads cX10_dancedLeads 3 (some .int) 2 43 rvI [.ref (al 103), .int a0, .int a1] (F_X10_dancedLeads a0 a1) := by
  refine MCx_of (by decide +kernel) (Nat.le_of_ble_eq_true rfl) ?_
  intro p l e s m args below meth c σ0 g hrt
  unfold F_X10_dancedLeads
  refine x_lv (lv' := [(0, .ref (al 103)), (1, .int a0), (2, .int a1)]) [0, 1, 2] rfl ?_
  refine x_aload_n (pc := 0) g rfl 0 rfl dX10_dancedLeads_0 ?_
  refine x_bipush (pc := 1) (v := (70 : Int32)) g (by decide) dX10_dancedLeads_1 ?_
  refine x_callVU (pc := 3) (As := [.int (70 : Int32)]) g sh_103 (mc_X10_ran (70 : Int32)) cw_X10_ran lk_X10_364 rfl ⟨Nat.le_of_ble_eq_true rfl, Nat.le_of_ble_eq_true rfl⟩ rfl (Nat.le_of_ble_eq_true rfl) dX10_dancedLeads_3 (fun _ σ1 => ?_)
  refine x_aload_n (pc := 6) g rfl 0 rfl dX10_dancedLeads_6 ?_
  refine x_iload_n (pc := 7) g rfl 1 rfl dX10_dancedLeads_7 ?_
  refine x_iload_n (pc := 8) g rfl 2 rfl dX10_dancedLeads_8 ?_
  refine x_callVI (pc := 9) (As := [.int a0, .int a1]) g sh_103 (mc_X10_plainLeads a0 a1) cw_X10_plainLeads lk_X10_367 rfl ⟨Nat.le_of_ble_eq_true rfl, Nat.le_of_ble_eq_true rfl⟩ rfl (Nat.le_of_ble_eq_true rfl) dX10_dancedLeads_9 (fun v1 σ2 => ?_)
  refine x_iconst (pc := 12) (v := (2 : Int32)) g (by decide) dX10_dancedLeads_12 ?_
  refine x_imul (pc := 13) g dX10_dancedLeads_13 ?_
  exact x_ireturn (pc := 14) g hrt dX10_dancedLeads_14
def F_X10_leading (a0 : Int32) (a1 : Int32) (σ0 : Sx) : Option (Int32 × Sx) := aIx 133 50 a0 σ0 (fun v1 => clx (F_X10_isUnder v1 (1 : Int32) σ0) (fun v2 σ1 => (if v2 = 0 then aIx 133 50 a0 σ1 (fun v3 => (if v3 = (7 : Int32) then clx (F_X10_ran (81 : Int32) σ1) (fun _ σ4 => clx (F_X10_dancedLeads a0 a1 σ4) (fun v7 σ5 => some ((v7 - (1 : Int32)), σ5))) else aIx 133 50 a0 σ1 (fun v4 => (if v4 = (6 : Int32) then clx (F_X10_dancedLeads a0 a1 σ1) (fun v6 σ3 => some (v6, σ3)) else clx (F_X10_plainLeads a0 a1 σ1) (fun v5 σ2 => some (v5, σ2)))))) else clx (F_X10_ran (20 : Int32) σ1) (fun _ σ6 => clx (F_X10_plainLeads a0 a1 σ6) (fun v8 σ7 => some ((v8 + (3 : Int32)), σ7))))))
set_option maxRecDepth 100000 in
set_option maxHeartbeats 4000000 in
theorem mc_X10_leading {D : va_G} {al : Nat → Nat} {cA : Nat → ClassId} {ba : Nat} (a0 : Int32) (a1 : Int32) : MCx D al cA ba yX10_leading cX10_leading 3 (some .int) 3 65 rvI [.ref (al 103), .int a0, .int a1] (F_X10_leading a0 a1) := by
  refine MCx_of (by decide +kernel) (Nat.le_of_ble_eq_true rfl) ?_
  intro p l e s m args below meth c σ0 g hrt
  unfold F_X10_leading
  refine x_lv (lv' := [(0, .ref (al 103)), (1, .int a0), (2, .int a1)]) [0, 1, 2] rfl ?_
  refine x_aload_n (pc := 0) g rfl 0 rfl dX10_leading_0 ?_
  refine x_getR (pc := 1) g sh_103 fl_X10_106 rfl dX10_leading_1 ?_
  refine x_iload_n (pc := 4) g rfl 1 rfl dX10_leading_4 ?_
  refine x_iald (pc := 5) g sh_133 (by decide) dX10_leading_5 (fun v1 => ?_)
  refine x_iconst (pc := 6) (v := (1 : Int32)) g (by decide) dX10_leading_6 ?_
  refine x_callSI (pc := 7) (As := [.int v1, .int (1 : Int32)]) g (mc_X10_isUnder v1 (1 : Int32)) cw_X10_isUnder lk_X10_370 rfl ⟨Nat.le_of_ble_eq_true rfl, Nat.le_of_ble_eq_true rfl⟩ rfl (Nat.le_of_ble_eq_true rfl) dX10_leading_7 (fun v2 σ1 => ?_)
  refine x_if_eq (pc := 10) (tgt := 28) g (by decide) dX10_leading_10 ?_ ?_
  · refine x_aload_n (pc := 28) g rfl 0 rfl dX10_leading_28 ?_
    refine x_getR (pc := 29) g sh_103 fl_X10_106 rfl dX10_leading_29 ?_
    refine x_iload_n (pc := 32) g rfl 1 rfl dX10_leading_32 ?_
    refine x_iald (pc := 33) g sh_133 (by decide) dX10_leading_33 (fun v3 => ?_)
    refine x_bipush (pc := 34) (v := (7 : Int32)) g (by decide) dX10_leading_34 ?_
    refine x_icmp_ne (pc := 36) (tgt := 54) g (by decide) dX10_leading_36 ?_ ?_
    · refine x_aload_n (pc := 54) g rfl 0 rfl dX10_leading_54 ?_
      refine x_getR (pc := 55) g sh_103 fl_X10_106 rfl dX10_leading_55 ?_
      refine x_iload_n (pc := 58) g rfl 1 rfl dX10_leading_58 ?_
      refine x_iald (pc := 59) g sh_133 (by decide) dX10_leading_59 (fun v4 => ?_)
      refine x_bipush (pc := 60) (v := (6 : Int32)) g (by decide) dX10_leading_60 ?_
      refine x_icmp_ne (pc := 62) (tgt := 74) g (by decide) dX10_leading_62 ?_ ?_
      · refine x_aload_n (pc := 74) g rfl 0 rfl dX10_leading_74 ?_
        refine x_iload_n (pc := 75) g rfl 1 rfl dX10_leading_75 ?_
        refine x_iload_n (pc := 76) g rfl 2 rfl dX10_leading_76 ?_
        refine x_callVI (pc := 77) (As := [.int a0, .int a1]) g sh_103 (mc_X10_plainLeads a0 a1) cw_X10_plainLeads lk_X10_367 rfl ⟨Nat.le_of_ble_eq_true rfl, Nat.le_of_ble_eq_true rfl⟩ rfl (Nat.le_of_ble_eq_true rfl) dX10_leading_77 (fun v5 σ2 => ?_)
        exact x_ireturn (pc := 80) g hrt dX10_leading_80
      · refine x_aload_n (pc := 65) g rfl 0 rfl dX10_leading_65 ?_
        refine x_iload_n (pc := 66) g rfl 1 rfl dX10_leading_66 ?_
        refine x_iload_n (pc := 67) g rfl 2 rfl dX10_leading_67 ?_
        refine x_callVI (pc := 68) (As := [.int a0, .int a1]) g sh_103 (mc_X10_dancedLeads a0 a1) cw_X10_dancedLeads lk_X10_373 rfl ⟨Nat.le_of_ble_eq_true rfl, Nat.le_of_ble_eq_true rfl⟩ rfl (Nat.le_of_ble_eq_true rfl) dX10_leading_68 (fun v6 σ3 => ?_)
        refine x_goto (pc := 71) (tgt := 80) g (by decide) dX10_leading_71 ?_
        exact x_ireturn (pc := 80) g hrt dX10_leading_80
    · refine x_aload_n (pc := 39) g rfl 0 rfl dX10_leading_39 ?_
      refine x_bipush (pc := 40) (v := (81 : Int32)) g (by decide) dX10_leading_40 ?_
      refine x_callVU (pc := 42) (As := [.int (81 : Int32)]) g sh_103 (mc_X10_ran (81 : Int32)) cw_X10_ran lk_X10_364 rfl ⟨Nat.le_of_ble_eq_true rfl, Nat.le_of_ble_eq_true rfl⟩ rfl (Nat.le_of_ble_eq_true rfl) dX10_leading_42 (fun _ σ4 => ?_)
      refine x_aload_n (pc := 45) g rfl 0 rfl dX10_leading_45 ?_
      refine x_iload_n (pc := 46) g rfl 1 rfl dX10_leading_46 ?_
      refine x_iload_n (pc := 47) g rfl 2 rfl dX10_leading_47 ?_
      refine x_callVI (pc := 48) (As := [.int a0, .int a1]) g sh_103 (mc_X10_dancedLeads a0 a1) cw_X10_dancedLeads lk_X10_373 rfl ⟨Nat.le_of_ble_eq_true rfl, Nat.le_of_ble_eq_true rfl⟩ rfl (Nat.le_of_ble_eq_true rfl) dX10_leading_48 (fun v7 σ5 => ?_)
      refine x_iconst (pc := 51) (v := (1 : Int32)) g (by decide) dX10_leading_51 ?_
      refine x_isub (pc := 52) g dX10_leading_52 ?_
      exact x_ireturn (pc := 53) g hrt dX10_leading_53
  · refine x_aload_n (pc := 13) g rfl 0 rfl dX10_leading_13 ?_
    refine x_bipush (pc := 14) (v := (20 : Int32)) g (by decide) dX10_leading_14 ?_
    refine x_callVU (pc := 16) (As := [.int (20 : Int32)]) g sh_103 (mc_X10_ran (20 : Int32)) cw_X10_ran lk_X10_364 rfl ⟨Nat.le_of_ble_eq_true rfl, Nat.le_of_ble_eq_true rfl⟩ rfl (Nat.le_of_ble_eq_true rfl) dX10_leading_16 (fun _ σ6 => ?_)
    refine x_aload_n (pc := 19) g rfl 0 rfl dX10_leading_19 ?_
    refine x_iload_n (pc := 20) g rfl 1 rfl dX10_leading_20 ?_
    refine x_iload_n (pc := 21) g rfl 2 rfl dX10_leading_21 ?_
    refine x_callVI (pc := 22) (As := [.int a0, .int a1]) g sh_103 (mc_X10_plainLeads a0 a1) cw_X10_plainLeads lk_X10_367 rfl ⟨Nat.le_of_ble_eq_true rfl, Nat.le_of_ble_eq_true rfl⟩ rfl (Nat.le_of_ble_eq_true rfl) dX10_leading_22 (fun v8 σ7 => ?_)
    refine x_iconst (pc := 25) (v := (3 : Int32)) g (by decide) dX10_leading_25 ?_
    refine x_iadd (pc := 26) g dX10_leading_26 ?_
    exact x_ireturn (pc := 27) g hrt dX10_leading_27
def F_X10_plainTreads (a0 : Int32) (a1 : Int32) (σ0 : Sx) : Option (Int32 × Sx) := clx (F_X10_ran (10 : Int32) σ0) (fun _ σ1 => clx (F_X10_leading a0 a1 σ1) (fun v1 σ2 => some ((v1 * (2 : Int32)), σ2)))
set_option maxRecDepth 100000 in
set_option maxHeartbeats 4000000 in
theorem mc_X10_plainTreads {D : va_G} {al : Nat → Nat} {cA : Nat → ClassId} {ba : Nat} (a0 : Int32) (a1 : Int32) : MCx D al cA ba yX10_plainTreads cX10_plainTreads 3 (some .int) 4 87 rvI [.ref (al 103), .int a0, .int a1] (F_X10_plainTreads a0 a1) := by
  refine MCx_of (by decide +kernel) (Nat.le_of_ble_eq_true rfl) ?_
  intro p l e s m args below meth c σ0 g hrt
  unfold F_X10_plainTreads
  refine x_lv (lv' := [(0, .ref (al 103)), (1, .int a0), (2, .int a1)]) [0, 1, 2] rfl ?_
  refine x_aload_n (pc := 0) g rfl 0 rfl dX10_plainTreads_0 ?_
  refine x_bipush (pc := 1) (v := (10 : Int32)) g (by decide) dX10_plainTreads_1 ?_
  refine x_callVU (pc := 3) (As := [.int (10 : Int32)]) g sh_103 (mc_X10_ran (10 : Int32)) cw_X10_ran lk_X10_364 rfl ⟨Nat.le_of_ble_eq_true rfl, Nat.le_of_ble_eq_true rfl⟩ rfl (Nat.le_of_ble_eq_true rfl) dX10_plainTreads_3 (fun _ σ1 => ?_)
  refine x_aload_n (pc := 6) g rfl 0 rfl dX10_plainTreads_6 ?_
  refine x_iload_n (pc := 7) g rfl 1 rfl dX10_plainTreads_7 ?_
  refine x_iload_n (pc := 8) g rfl 2 rfl dX10_plainTreads_8 ?_
  refine x_callVI (pc := 9) (As := [.int a0, .int a1]) g sh_103 (mc_X10_leading a0 a1) cw_X10_leading lk_X10_376 rfl ⟨Nat.le_of_ble_eq_true rfl, Nat.le_of_ble_eq_true rfl⟩ rfl (Nat.le_of_ble_eq_true rfl) dX10_plainTreads_9 (fun v1 σ2 => ?_)
  refine x_iconst (pc := 12) (v := (2 : Int32)) g (by decide) dX10_plainTreads_12 ?_
  refine x_imul (pc := 13) g dX10_plainTreads_13 ?_
  exact x_ireturn (pc := 14) g hrt dX10_plainTreads_14
def F_X10_farTreads (a0 : Int32) (a1 : Int32) (σ0 : Sx) : Option (Int32 × Sx) := clx (F_X10_ran (30 : Int32) σ0) (fun _ σ1 => clx (F_X10_plainTreads a0 a1 σ1) (fun v1 σ2 => some ((-v1), σ2)))
set_option maxRecDepth 100000 in
set_option maxHeartbeats 4000000 in
theorem mc_X10_farTreads {D : va_G} {al : Nat → Nat} {cA : Nat → ClassId} {ba : Nat} (a0 : Int32) (a1 : Int32) : MCx D al cA ba yX10_farTreads cX10_farTreads 3 (some .int) 5 109 rvI [.ref (al 103), .int a0, .int a1] (F_X10_farTreads a0 a1) := by
  refine MCx_of (by decide +kernel) (Nat.le_of_ble_eq_true rfl) ?_
  intro p l e s m args below meth c σ0 g hrt
  unfold F_X10_farTreads
  refine x_lv (lv' := [(0, .ref (al 103)), (1, .int a0), (2, .int a1)]) [0, 1, 2] rfl ?_
  refine x_aload_n (pc := 0) g rfl 0 rfl dX10_farTreads_0 ?_
  refine x_bipush (pc := 1) (v := (30 : Int32)) g (by decide) dX10_farTreads_1 ?_
  refine x_callVU (pc := 3) (As := [.int (30 : Int32)]) g sh_103 (mc_X10_ran (30 : Int32)) cw_X10_ran lk_X10_364 rfl ⟨Nat.le_of_ble_eq_true rfl, Nat.le_of_ble_eq_true rfl⟩ rfl (Nat.le_of_ble_eq_true rfl) dX10_farTreads_3 (fun _ σ1 => ?_)
  refine x_aload_n (pc := 6) g rfl 0 rfl dX10_farTreads_6 ?_
  refine x_iload_n (pc := 7) g rfl 1 rfl dX10_farTreads_7 ?_
  refine x_iload_n (pc := 8) g rfl 2 rfl dX10_farTreads_8 ?_
  refine x_callVI (pc := 9) (As := [.int a0, .int a1]) g sh_103 (mc_X10_plainTreads a0 a1) cw_X10_plainTreads lk_X10_379 rfl ⟨Nat.le_of_ble_eq_true rfl, Nat.le_of_ble_eq_true rfl⟩ rfl (Nat.le_of_ble_eq_true rfl) dX10_farTreads_9 (fun v1 σ2 => ?_)
  refine x_ineg (pc := 12) g dX10_farTreads_12 ?_
  exact x_ireturn (pc := 13) g hrt dX10_farTreads_13
def F_X10_plainReads (a0 : Int32) (a1 : Int32) (σ0 : Sx) : Option (Int32 × Sx) := clx (F_X10_ran (11 : Int32) σ0) (fun _ σ1 => some ((a1 ^^^ a0), σ1))
set_option maxRecDepth 100000 in
set_option maxHeartbeats 4000000 in
theorem mc_X10_plainReads {D : va_G} {al : Nat → Nat} {cA : Nat → ClassId} {ba : Nat} (a0 : Int32) (a1 : Int32) : MCx D al cA ba yX10_plainReads cX10_plainReads 3 (some .int) 1 21 rvI [.ref (al 103), .int a0, .int a1] (F_X10_plainReads a0 a1) := by
  refine MCx_of (by decide +kernel) (Nat.le_of_ble_eq_true rfl) ?_
  intro p l e s m args below meth c σ0 g hrt
  unfold F_X10_plainReads
  refine x_lv (lv' := [(0, .ref (al 103)), (1, .int a0), (2, .int a1)]) [0, 1, 2] rfl ?_
  refine x_aload_n (pc := 0) g rfl 0 rfl dX10_plainReads_0 ?_
  refine x_bipush (pc := 1) (v := (11 : Int32)) g (by decide) dX10_plainReads_1 ?_
  refine x_callVU (pc := 3) (As := [.int (11 : Int32)]) g sh_103 (mc_X10_ran (11 : Int32)) cw_X10_ran lk_X10_364 rfl ⟨Nat.le_of_ble_eq_true rfl, Nat.le_of_ble_eq_true rfl⟩ rfl (Nat.le_of_ble_eq_true rfl) dX10_plainReads_3 (fun _ σ1 => ?_)
  refine x_iload_n (pc := 6) g rfl 2 rfl dX10_plainReads_6 ?_
  refine x_iload_n (pc := 7) g rfl 1 rfl dX10_plainReads_7 ?_
  refine x_ixor (pc := 8) g dX10_plainReads_8 ?_
  exact x_ireturn (pc := 9) g hrt dX10_plainReads_9
def F_X10_besideReads (a0 : Int32) (a1 : Int32) (σ0 : Sx) : Option (Int32 × Sx) := clx (F_X10_ran (40 : Int32) σ0) (fun _ σ1 => clx (F_X10_plainReads a0 a1 σ1) (fun v1 σ2 => some ((v1 * (3 : Int32)), σ2)))
set_option maxRecDepth 100000 in
set_option maxHeartbeats 4000000 in
theorem mc_X10_besideReads {D : va_G} {al : Nat → Nat} {cA : Nat → ClassId} {ba : Nat} (a0 : Int32) (a1 : Int32) : MCx D al cA ba yX10_besideReads cX10_besideReads 3 (some .int) 2 43 rvI [.ref (al 103), .int a0, .int a1] (F_X10_besideReads a0 a1) := by
  refine MCx_of (by decide +kernel) (Nat.le_of_ble_eq_true rfl) ?_
  intro p l e s m args below meth c σ0 g hrt
  unfold F_X10_besideReads
  refine x_lv (lv' := [(0, .ref (al 103)), (1, .int a0), (2, .int a1)]) [0, 1, 2] rfl ?_
  refine x_aload_n (pc := 0) g rfl 0 rfl dX10_besideReads_0 ?_
  refine x_bipush (pc := 1) (v := (40 : Int32)) g (by decide) dX10_besideReads_1 ?_
  refine x_callVU (pc := 3) (As := [.int (40 : Int32)]) g sh_103 (mc_X10_ran (40 : Int32)) cw_X10_ran lk_X10_364 rfl ⟨Nat.le_of_ble_eq_true rfl, Nat.le_of_ble_eq_true rfl⟩ rfl (Nat.le_of_ble_eq_true rfl) dX10_besideReads_3 (fun _ σ1 => ?_)
  refine x_aload_n (pc := 6) g rfl 0 rfl dX10_besideReads_6 ?_
  refine x_iload_n (pc := 7) g rfl 1 rfl dX10_besideReads_7 ?_
  refine x_iload_n (pc := 8) g rfl 2 rfl dX10_besideReads_8 ?_
  refine x_callVI (pc := 9) (As := [.int a0, .int a1]) g sh_103 (mc_X10_plainReads a0 a1) cw_X10_plainReads lk_X10_388 rfl ⟨Nat.le_of_ble_eq_true rfl, Nat.le_of_ble_eq_true rfl⟩ rfl (Nat.le_of_ble_eq_true rfl) dX10_besideReads_9 (fun v1 σ2 => ?_)
  refine x_iconst (pc := 12) (v := (3 : Int32)) g (by decide) dX10_besideReads_12 ?_
  refine x_imul (pc := 13) g dX10_besideReads_13 ?_
  exact x_ireturn (pc := 14) g hrt dX10_besideReads_14
def F_X10_reading (a0 : Int32) (a1 : Int32) (σ0 : Sx) : Option (Int32 × Sx) := aIx 133 50 a0 σ0 (fun v1 => (if v1 = (5 : Int32) then clx (F_X10_ran (60 : Int32) σ0) (fun _ σ3 => clx (F_X10_besideReads a0 a1 σ3) (fun v5 σ4 => clx (F_X10_leading a0 (2 : Int32) σ4) (fun v6 σ5 => some ((v5 - v6), σ5)))) else aIx 133 50 a0 σ0 (fun v2 => (if v2 = (3 : Int32) then clx (F_X10_besideReads a0 a1 σ0) (fun v4 σ2 => some (v4, σ2)) else clx (F_X10_plainReads a0 a1 σ0) (fun v3 σ1 => some (v3, σ1))))))
set_option maxRecDepth 100000 in
set_option maxHeartbeats 4000000 in
theorem mc_X10_reading {D : va_G} {al : Nat → Nat} {cA : Nat → ClassId} {ba : Nat} (a0 : Int32) (a1 : Int32) : MCx D al cA ba yX10_reading cX10_reading 4 (some .int) 4 87 rvI [.ref (al 103), .int a0, .int a1] (F_X10_reading a0 a1) := by
  refine MCx_of (by decide +kernel) (Nat.le_of_ble_eq_true rfl) ?_
  intro p l e s m args below meth c σ0 g hrt
  unfold F_X10_reading
  refine x_lv (lv' := [(0, .ref (al 103)), (1, .int a0), (2, .int a1)]) [0, 1, 2] rfl ?_
  refine x_aload_n (pc := 0) g rfl 0 rfl dX10_reading_0 ?_
  refine x_getR (pc := 1) g sh_103 fl_X10_106 rfl dX10_reading_1 ?_
  refine x_iload_n (pc := 4) g rfl 1 rfl dX10_reading_4 ?_
  refine x_iald (pc := 5) g sh_133 (by decide) dX10_reading_5 (fun v1 => ?_)
  refine x_iconst (pc := 6) (v := (5 : Int32)) g (by decide) dX10_reading_6 ?_
  refine x_icmp_ne (pc := 7) (tgt := 32) g (by decide) dX10_reading_7 ?_ ?_
  · refine x_aload_n (pc := 32) g rfl 0 rfl dX10_reading_32 ?_
    refine x_getR (pc := 33) g sh_103 fl_X10_106 rfl dX10_reading_33 ?_
    refine x_iload_n (pc := 36) g rfl 1 rfl dX10_reading_36 ?_
    refine x_iald (pc := 37) g sh_133 (by decide) dX10_reading_37 (fun v2 => ?_)
    refine x_iconst (pc := 38) (v := (3 : Int32)) g (by decide) dX10_reading_38 ?_
    refine x_icmp_ne (pc := 39) (tgt := 51) g (by decide) dX10_reading_39 ?_ ?_
    · refine x_aload_n (pc := 51) g rfl 0 rfl dX10_reading_51 ?_
      refine x_iload_n (pc := 52) g rfl 1 rfl dX10_reading_52 ?_
      refine x_iload_n (pc := 53) g rfl 2 rfl dX10_reading_53 ?_
      refine x_callVI (pc := 54) (As := [.int a0, .int a1]) g sh_103 (mc_X10_plainReads a0 a1) cw_X10_plainReads lk_X10_388 rfl ⟨Nat.le_of_ble_eq_true rfl, Nat.le_of_ble_eq_true rfl⟩ rfl (Nat.le_of_ble_eq_true rfl) dX10_reading_54 (fun v3 σ1 => ?_)
      exact x_ireturn (pc := 57) g hrt dX10_reading_57
    · refine x_aload_n (pc := 42) g rfl 0 rfl dX10_reading_42 ?_
      refine x_iload_n (pc := 43) g rfl 1 rfl dX10_reading_43 ?_
      refine x_iload_n (pc := 44) g rfl 2 rfl dX10_reading_44 ?_
      refine x_callVI (pc := 45) (As := [.int a0, .int a1]) g sh_103 (mc_X10_besideReads a0 a1) cw_X10_besideReads lk_X10_391 rfl ⟨Nat.le_of_ble_eq_true rfl, Nat.le_of_ble_eq_true rfl⟩ rfl (Nat.le_of_ble_eq_true rfl) dX10_reading_45 (fun v4 σ2 => ?_)
      refine x_goto (pc := 48) (tgt := 57) g (by decide) dX10_reading_48 ?_
      exact x_ireturn (pc := 57) g hrt dX10_reading_57
  · refine x_aload_n (pc := 10) g rfl 0 rfl dX10_reading_10 ?_
    refine x_bipush (pc := 11) (v := (60 : Int32)) g (by decide) dX10_reading_11 ?_
    refine x_callVU (pc := 13) (As := [.int (60 : Int32)]) g sh_103 (mc_X10_ran (60 : Int32)) cw_X10_ran lk_X10_364 rfl ⟨Nat.le_of_ble_eq_true rfl, Nat.le_of_ble_eq_true rfl⟩ rfl (Nat.le_of_ble_eq_true rfl) dX10_reading_13 (fun _ σ3 => ?_)
    refine x_aload_n (pc := 16) g rfl 0 rfl dX10_reading_16 ?_
    refine x_iload_n (pc := 17) g rfl 1 rfl dX10_reading_17 ?_
    refine x_iload_n (pc := 18) g rfl 2 rfl dX10_reading_18 ?_
    refine x_callVI (pc := 19) (As := [.int a0, .int a1]) g sh_103 (mc_X10_besideReads a0 a1) cw_X10_besideReads lk_X10_391 rfl ⟨Nat.le_of_ble_eq_true rfl, Nat.le_of_ble_eq_true rfl⟩ rfl (Nat.le_of_ble_eq_true rfl) dX10_reading_19 (fun v5 σ4 => ?_)
    refine x_istore_n (pc := 22) (lv' := [(3, .int v5), (0, .ref (al 103)), (1, .int a0), (2, .int a1)]) g rfl (by decide) rfl dX10_reading_22 ?_
    refine x_iload_n (pc := 23) g rfl 0 rfl dX10_reading_23 ?_
    refine x_aload_n (pc := 24) g rfl 1 rfl dX10_reading_24 ?_
    refine x_iload_n (pc := 25) g rfl 2 rfl dX10_reading_25 ?_
    refine x_iconst (pc := 26) (v := (2 : Int32)) g (by decide) dX10_reading_26 ?_
    refine x_callVI (pc := 27) (As := [.int a0, .int (2 : Int32)]) g sh_103 (mc_X10_leading a0 (2 : Int32)) cw_X10_leading lk_X10_376 rfl ⟨Nat.le_of_ble_eq_true rfl, Nat.le_of_ble_eq_true rfl⟩ rfl (Nat.le_of_ble_eq_true rfl) dX10_reading_27 (fun v6 σ5 => ?_)
    refine x_isub (pc := 30) g dX10_reading_30 ?_
    exact x_ireturn (pc := 31) g hrt dX10_reading_31
def F_X10_treading (a0 : Int32) (a1 : Int32) (σ0 : Sx) : Option (Int32 × Sx) := aIx 133 50 a0 σ0 (fun v1 => clx (F_X10_isUnder v1 (3 : Int32) σ0) (fun v2 σ1 => (if v2 = 0 then aIx 133 50 a0 σ1 (fun v3 => (if v3 = (7 : Int32) then clx (F_X10_ran (80 : Int32) σ1) (fun _ σ4 => clx (F_X10_plainTreads a0 a1 σ4) (fun v7 σ5 => clx (F_X10_reading a0 (2 : Int32) σ5) (fun v8 σ6 => some ((v7 + v8), σ6)))) else aIx 133 50 a0 σ1 (fun v4 => (if v4 = (2 : Int32) then clx (F_X10_farTreads a0 a1 σ1) (fun v6 σ3 => some (v6, σ3)) else clx (F_X10_plainTreads a0 a1 σ1) (fun v5 σ2 => some (v5, σ2)))))) else clx (F_X10_ran (41 : Int32) σ1) (fun _ σ7 => clx (F_X10_farTreads a0 (a1 + (1 : Int32)) σ7) (fun v9 σ8 => some (v9, σ8))))))
set_option maxRecDepth 100000 in
set_option maxHeartbeats 4000000 in
theorem mc_X10_treading {D : va_G} {al : Nat → Nat} {cA : Nat → ClassId} {ba : Nat} (a0 : Int32) (a1 : Int32) : MCx D al cA ba yX10_treading cX10_treading 4 (some .int) 6 131 rvI [.ref (al 103), .int a0, .int a1] (F_X10_treading a0 a1) := by
  refine MCx_of (by decide +kernel) (Nat.le_of_ble_eq_true rfl) ?_
  intro p l e s m args below meth c σ0 g hrt
  unfold F_X10_treading
  refine x_lv (lv' := [(0, .ref (al 103)), (1, .int a0), (2, .int a1)]) [0, 1, 2] rfl ?_
  refine x_aload_n (pc := 0) g rfl 0 rfl dX10_treading_0 ?_
  refine x_getR (pc := 1) g sh_103 fl_X10_106 rfl dX10_treading_1 ?_
  refine x_iload_n (pc := 4) g rfl 1 rfl dX10_treading_4 ?_
  refine x_iald (pc := 5) g sh_133 (by decide) dX10_treading_5 (fun v1 => ?_)
  refine x_iconst (pc := 6) (v := (3 : Int32)) g (by decide) dX10_treading_6 ?_
  refine x_callSI (pc := 7) (As := [.int v1, .int (3 : Int32)]) g (mc_X10_isUnder v1 (3 : Int32)) cw_X10_isUnder lk_X10_370 rfl ⟨Nat.le_of_ble_eq_true rfl, Nat.le_of_ble_eq_true rfl⟩ rfl (Nat.le_of_ble_eq_true rfl) dX10_treading_7 (fun v2 σ1 => ?_)
  refine x_if_eq (pc := 10) (tgt := 28) g (by decide) dX10_treading_10 ?_ ?_
  · refine x_aload_n (pc := 28) g rfl 0 rfl dX10_treading_28 ?_
    refine x_getR (pc := 29) g sh_103 fl_X10_106 rfl dX10_treading_29 ?_
    refine x_iload_n (pc := 32) g rfl 1 rfl dX10_treading_32 ?_
    refine x_iald (pc := 33) g sh_133 (by decide) dX10_treading_33 (fun v3 => ?_)
    refine x_bipush (pc := 34) (v := (7 : Int32)) g (by decide) dX10_treading_34 ?_
    refine x_icmp_ne (pc := 36) (tgt := 61) g (by decide) dX10_treading_36 ?_ ?_
    · refine x_aload_n (pc := 61) g rfl 0 rfl dX10_treading_61 ?_
      refine x_getR (pc := 62) g sh_103 fl_X10_106 rfl dX10_treading_62 ?_
      refine x_iload_n (pc := 65) g rfl 1 rfl dX10_treading_65 ?_
      refine x_iald (pc := 66) g sh_133 (by decide) dX10_treading_66 (fun v4 => ?_)
      refine x_iconst (pc := 67) (v := (2 : Int32)) g (by decide) dX10_treading_67 ?_
      refine x_icmp_ne (pc := 68) (tgt := 80) g (by decide) dX10_treading_68 ?_ ?_
      · refine x_aload_n (pc := 80) g rfl 0 rfl dX10_treading_80 ?_
        refine x_iload_n (pc := 81) g rfl 1 rfl dX10_treading_81 ?_
        refine x_iload_n (pc := 82) g rfl 2 rfl dX10_treading_82 ?_
        refine x_callVI (pc := 83) (As := [.int a0, .int a1]) g sh_103 (mc_X10_plainTreads a0 a1) cw_X10_plainTreads lk_X10_379 rfl ⟨Nat.le_of_ble_eq_true rfl, Nat.le_of_ble_eq_true rfl⟩ rfl (Nat.le_of_ble_eq_true rfl) dX10_treading_83 (fun v5 σ2 => ?_)
        exact x_ireturn (pc := 86) g hrt dX10_treading_86
      · refine x_aload_n (pc := 71) g rfl 0 rfl dX10_treading_71 ?_
        refine x_iload_n (pc := 72) g rfl 1 rfl dX10_treading_72 ?_
        refine x_iload_n (pc := 73) g rfl 2 rfl dX10_treading_73 ?_
        refine x_callVI (pc := 74) (As := [.int a0, .int a1]) g sh_103 (mc_X10_farTreads a0 a1) cw_X10_farTreads lk_X10_382 rfl ⟨Nat.le_of_ble_eq_true rfl, Nat.le_of_ble_eq_true rfl⟩ rfl (Nat.le_of_ble_eq_true rfl) dX10_treading_74 (fun v6 σ3 => ?_)
        refine x_goto (pc := 77) (tgt := 86) g (by decide) dX10_treading_77 ?_
        exact x_ireturn (pc := 86) g hrt dX10_treading_86
    · refine x_aload_n (pc := 39) g rfl 0 rfl dX10_treading_39 ?_
      refine x_bipush (pc := 40) (v := (80 : Int32)) g (by decide) dX10_treading_40 ?_
      refine x_callVU (pc := 42) (As := [.int (80 : Int32)]) g sh_103 (mc_X10_ran (80 : Int32)) cw_X10_ran lk_X10_364 rfl ⟨Nat.le_of_ble_eq_true rfl, Nat.le_of_ble_eq_true rfl⟩ rfl (Nat.le_of_ble_eq_true rfl) dX10_treading_42 (fun _ σ4 => ?_)
      refine x_aload_n (pc := 45) g rfl 0 rfl dX10_treading_45 ?_
      refine x_iload_n (pc := 46) g rfl 1 rfl dX10_treading_46 ?_
      refine x_iload_n (pc := 47) g rfl 2 rfl dX10_treading_47 ?_
      refine x_callVI (pc := 48) (As := [.int a0, .int a1]) g sh_103 (mc_X10_plainTreads a0 a1) cw_X10_plainTreads lk_X10_379 rfl ⟨Nat.le_of_ble_eq_true rfl, Nat.le_of_ble_eq_true rfl⟩ rfl (Nat.le_of_ble_eq_true rfl) dX10_treading_48 (fun v7 σ5 => ?_)
      refine x_istore_n (pc := 51) (lv' := [(3, .int v7), (0, .ref (al 103)), (1, .int a0), (2, .int a1)]) g rfl (by decide) rfl dX10_treading_51 ?_
      refine x_iload_n (pc := 52) g rfl 0 rfl dX10_treading_52 ?_
      refine x_aload_n (pc := 53) g rfl 1 rfl dX10_treading_53 ?_
      refine x_iload_n (pc := 54) g rfl 2 rfl dX10_treading_54 ?_
      refine x_iconst (pc := 55) (v := (2 : Int32)) g (by decide) dX10_treading_55 ?_
      refine x_callVI (pc := 56) (As := [.int a0, .int (2 : Int32)]) g sh_103 (mc_X10_reading a0 (2 : Int32)) cw_X10_reading lk_X10_385 rfl ⟨Nat.le_of_ble_eq_true rfl, Nat.le_of_ble_eq_true rfl⟩ rfl (Nat.le_of_ble_eq_true rfl) dX10_treading_56 (fun v8 σ6 => ?_)
      refine x_iadd (pc := 59) g dX10_treading_59 ?_
      exact x_ireturn (pc := 60) g hrt dX10_treading_60
  · refine x_aload_n (pc := 13) g rfl 0 rfl dX10_treading_13 ?_
    refine x_bipush (pc := 14) (v := (41 : Int32)) g (by decide) dX10_treading_14 ?_
    refine x_callVU (pc := 16) (As := [.int (41 : Int32)]) g sh_103 (mc_X10_ran (41 : Int32)) cw_X10_ran lk_X10_364 rfl ⟨Nat.le_of_ble_eq_true rfl, Nat.le_of_ble_eq_true rfl⟩ rfl (Nat.le_of_ble_eq_true rfl) dX10_treading_16 (fun _ σ7 => ?_)
    refine x_aload_n (pc := 19) g rfl 0 rfl dX10_treading_19 ?_
    refine x_iload_n (pc := 20) g rfl 1 rfl dX10_treading_20 ?_
    refine x_iload_n (pc := 21) g rfl 2 rfl dX10_treading_21 ?_
    refine x_iconst (pc := 22) (v := (1 : Int32)) g (by decide) dX10_treading_22 ?_
    refine x_iadd (pc := 23) g dX10_treading_23 ?_
    refine x_callVI (pc := 24) (As := [.int a0, .int (a1 + (1 : Int32))]) g sh_103 (mc_X10_farTreads a0 (a1 + (1 : Int32))) cw_X10_farTreads lk_X10_382 rfl ⟨Nat.le_of_ble_eq_true rfl, Nat.le_of_ble_eq_true rfl⟩ rfl (Nat.le_of_ble_eq_true rfl) dX10_treading_24 (fun v9 σ8 => ?_)
    exact x_ireturn (pc := 27) g hrt dX10_treading_27
def F_X10_plainTells (a0 : Int32) (a1 : Int32) (σ0 : Sx) : Option (Int32 × Sx) := clx (F_X10_ran (2 : Int32) σ0) (fun _ σ1 => clx (F_X10_treading a0 a1 σ1) (fun v1 σ2 => clx (F_X10_reading a0 (1 : Int32) σ2) (fun v2 σ3 => some ((v1 - v2), σ3))))
set_option maxRecDepth 100000 in
set_option maxHeartbeats 4000000 in
theorem mc_X10_plainTells {D : va_G} {al : Nat → Nat} {cA : Nat → ClassId} {ba : Nat} (a0 : Int32) (a1 : Int32) : MCx D al cA ba yX10_plainTells cX10_plainTells 4 (some .int) 7 154 rvI [.ref (al 103), .int a0, .int a1] (F_X10_plainTells a0 a1) := by
  refine MCx_of (by decide +kernel) (Nat.le_of_ble_eq_true rfl) ?_
  intro p l e s m args below meth c σ0 g hrt
  unfold F_X10_plainTells
  refine x_lv (lv' := [(0, .ref (al 103)), (1, .int a0), (2, .int a1)]) [0, 1, 2] rfl ?_
  refine x_aload_n (pc := 0) g rfl 0 rfl dX10_plainTells_0 ?_
  refine x_iconst (pc := 1) (v := (2 : Int32)) g (by decide) dX10_plainTells_1 ?_
  refine x_callVU (pc := 2) (As := [.int (2 : Int32)]) g sh_103 (mc_X10_ran (2 : Int32)) cw_X10_ran lk_X10_364 rfl ⟨Nat.le_of_ble_eq_true rfl, Nat.le_of_ble_eq_true rfl⟩ rfl (Nat.le_of_ble_eq_true rfl) dX10_plainTells_2 (fun _ σ1 => ?_)
  refine x_aload_n (pc := 5) g rfl 0 rfl dX10_plainTells_5 ?_
  refine x_iload_n (pc := 6) g rfl 1 rfl dX10_plainTells_6 ?_
  refine x_iload_n (pc := 7) g rfl 2 rfl dX10_plainTells_7 ?_
  refine x_callVI (pc := 8) (As := [.int a0, .int a1]) g sh_103 (mc_X10_treading a0 a1) cw_X10_treading lk_X10_394 rfl ⟨Nat.le_of_ble_eq_true rfl, Nat.le_of_ble_eq_true rfl⟩ rfl (Nat.le_of_ble_eq_true rfl) dX10_plainTells_8 (fun v1 σ2 => ?_)
  refine x_istore_n (pc := 11) (lv' := [(3, .int v1), (0, .ref (al 103)), (1, .int a0), (2, .int a1)]) g rfl (by decide) rfl dX10_plainTells_11 ?_
  refine x_iload_n (pc := 12) g rfl 0 rfl dX10_plainTells_12 ?_
  refine x_aload_n (pc := 13) g rfl 1 rfl dX10_plainTells_13 ?_
  refine x_iload_n (pc := 14) g rfl 2 rfl dX10_plainTells_14 ?_
  refine x_iconst (pc := 15) (v := (1 : Int32)) g (by decide) dX10_plainTells_15 ?_
  refine x_callVI (pc := 16) (As := [.int a0, .int (1 : Int32)]) g sh_103 (mc_X10_reading a0 (1 : Int32)) cw_X10_reading lk_X10_385 rfl ⟨Nat.le_of_ble_eq_true rfl, Nat.le_of_ble_eq_true rfl⟩ rfl (Nat.le_of_ble_eq_true rfl) dX10_plainTells_16 (fun v2 σ3 => ?_)
  refine x_isub (pc := 19) g dX10_plainTells_19 ?_
  exact x_ireturn (pc := 20) g hrt dX10_plainTells_20
def F_X10_telling (a0 : Int32) (a1 : Int32) (σ0 : Sx) : Option (Int32 × Sx) := aIx 133 50 a0 σ0 (fun v1 => (if v1 = (4 : Int32) then clx (F_X10_ran (50 : Int32) σ0) (fun _ σ4 => clx (F_X10_plainTells a0 a1 σ4) (fun v5 σ5 => some ((v5 ^^^ (5 : Int32)), σ5))) else aIx 133 50 a0 σ0 (fun v2 => (if v2 = (5 : Int32) then clx (F_X10_ran (61 : Int32) σ0) (fun _ σ2 => clx (F_X10_plainTells a0 a1 σ2) (fun v4 σ3 => some ((v4 + (1 : Int32)), σ3))) else clx (F_X10_plainTells a0 a1 σ0) (fun v3 σ1 => some (v3, σ1))))))
set_option maxRecDepth 100000 in
set_option maxHeartbeats 4000000 in
theorem mc_X10_telling {D : va_G} {al : Nat → Nat} {cA : Nat → ClassId} {ba : Nat} (a0 : Int32) (a1 : Int32) : MCx D al cA ba yX10_telling cX10_telling 3 (some .int) 8 177 rvI [.ref (al 103), .int a0, .int a1] (F_X10_telling a0 a1) := by
  refine MCx_of (by decide +kernel) (Nat.le_of_ble_eq_true rfl) ?_
  intro p l e s m args below meth c σ0 g hrt
  unfold F_X10_telling
  refine x_lv (lv' := [(0, .ref (al 103)), (1, .int a0), (2, .int a1)]) [0, 1, 2] rfl ?_
  refine x_aload_n (pc := 0) g rfl 0 rfl dX10_telling_0 ?_
  refine x_getR (pc := 1) g sh_103 fl_X10_106 rfl dX10_telling_1 ?_
  refine x_iload_n (pc := 4) g rfl 1 rfl dX10_telling_4 ?_
  refine x_iald (pc := 5) g sh_133 (by decide) dX10_telling_5 (fun v1 => ?_)
  refine x_iconst (pc := 6) (v := (4 : Int32)) g (by decide) dX10_telling_6 ?_
  refine x_icmp_ne (pc := 7) (tgt := 25) g (by decide) dX10_telling_7 ?_ ?_
  · refine x_aload_n (pc := 25) g rfl 0 rfl dX10_telling_25 ?_
    refine x_getR (pc := 26) g sh_103 fl_X10_106 rfl dX10_telling_26 ?_
    refine x_iload_n (pc := 29) g rfl 1 rfl dX10_telling_29 ?_
    refine x_iald (pc := 30) g sh_133 (by decide) dX10_telling_30 (fun v2 => ?_)
    refine x_iconst (pc := 31) (v := (5 : Int32)) g (by decide) dX10_telling_31 ?_
    refine x_icmp_ne (pc := 32) (tgt := 50) g (by decide) dX10_telling_32 ?_ ?_
    · refine x_aload_n (pc := 50) g rfl 0 rfl dX10_telling_50 ?_
      refine x_iload_n (pc := 51) g rfl 1 rfl dX10_telling_51 ?_
      refine x_iload_n (pc := 52) g rfl 2 rfl dX10_telling_52 ?_
      refine x_callVI (pc := 53) (As := [.int a0, .int a1]) g sh_103 (mc_X10_plainTells a0 a1) cw_X10_plainTells lk_X10_397 rfl ⟨Nat.le_of_ble_eq_true rfl, Nat.le_of_ble_eq_true rfl⟩ rfl (Nat.le_of_ble_eq_true rfl) dX10_telling_53 (fun v3 σ1 => ?_)
      exact x_ireturn (pc := 56) g hrt dX10_telling_56
    · refine x_aload_n (pc := 35) g rfl 0 rfl dX10_telling_35 ?_
      refine x_bipush (pc := 36) (v := (61 : Int32)) g (by decide) dX10_telling_36 ?_
      refine x_callVU (pc := 38) (As := [.int (61 : Int32)]) g sh_103 (mc_X10_ran (61 : Int32)) cw_X10_ran lk_X10_364 rfl ⟨Nat.le_of_ble_eq_true rfl, Nat.le_of_ble_eq_true rfl⟩ rfl (Nat.le_of_ble_eq_true rfl) dX10_telling_38 (fun _ σ2 => ?_)
      refine x_aload_n (pc := 41) g rfl 0 rfl dX10_telling_41 ?_
      refine x_iload_n (pc := 42) g rfl 1 rfl dX10_telling_42 ?_
      refine x_iload_n (pc := 43) g rfl 2 rfl dX10_telling_43 ?_
      refine x_callVI (pc := 44) (As := [.int a0, .int a1]) g sh_103 (mc_X10_plainTells a0 a1) cw_X10_plainTells lk_X10_397 rfl ⟨Nat.le_of_ble_eq_true rfl, Nat.le_of_ble_eq_true rfl⟩ rfl (Nat.le_of_ble_eq_true rfl) dX10_telling_44 (fun v4 σ3 => ?_)
      refine x_iconst (pc := 47) (v := (1 : Int32)) g (by decide) dX10_telling_47 ?_
      refine x_iadd (pc := 48) g dX10_telling_48 ?_
      exact x_ireturn (pc := 49) g hrt dX10_telling_49
  · refine x_aload_n (pc := 10) g rfl 0 rfl dX10_telling_10 ?_
    refine x_bipush (pc := 11) (v := (50 : Int32)) g (by decide) dX10_telling_11 ?_
    refine x_callVU (pc := 13) (As := [.int (50 : Int32)]) g sh_103 (mc_X10_ran (50 : Int32)) cw_X10_ran lk_X10_364 rfl ⟨Nat.le_of_ble_eq_true rfl, Nat.le_of_ble_eq_true rfl⟩ rfl (Nat.le_of_ble_eq_true rfl) dX10_telling_13 (fun _ σ4 => ?_)
    refine x_aload_n (pc := 16) g rfl 0 rfl dX10_telling_16 ?_
    refine x_iload_n (pc := 17) g rfl 1 rfl dX10_telling_17 ?_
    refine x_iload_n (pc := 18) g rfl 2 rfl dX10_telling_18 ?_
    refine x_callVI (pc := 19) (As := [.int a0, .int a1]) g sh_103 (mc_X10_plainTells a0 a1) cw_X10_plainTells lk_X10_397 rfl ⟨Nat.le_of_ble_eq_true rfl, Nat.le_of_ble_eq_true rfl⟩ rfl (Nat.le_of_ble_eq_true rfl) dX10_telling_19 (fun v5 σ5 => ?_)
    refine x_iconst (pc := 22) (v := (5 : Int32)) g (by decide) dX10_telling_22 ?_
    refine x_ixor (pc := 23) g dX10_telling_23 ?_
    exact x_ireturn (pc := 24) g hrt dX10_telling_24
def F_X10_act (a0 : Int32) (a1 : Int32) (a2 : Int32) (σ0 : Sx) : Option (Int32 × Sx) := pIx 103 51 (0 : Int32) σ0 (fun σ1 => clx (F_X10_isBody a0 σ1) (fun v1 σ2 => (if v1 = 0 then some ((0 : Int32), σ2) else clx (F_X10_in a1 (0 : Int32) (3 : Int32) σ2) (fun v2 σ3 => (if v2 = 0 then some ((0 : Int32), σ3) else (if a1 = 0 then clx (F_X10_leading a0 a2 σ3) (fun v6 σ7 => some (v6, σ7)) else (if a1 = (1 : Int32) then clx (F_X10_treading a0 a2 σ3) (fun v5 σ6 => some (v5, σ6)) else (if a1 = (2 : Int32) then clx (F_X10_reading a0 a2 σ3) (fun v4 σ5 => some (v4, σ5)) else clx (F_X10_telling a0 a2 σ3) (fun v3 σ4 => some (v3, σ4))))))))))
set_option maxRecDepth 100000 in
set_option maxHeartbeats 4000000 in
theorem mc_X10_act {D : va_G} {al : Nat → Nat} {cA : Nat → ClassId} {ba : Nat} (a0 : Int32) (a1 : Int32) (a2 : Int32) : MCx D al cA ba yX10_act cX10_act 4 (some .int) 9 199 rvI [.ref (al 103), .int a0, .int a1, .int a2] (F_X10_act a0 a1 a2) := by
  refine MCx_of (by decide +kernel) (Nat.le_of_ble_eq_true rfl) ?_
  intro p l e s m args below meth c σ0 g hrt
  unfold F_X10_act
  refine x_lv (lv' := [(0, .ref (al 103)), (1, .int a0), (2, .int a1), (3, .int a2)]) [0, 1, 2, 3] rfl ?_
  refine x_aload_n (pc := 0) g rfl 0 rfl dX10_act_0 ?_
  refine x_iconst (pc := 1) (v := (0 : Int32)) g (by decide) dX10_act_1 ?_
  refine x_putI (pc := 2) g sh_103 fl_X10_361 rfl dX10_act_2 (fun σ1 => ?_)
  refine x_aload_n (pc := 5) g rfl 0 rfl dX10_act_5 ?_
  refine x_iload_n (pc := 6) g rfl 1 rfl dX10_act_6 ?_
  refine x_callVI (pc := 7) (As := [.int a0]) g sh_103 (mc_X10_isBody a0) cw_X10_isBody lk_X10_400 rfl ⟨Nat.le_of_ble_eq_true rfl, Nat.le_of_ble_eq_true rfl⟩ rfl (Nat.le_of_ble_eq_true rfl) dX10_act_7 (fun v1 σ2 => ?_)
  refine x_if_eq (pc := 10) (tgt := 22) g (by decide) dX10_act_10 ?_ ?_
  · refine x_iconst (pc := 22) (v := (0 : Int32)) g (by decide) dX10_act_22 ?_
    exact x_ireturn (pc := 23) g hrt dX10_act_23
  · refine x_iload_n (pc := 13) g rfl 2 rfl dX10_act_13 ?_
    refine x_iconst (pc := 14) (v := (0 : Int32)) g (by decide) dX10_act_14 ?_
    refine x_iconst (pc := 15) (v := (3 : Int32)) g (by decide) dX10_act_15 ?_
    refine x_callSI (pc := 16) (As := [.int a1, .int (0 : Int32), .int (3 : Int32)]) g (mc_X10_in a1 (0 : Int32) (3 : Int32)) cw_X10_in lk_X10_131 rfl ⟨Nat.le_of_ble_eq_true rfl, Nat.le_of_ble_eq_true rfl⟩ rfl (Nat.le_of_ble_eq_true rfl) dX10_act_16 (fun v2 σ3 => ?_)
    refine x_if_ne (pc := 19) (tgt := 24) g (by decide) dX10_act_19 ?_ ?_
    · refine x_iload_n (pc := 24) g rfl 2 rfl dX10_act_24 ?_
      refine x_if_ne (pc := 25) (tgt := 37) g (by decide) dX10_act_25 ?_ ?_
      · refine x_iload_n (pc := 37) g rfl 2 rfl dX10_act_37 ?_
        refine x_iconst (pc := 38) (v := (1 : Int32)) g (by decide) dX10_act_38 ?_
        refine x_icmp_ne (pc := 39) (tgt := 51) g (by decide) dX10_act_39 ?_ ?_
        · refine x_iload_n (pc := 51) g rfl 2 rfl dX10_act_51 ?_
          refine x_iconst (pc := 52) (v := (2 : Int32)) g (by decide) dX10_act_52 ?_
          refine x_icmp_ne (pc := 53) (tgt := 65) g (by decide) dX10_act_53 ?_ ?_
          · refine x_aload_n (pc := 65) g rfl 0 rfl dX10_act_65 ?_
            refine x_iload_n (pc := 66) g rfl 1 rfl dX10_act_66 ?_
            refine x_iload_n (pc := 67) g rfl 3 rfl dX10_act_67 ?_
            refine x_callVI (pc := 68) (As := [.int a0, .int a2]) g sh_103 (mc_X10_telling a0 a2) cw_X10_telling lk_X10_403 rfl ⟨Nat.le_of_ble_eq_true rfl, Nat.le_of_ble_eq_true rfl⟩ rfl (Nat.le_of_ble_eq_true rfl) dX10_act_68 (fun v3 σ4 => ?_)
            exact x_ireturn (pc := 71) g hrt dX10_act_71
          · refine x_aload_n (pc := 56) g rfl 0 rfl dX10_act_56 ?_
            refine x_iload_n (pc := 57) g rfl 1 rfl dX10_act_57 ?_
            refine x_iload_n (pc := 58) g rfl 3 rfl dX10_act_58 ?_
            refine x_callVI (pc := 59) (As := [.int a0, .int a2]) g sh_103 (mc_X10_reading a0 a2) cw_X10_reading lk_X10_385 rfl ⟨Nat.le_of_ble_eq_true rfl, Nat.le_of_ble_eq_true rfl⟩ rfl (Nat.le_of_ble_eq_true rfl) dX10_act_59 (fun v4 σ5 => ?_)
            refine x_goto (pc := 62) (tgt := 71) g (by decide) dX10_act_62 ?_
            exact x_ireturn (pc := 71) g hrt dX10_act_71
        · refine x_aload_n (pc := 42) g rfl 0 rfl dX10_act_42 ?_
          refine x_iload_n (pc := 43) g rfl 1 rfl dX10_act_43 ?_
          refine x_iload_n (pc := 44) g rfl 3 rfl dX10_act_44 ?_
          refine x_callVI (pc := 45) (As := [.int a0, .int a2]) g sh_103 (mc_X10_treading a0 a2) cw_X10_treading lk_X10_394 rfl ⟨Nat.le_of_ble_eq_true rfl, Nat.le_of_ble_eq_true rfl⟩ rfl (Nat.le_of_ble_eq_true rfl) dX10_act_45 (fun v5 σ6 => ?_)
          refine x_goto (pc := 48) (tgt := 71) g (by decide) dX10_act_48 ?_
          exact x_ireturn (pc := 71) g hrt dX10_act_71
      · refine x_aload_n (pc := 28) g rfl 0 rfl dX10_act_28 ?_
        refine x_iload_n (pc := 29) g rfl 1 rfl dX10_act_29 ?_
        refine x_iload_n (pc := 30) g rfl 3 rfl dX10_act_30 ?_
        refine x_callVI (pc := 31) (As := [.int a0, .int a2]) g sh_103 (mc_X10_leading a0 a2) cw_X10_leading lk_X10_376 rfl ⟨Nat.le_of_ble_eq_true rfl, Nat.le_of_ble_eq_true rfl⟩ rfl (Nat.le_of_ble_eq_true rfl) dX10_act_31 (fun v6 σ7 => ?_)
        refine x_goto (pc := 34) (tgt := 71) g (by decide) dX10_act_34 ?_
        exact x_ireturn (pc := 71) g hrt dX10_act_71
    · refine x_iconst (pc := 22) (v := (0 : Int32)) g (by decide) dX10_act_22 ?_
      exact x_ireturn (pc := 23) g hrt dX10_act_23
def F_X10_count (N : Nat) (a0 : Int32) (σ0 : Sx) : Option (Int32 × Sx) := (if a0 = (0 : Int32) then some ((siI σ0 103 1), σ0) else (if a0 = (1 : Int32) then clx (F_X10_allWays N  σ0) (fun v1 σ1 => some (v1, σ1)) else (if a0 = (2 : Int32) then some ((siI σ0 103 16), σ0) else (if a0 = (3 : Int32) then some ((siI σ0 103 9), σ0) else (if a0 = (4 : Int32) then some ((siI σ0 103 49), σ0) else (if a0 = (5 : Int32) then some ((siI σ0 103 51), σ0) else some ((-1 : Int32), σ0)))))))
set_option maxRecDepth 100000 in
set_option maxHeartbeats 4000000 in
theorem mc_X10_count {D : va_G} {al : Nat → Nat} {cA : Nat → ClassId} {ba : Nat} (N : Nat) (a0 : Int32) : MCx D al cA ba yX10_count cX10_count 2 (some .int) 1 22 rvI [.ref (al 103), .int a0] (F_X10_count N a0) := by
  refine MCx_of (by decide +kernel) (Nat.le_of_ble_eq_true rfl) ?_
  intro p l e s m args below meth c σ0 g hrt
  unfold F_X10_count
  refine x_lv (lv' := [(0, .ref (al 103)), (1, .int a0)]) [0, 1] rfl ?_
  refine x_iload_n (pc := 0) g rfl 1 rfl dX10_count_0 ?_
  refine x_eqs ?_ (fun hs1 => ?_)
  · refine x_tabIn (pc := 1) (tgt := 40) (off := 39) g (by decide) (by decide) dX10_count_1 ?_
    refine x_aload_n (pc := 40) g rfl 0 rfl dX10_count_40 ?_
    refine x_getI (pc := 41) g sh_103 fl_X10_128 rfl dX10_count_41 ?_
    exact x_ireturn (pc := 44) g hrt dX10_count_44
  refine x_eqs ?_ (fun hs2 => ?_)
  · refine x_tabIn (pc := 1) (tgt := 45) (off := 44) g (by decide) (by decide) dX10_count_1 ?_
    refine x_aload_n (pc := 45) g rfl 0 rfl dX10_count_45 ?_
    refine x_callVI (pc := 46) (As := []) g sh_103 (mc_X10_allWays N ) cw_X10_allWays lk_X10_406 rfl ⟨Nat.le_of_ble_eq_true rfl, Nat.le_of_ble_eq_true rfl⟩ rfl (Nat.le_of_ble_eq_true rfl) dX10_count_46 (fun v1 σ1 => ?_)
    exact x_ireturn (pc := 49) g hrt dX10_count_49
  refine x_eqs ?_ (fun hs3 => ?_)
  · refine x_tabIn (pc := 1) (tgt := 50) (off := 49) g (by decide) (by decide) dX10_count_1 ?_
    refine x_aload_n (pc := 50) g rfl 0 rfl dX10_count_50 ?_
    refine x_getI (pc := 51) g sh_103 fl_X10_189 rfl dX10_count_51 ?_
    exact x_ireturn (pc := 54) g hrt dX10_count_54
  refine x_eqs ?_ (fun hs4 => ?_)
  · refine x_tabIn (pc := 1) (tgt := 55) (off := 54) g (by decide) (by decide) dX10_count_1 ?_
    refine x_aload_n (pc := 55) g rfl 0 rfl dX10_count_55 ?_
    refine x_getI (pc := 56) g sh_103 fl_X10_170 rfl dX10_count_56 ?_
    exact x_ireturn (pc := 59) g hrt dX10_count_59
  refine x_eqs ?_ (fun hs5 => ?_)
  · refine x_tabIn (pc := 1) (tgt := 60) (off := 59) g (by decide) (by decide) dX10_count_1 ?_
    refine x_aload_n (pc := 60) g rfl 0 rfl dX10_count_60 ?_
    refine x_getI (pc := 61) g sh_103 fl_X10_358 rfl dX10_count_61 ?_
    exact x_ireturn (pc := 64) g hrt dX10_count_64
  refine x_eqs ?_ (fun hs6 => ?_)
  · refine x_tabIn (pc := 1) (tgt := 65) (off := 64) g (by decide) (by decide) dX10_count_1 ?_
    refine x_aload_n (pc := 65) g rfl 0 rfl dX10_count_65 ?_
    refine x_getI (pc := 66) g sh_103 fl_X10_361 rfl dX10_count_66 ?_
    exact x_ireturn (pc := 69) g hrt dX10_count_69
  refine x_tabOut (pc := 1) (tgt := 70) g (fun i h1 h2 => ?_) (by decide) dX10_count_1 ?_
  · rcases (show i = 0 ∨ i = 1 ∨ i = 2 ∨ i = 3 ∨ i = 4 ∨ i = 5 by omega) with rfl | rfl | rfl | rfl | rfl | rfl
    · exact hs1
    · exact hs2
    · exact hs3
    · exact hs4
    · exact hs5
    · exact hs6
  · refine x_iconst (pc := 70) (v := (-1 : Int32)) g (by decide) dX10_count_70 ?_
    exact x_ireturn (pc := 71) g hrt dX10_count_71
def F_X10_keep (a0 : Int32) (a1 : Int32) (σ0 : Sx) : Option (Int32 × Sx) := clx (F_X10_isShelf a0 σ0) (fun v1 σ1 => (if v1 = 0 then some ((-1 : Int32), σ1) else nmx (fun (σ2 : Sx) => sIx 135 6 a0 a1 σ2 (fun σ3 => some ((1 : Int32), σ3))) (fun (j22 : Sx → Option (Int32 × Sx)) => (if a1 = (-1 : Int32) then j22 σ1 else clx (F_X10_isBody a1 σ1) (fun v2 σ4 => (if v2 = 0 then some ((-1 : Int32), σ4) else j22 σ4))))))
set_option maxRecDepth 100000 in
set_option maxHeartbeats 4000000 in
theorem mc_X10_keep {D : va_G} {al : Nat → Nat} {cA : Nat → ClassId} {ba : Nat} (a0 : Int32) (a1 : Int32) : MCx D al cA ba yX10_keep cX10_keep 3 (some .int) 2 43 rvI [.ref (al 103), .int a0, .int a1] (F_X10_keep a0 a1) := by
  refine MCx_of (by decide +kernel) (Nat.le_of_ble_eq_true rfl) ?_
  intro p l e s m args below meth c σ0 g hrt
  unfold F_X10_keep
  refine x_lv (lv' := [(0, .ref (al 103)), (1, .int a0), (2, .int a1)]) [0, 1, 2] rfl ?_
  refine x_iload_n (pc := 0) g rfl 1 rfl dX10_keep_0 ?_
  refine x_callSI (pc := 1) (As := [.int a0]) g (mc_X10_isShelf a0) cw_X10_isShelf lk_X10_139 rfl ⟨Nat.le_of_ble_eq_true rfl, Nat.le_of_ble_eq_true rfl⟩ rfl (Nat.le_of_ble_eq_true rfl) dX10_keep_1 (fun v1 σ1 => ?_)
  refine x_if_eq (pc := 4) (tgt := 20) g (by decide) dX10_keep_4 ?_ ?_
  · refine x_iconst (pc := 20) (v := (-1 : Int32)) g (by decide) dX10_keep_20 ?_
    exact x_ireturn (pc := 21) g hrt dX10_keep_21
  · refine x_iload_n (pc := 7) g rfl 2 rfl dX10_keep_7 ?_
    refine x_iconst (pc := 8) (v := (-1 : Int32)) g (by decide) dX10_keep_8 ?_
    refine x_jn (fun (j22 : Sx → Option (Int32 × Sx)) => ∀ (σ2 : Sx), XTx p l e { frames := 2, cells := 0, slots := 0, locals := 43 } s m args below meth c D al cA ba 3 (MQx rvI D al cA ba below args s) 0 0 22 [(0, .ref (al 103)), (1, .int a0), (2, .int a1)] [] σ2 (j22 σ2)) (fun σ2 => ?_) (fun j22 hj22 => ?_)
    · refine x_aload_n (pc := 22) g rfl 0 rfl dX10_keep_22 ?_
      refine x_getR (pc := 23) g sh_103 fl_X10_112 rfl dX10_keep_23 ?_
      refine x_iload_n (pc := 26) g rfl 1 rfl dX10_keep_26 ?_
      refine x_iload_n (pc := 27) g rfl 2 rfl dX10_keep_27 ?_
      refine x_iast (pc := 28) g sh_135 (by decide) dX10_keep_28 (fun σ3 => ?_)
      refine x_iconst (pc := 29) (v := (1 : Int32)) g (by decide) dX10_keep_29 ?_
      exact x_ireturn (pc := 30) g hrt dX10_keep_30
    · refine x_icmp_eq (pc := 9) (tgt := 22) g (by decide) dX10_keep_9 ?_ ?_
      · exact hj22 σ1
      · refine x_aload_n (pc := 12) g rfl 0 rfl dX10_keep_12 ?_
        refine x_iload_n (pc := 13) g rfl 2 rfl dX10_keep_13 ?_
        refine x_callVI (pc := 14) (As := [.int a1]) g sh_103 (mc_X10_isBody a1) cw_X10_isBody lk_X10_400 rfl ⟨Nat.le_of_ble_eq_true rfl, Nat.le_of_ble_eq_true rfl⟩ rfl (Nat.le_of_ble_eq_true rfl) dX10_keep_14 (fun v2 σ4 => ?_)
        refine x_if_ne (pc := 17) (tgt := 22) g (by decide) dX10_keep_17 ?_ ?_
        · exact hj22 σ4
        · refine x_iconst (pc := 20) (v := (-1 : Int32)) g (by decide) dX10_keep_20 ?_
          exact x_ireturn (pc := 21) g hrt dX10_keep_21
def B_X10_row_L54 (N : Nat) (a0 : Int32) (r54 : Int32 → Sx → Option (Int32 × Sx)) (x1 : Int32) (σ5 : Sx) : Option (Int32 × Sx) := (if (((60 : Int32) * a0) + (60 : Int32)) ≤ x1 then some ((1 : Int32), σ5) else sLx 137 360 x1 (0 : Int64) σ5 (fun σ6 => r54 (x1 + (1 : Int32)) σ6))
def F_X10_row (N : Nat) (a0 : Int32) (a1 : Int32) (a2 : Int32) (σ0 : Sx) : Option (Int32 × Sx) := clx (F_X10_isShelf a0 σ0) (fun v1 σ1 => (if v1 = 0 then some ((-1 : Int32), σ1) else clx (F_X10_in a1 (0 : Int32) (4 : Int32) σ1) (fun v2 σ2 => (if v2 = 0 then some ((-1 : Int32), σ2) else (if a2 ≤ (60 : Int32) then (if 0 ≤ a2 then sIx 135 6 a0 ((-2 : Int32) - a1) σ2 (fun σ3 => sIx 136 6 a0 a2 σ3 (fun σ4 => nmx (((60 : Int32) * a0)) (fun v3 => lpx1 (B_X10_row_L54 N a0) N v3 σ4))) else some ((-14 : Int32), σ2)) else some ((-1 : Int32), σ2))))))
set_option maxRecDepth 100000 in
set_option maxHeartbeats 4000000 in
theorem mc_X10_row {D : va_G} {al : Nat → Nat} {cA : Nat → ClassId} {ba : Nat} (N : Nat) (a0 : Int32) (a1 : Int32) (a2 : Int32) : MCx D al cA ba yX10_row cX10_row 5 (some .int) 2 42 rvI [.ref (al 103), .int a0, .int a1, .int a2] (F_X10_row N a0 a1 a2) := by
  refine MCx_of (by decide +kernel) (Nat.le_of_ble_eq_true rfl) ?_
  intro p l e s m args below meth c σ0 g hrt
  unfold F_X10_row
  refine x_lv (lv' := [(0, .ref (al 103)), (1, .int a0), (2, .int a1), (3, .int a2)]) [0, 1, 2, 3] rfl ?_
  refine x_iload_n (pc := 0) g rfl 1 rfl dX10_row_0 ?_
  refine x_callSI (pc := 1) (As := [.int a0]) g (mc_X10_isShelf a0) cw_X10_isShelf lk_X10_139 rfl ⟨Nat.le_of_ble_eq_true rfl, Nat.le_of_ble_eq_true rfl⟩ rfl (Nat.le_of_ble_eq_true rfl) dX10_row_1 (fun v1 σ1 => ?_)
  refine x_if_eq (pc := 4) (tgt := 22) g (by decide) dX10_row_4 ?_ ?_
  · refine x_iconst (pc := 22) (v := (-1 : Int32)) g (by decide) dX10_row_22 ?_
    exact x_ireturn (pc := 23) g hrt dX10_row_23
  · refine x_iload_n (pc := 7) g rfl 2 rfl dX10_row_7 ?_
    refine x_iconst (pc := 8) (v := (0 : Int32)) g (by decide) dX10_row_8 ?_
    refine x_iconst (pc := 9) (v := (4 : Int32)) g (by decide) dX10_row_9 ?_
    refine x_callSI (pc := 10) (As := [.int a1, .int (0 : Int32), .int (4 : Int32)]) g (mc_X10_in a1 (0 : Int32) (4 : Int32)) cw_X10_in lk_X10_131 rfl ⟨Nat.le_of_ble_eq_true rfl, Nat.le_of_ble_eq_true rfl⟩ rfl (Nat.le_of_ble_eq_true rfl) dX10_row_10 (fun v2 σ2 => ?_)
    refine x_if_eq (pc := 13) (tgt := 22) g (by decide) dX10_row_13 ?_ ?_
    · refine x_iconst (pc := 22) (v := (-1 : Int32)) g (by decide) dX10_row_22 ?_
      exact x_ireturn (pc := 23) g hrt dX10_row_23
    · refine x_iload_n (pc := 16) g rfl 3 rfl dX10_row_16 ?_
      refine x_bipush (pc := 17) (v := (60 : Int32)) g (by decide) dX10_row_17 ?_
      refine x_icmp_le (pc := 19) (tgt := 24) g (by decide) dX10_row_19 ?_ ?_
      · refine x_iload_n (pc := 24) g rfl 3 rfl dX10_row_24 ?_
        refine x_if_ge (pc := 25) (tgt := 31) g (by decide) dX10_row_25 ?_ ?_
        · refine x_aload_n (pc := 31) g rfl 0 rfl dX10_row_31 ?_
          refine x_getR (pc := 32) g sh_103 fl_X10_112 rfl dX10_row_32 ?_
          refine x_iload_n (pc := 35) g rfl 1 rfl dX10_row_35 ?_
          refine x_bipush (pc := 36) (v := (-2 : Int32)) g (by decide) dX10_row_36 ?_
          refine x_iload_n (pc := 38) g rfl 2 rfl dX10_row_38 ?_
          refine x_isub (pc := 39) g dX10_row_39 ?_
          refine x_iast (pc := 40) g sh_135 (by decide) dX10_row_40 (fun σ3 => ?_)
          refine x_aload_n (pc := 41) g rfl 0 rfl dX10_row_41 ?_
          refine x_getR (pc := 42) g sh_103 fl_X10_115 rfl dX10_row_42 ?_
          refine x_iload_n (pc := 45) g rfl 1 rfl dX10_row_45 ?_
          refine x_iload_n (pc := 46) g rfl 3 rfl dX10_row_46 ?_
          refine x_iast (pc := 47) g sh_136 (by decide) dX10_row_47 (fun σ4 => ?_)
          refine x_bipush (pc := 48) (v := (60 : Int32)) g (by decide) dX10_row_48 ?_
          refine x_iload_n (pc := 50) g rfl 1 rfl dX10_row_50 ?_
          refine x_imul (pc := 51) g dX10_row_51 ?_
          refine x_nm (fun v3 => ?_)
          refine x_istore (pc := 52) (lv' := [(4, .int v3), (0, .ref (al 103)), (1, .int a0), (2, .int a1), (3, .int a2)]) g (by decide) rfl dX10_row_52 ?_
          refine x_lv [1, 2, 0] rfl ?_
          refine lpx1_ind (fun (x1 : Int32) (σ5 : Sx) (K : Option (Int32 × Sx)) => XTx p l e { frames := 2, cells := 0, slots := 0, locals := 42 } s m args below meth c D al cA ba 5 (MQx rvI D al cA ba below args s) 0 0 54 [(0, .ref (al 103)), (1, .int a0), (4, .int x1)] [] σ5 (K)) (fun _ _ => x_no) (fun r54 hr54 x1 σ5 => ?_) N v3 σ4
          show XTx p l e { frames := 2, cells := 0, slots := 0, locals := 42 } s m args below meth c D al cA ba 5 (MQx rvI D al cA ba below args s) 0 0 54 [(0, .ref (al 103)), (1, .int a0), (4, .int x1)] [] σ5 (B_X10_row_L54 N a0 r54 x1 σ5)
          unfold B_X10_row_L54
          refine x_iload (pc := 54) g 2 rfl dX10_row_54 ?_
          refine x_bipush (pc := 56) (v := (60 : Int32)) g (by decide) dX10_row_56 ?_
          refine x_iload_n (pc := 58) g rfl 1 rfl dX10_row_58 ?_
          refine x_imul (pc := 59) g dX10_row_59 ?_
          refine x_bipush (pc := 60) (v := (60 : Int32)) g (by decide) dX10_row_60 ?_
          refine x_iadd (pc := 62) g dX10_row_62 ?_
          refine x_icmp_ge (pc := 63) (tgt := 80) g (by decide) dX10_row_63 ?_ ?_
          · refine x_iconst (pc := 80) (v := (1 : Int32)) g (by decide) dX10_row_80 ?_
            exact x_ireturn (pc := 81) g hrt dX10_row_81
          · refine x_aload_n (pc := 66) g rfl 0 rfl dX10_row_66 ?_
            refine x_getR (pc := 67) g sh_103 fl_X10_118 rfl dX10_row_67 ?_
            refine x_iload (pc := 70) g 2 rfl dX10_row_70 ?_
            refine x_lconst (pc := 72) (v := (0 : Int64)) g (by decide) dX10_row_72 ?_
            refine x_last (pc := 73) g sh_137 (by decide) dX10_row_73 (fun σ6 => ?_)
            refine x_iinc (pc := 74) (v := (x1 + (1 : Int32))) (lv' := [(4, .int (x1 + (1 : Int32))), (0, .ref (al 103)), (1, .int a0)]) g 2 rfl (by rfl) (by decide) rfl dX10_row_74 ?_
            refine x_goto (pc := 77) (tgt := 54) g (by decide) dX10_row_77 ?_
            refine x_lv [1, 2, 0] rfl ?_
            exact hr54 (x1 + (1 : Int32)) σ6
        · refine x_bipush (pc := 28) (v := (-14 : Int32)) g (by decide) dX10_row_28 ?_
          exact x_ireturn (pc := 30) g hrt dX10_row_30
      · refine x_iconst (pc := 22) (v := (-1 : Int32)) g (by decide) dX10_row_22 ?_
        exact x_ireturn (pc := 23) g hrt dX10_row_23
def F_X10_whyNoPlace (a0 : Int32) (a1 : Int32) (σ0 : Sx) : Option (Int32 × Sx) := clx (F_X10_isShelf a0 σ0) (fun v1 σ1 => (if v1 = 0 then some ((-1 : Int32), σ1) else aIx 135 6 a0 σ1 (fun v2 => (if v2 = (-1 : Int32) then some ((-11 : Int32), σ1) else aIx 135 6 a0 σ1 (fun v3 => (if v3 < 0 then aIx 136 6 a0 σ1 (fun v4 => clx (F_X10_in a1 (0 : Int32) (v4 - (1 : Int32)) σ1) (fun v5 σ2 => (if v5 = 0 then some ((-13 : Int32), σ2) else some ((0 : Int32), σ2)))) else some ((-12 : Int32), σ1)))))))
set_option maxRecDepth 100000 in
set_option maxHeartbeats 4000000 in
theorem mc_X10_whyNoPlace {D : va_G} {al : Nat → Nat} {cA : Nat → ClassId} {ba : Nat} (a0 : Int32) (a1 : Int32) : MCx D al cA ba yX10_whyNoPlace cX10_whyNoPlace 3 (some .int) 2 42 rvI [.ref (al 103), .int a0, .int a1] (F_X10_whyNoPlace a0 a1) := by
  refine MCx_of (by decide +kernel) (Nat.le_of_ble_eq_true rfl) ?_
  intro p l e s m args below meth c σ0 g hrt
  unfold F_X10_whyNoPlace
  refine x_lv (lv' := [(0, .ref (al 103)), (1, .int a0), (2, .int a1)]) [0, 1, 2] rfl ?_
  refine x_iload_n (pc := 0) g rfl 1 rfl dX10_whyNoPlace_0 ?_
  refine x_callSI (pc := 1) (As := [.int a0]) g (mc_X10_isShelf a0) cw_X10_isShelf lk_X10_139 rfl ⟨Nat.le_of_ble_eq_true rfl, Nat.le_of_ble_eq_true rfl⟩ rfl (Nat.le_of_ble_eq_true rfl) dX10_whyNoPlace_1 (fun v1 σ1 => ?_)
  refine x_if_ne (pc := 4) (tgt := 9) g (by decide) dX10_whyNoPlace_4 ?_ ?_
  · refine x_aload_n (pc := 9) g rfl 0 rfl dX10_whyNoPlace_9 ?_
    refine x_getR (pc := 10) g sh_103 fl_X10_112 rfl dX10_whyNoPlace_10 ?_
    refine x_iload_n (pc := 13) g rfl 1 rfl dX10_whyNoPlace_13 ?_
    refine x_iald (pc := 14) g sh_135 (by decide) dX10_whyNoPlace_14 (fun v2 => ?_)
    refine x_iconst (pc := 15) (v := (-1 : Int32)) g (by decide) dX10_whyNoPlace_15 ?_
    refine x_icmp_ne (pc := 16) (tgt := 22) g (by decide) dX10_whyNoPlace_16 ?_ ?_
    · refine x_aload_n (pc := 22) g rfl 0 rfl dX10_whyNoPlace_22 ?_
      refine x_getR (pc := 23) g sh_103 fl_X10_112 rfl dX10_whyNoPlace_23 ?_
      refine x_iload_n (pc := 26) g rfl 1 rfl dX10_whyNoPlace_26 ?_
      refine x_iald (pc := 27) g sh_135 (by decide) dX10_whyNoPlace_27 (fun v3 => ?_)
      refine x_if_lt (pc := 28) (tgt := 34) g (by decide) dX10_whyNoPlace_28 ?_ ?_
      · refine x_iload_n (pc := 34) g rfl 2 rfl dX10_whyNoPlace_34 ?_
        refine x_iconst (pc := 35) (v := (0 : Int32)) g (by decide) dX10_whyNoPlace_35 ?_
        refine x_aload_n (pc := 36) g rfl 0 rfl dX10_whyNoPlace_36 ?_
        refine x_getR (pc := 37) g sh_103 fl_X10_115 rfl dX10_whyNoPlace_37 ?_
        refine x_iload_n (pc := 40) g rfl 1 rfl dX10_whyNoPlace_40 ?_
        refine x_iald (pc := 41) g sh_136 (by decide) dX10_whyNoPlace_41 (fun v4 => ?_)
        refine x_iconst (pc := 42) (v := (1 : Int32)) g (by decide) dX10_whyNoPlace_42 ?_
        refine x_isub (pc := 43) g dX10_whyNoPlace_43 ?_
        refine x_callSI (pc := 44) (As := [.int a1, .int (0 : Int32), .int (v4 - (1 : Int32))]) g (mc_X10_in a1 (0 : Int32) (v4 - (1 : Int32))) cw_X10_in lk_X10_131 rfl ⟨Nat.le_of_ble_eq_true rfl, Nat.le_of_ble_eq_true rfl⟩ rfl (Nat.le_of_ble_eq_true rfl) dX10_whyNoPlace_44 (fun v5 σ2 => ?_)
        refine x_if_eq (pc := 47) (tgt := 54) g (by decide) dX10_whyNoPlace_47 ?_ ?_
        · refine x_bipush (pc := 54) (v := (-13 : Int32)) g (by decide) dX10_whyNoPlace_54 ?_
          exact x_ireturn (pc := 56) g hrt dX10_whyNoPlace_56
        · refine x_iconst (pc := 50) (v := (0 : Int32)) g (by decide) dX10_whyNoPlace_50 ?_
          refine x_goto (pc := 51) (tgt := 56) g (by decide) dX10_whyNoPlace_51 ?_
          exact x_ireturn (pc := 56) g hrt dX10_whyNoPlace_56
      · refine x_bipush (pc := 31) (v := (-12 : Int32)) g (by decide) dX10_whyNoPlace_31 ?_
        exact x_ireturn (pc := 33) g hrt dX10_whyNoPlace_33
    · refine x_bipush (pc := 19) (v := (-11 : Int32)) g (by decide) dX10_whyNoPlace_19 ?_
      exact x_ireturn (pc := 21) g hrt dX10_whyNoPlace_21
  · refine x_iconst (pc := 7) (v := (-1 : Int32)) g (by decide) dX10_whyNoPlace_7 ?_
    exact x_ireturn (pc := 8) g hrt dX10_whyNoPlace_8
def F_X10_put (a0 : Int32) (a1 : Int32) (a2 : Int64) (σ0 : Sx) : Option (Int32 × Sx) := clx (F_X10_whyNoPlace a0 a1 σ0) (fun v1 σ1 => (if 0 ≤ v1 then aIx 135 6 a0 σ1 (fun v2 => nmx (((-2 : Int32) - v2)) (fun v3 => nmx (fun (y1 : Int64) (σ2 : Sx) => sLx 137 360 (((60 : Int32) * a0) + a1) y1 σ2 (fun σ3 => some ((1 : Int32), σ3))) (fun (j95 : Int64 → Sx → Option (Int32 × Sx)) => (if v3 = 0 then j95 a2.toInt32.toInt8.toInt32.toInt64 σ1 else (if v3 = (1 : Int32) then j95 a2.toInt32.toInt16.toInt32.toInt64 σ1 else (if v3 = (2 : Int32) then j95 a2.toInt32.toInt64 σ1 else (if v3 = (3 : Int32) then j95 a2 σ1 else (if (lg_cmp a2 (0 : Int64)) = 0 then j95 (0 : Int64) σ1 else j95 (1 : Int64) σ1)))))))) else some (v1, σ1)))
set_option maxRecDepth 100000 in
set_option maxHeartbeats 4000000 in
theorem mc_X10_put {D : va_G} {al : Nat → Nat} {cA : Nat → ClassId} {ba : Nat} (a0 : Int32) (a1 : Int32) (a2 : Int64) : MCx D al cA ba yX10_put cX10_put 7 (some .int) 3 64 rvI [.ref (al 103), .int a0, .int a1, .long a2] (F_X10_put a0 a1 a2) := by
  refine MCx_of (by decide +kernel) (Nat.le_of_ble_eq_true rfl) ?_
  intro p l e s m args below meth c σ0 g hrt
  unfold F_X10_put
  refine x_lv (lv' := [(0, .ref (al 103)), (1, .int a0), (2, .int a1), (3, .long a2)]) [0, 1, 2, 3] rfl ?_
  refine x_aload_n (pc := 0) g rfl 0 rfl dX10_put_0 ?_
  refine x_iload_n (pc := 1) g rfl 1 rfl dX10_put_1 ?_
  refine x_iload_n (pc := 2) g rfl 2 rfl dX10_put_2 ?_
  refine x_callVI (pc := 3) (As := [.int a0, .int a1]) g sh_103 (mc_X10_whyNoPlace a0 a1) cw_X10_whyNoPlace lk_X10_409 rfl ⟨Nat.le_of_ble_eq_true rfl, Nat.le_of_ble_eq_true rfl⟩ rfl (Nat.le_of_ble_eq_true rfl) dX10_put_3 (fun v1 σ1 => ?_)
  refine x_istore (pc := 6) (lv' := [(5, .int v1), (0, .ref (al 103)), (1, .int a0), (2, .int a1), (3, .long a2)]) g (by decide) rfl dX10_put_6 ?_
  refine x_iload (pc := 8) g 0 rfl dX10_put_8 ?_
  refine x_if_ge (pc := 10) (tgt := 16) g (by decide) dX10_put_10 ?_ ?_
  · refine x_bipush (pc := 16) (v := (-2 : Int32)) g (by decide) dX10_put_16 ?_
    refine x_aload_n (pc := 18) g rfl 1 rfl dX10_put_18 ?_
    refine x_getR (pc := 19) g sh_103 fl_X10_112 rfl dX10_put_19 ?_
    refine x_iload_n (pc := 22) g rfl 2 rfl dX10_put_22 ?_
    refine x_iald (pc := 23) g sh_135 (by decide) dX10_put_23 (fun v2 => ?_)
    refine x_isub (pc := 24) g dX10_put_24 ?_
    refine x_nm (fun v3 => ?_)
    refine x_istore (pc := 25) (lv' := [(6, .int v3), (5, .int v1), (0, .ref (al 103)), (1, .int a0), (2, .int a1), (3, .long a2)]) g (by decide) rfl dX10_put_25 ?_
    refine x_aload_n (pc := 27) g rfl 2 rfl dX10_put_27 ?_
    refine x_getR (pc := 28) g sh_103 fl_X10_118 rfl dX10_put_28 ?_
    refine x_bipush (pc := 31) (v := (60 : Int32)) g (by decide) dX10_put_31 ?_
    refine x_iload_n (pc := 33) g rfl 3 rfl dX10_put_33 ?_
    refine x_imul (pc := 34) g dX10_put_34 ?_
    refine x_iload_n (pc := 35) g rfl 4 rfl dX10_put_35 ?_
    refine x_iadd (pc := 36) g dX10_put_36 ?_
    refine x_iload (pc := 37) g 0 rfl dX10_put_37 ?_
    refine x_jn (fun (j95 : Int64 → Sx → Option (Int32 × Sx)) => ∀ (y1 : Int64) (σ2 : Sx), XTx p l e { frames := 3, cells := 0, slots := 0, locals := 64 } s m args below meth c D al cA ba 7 (MQx rvI D al cA ba below args s) 0 0 95 [] [.long y1, .int (((60 : Int32) * a0) + a1), .ref (al 137)] σ2 (j95 y1 σ2)) (fun y1 σ2 => ?_) (fun j95 hj95 => ?_)
    · refine x_last (pc := 95) g sh_137 (by decide) dX10_put_95 (fun σ3 => ?_)
      refine x_iconst (pc := 96) (v := (1 : Int32)) g (by decide) dX10_put_96 ?_
      exact x_ireturn (pc := 97) g hrt dX10_put_97
    · refine x_if_ne (pc := 39) (tgt := 49) g (by decide) dX10_put_39 ?_ ?_
      · refine x_iload (pc := 49) g 0 rfl dX10_put_49 ?_
        refine x_iconst (pc := 51) (v := (1 : Int32)) g (by decide) dX10_put_51 ?_
        refine x_icmp_ne (pc := 52) (tgt := 62) g (by decide) dX10_put_52 ?_ ?_
        · refine x_iload (pc := 62) g 0 rfl dX10_put_62 ?_
          refine x_iconst (pc := 64) (v := (2 : Int32)) g (by decide) dX10_put_64 ?_
          refine x_icmp_ne (pc := 65) (tgt := 74) g (by decide) dX10_put_65 ?_ ?_
          · refine x_iload (pc := 74) g 0 rfl dX10_put_74 ?_
            refine x_iconst (pc := 76) (v := (3 : Int32)) g (by decide) dX10_put_76 ?_
            refine x_icmp_ne (pc := 77) (tgt := 84) g (by decide) dX10_put_77 ?_ ?_
            · refine x_lload_n (pc := 84) g rfl 5 rfl dX10_put_84 ?_
              refine x_lconst (pc := 85) (v := (0 : Int64)) g (by decide) dX10_put_85 ?_
              refine x_lcmp (pc := 86) g dX10_put_86 ?_
              refine x_if_eq (pc := 87) (tgt := 94) g (by decide) dX10_put_87 ?_ ?_
              · refine x_lconst (pc := 94) (v := (0 : Int64)) g (by decide) dX10_put_94 ?_
                refine x_lv [] rfl ?_
                exact hj95 (0 : Int64) σ1
              · refine x_lconst (pc := 90) (v := (1 : Int64)) g (by decide) dX10_put_90 ?_
                refine x_goto (pc := 91) (tgt := 95) g (by decide) dX10_put_91 ?_
                refine x_lv [] rfl ?_
                exact hj95 (1 : Int64) σ1
            · refine x_lload_n (pc := 80) g rfl 5 rfl dX10_put_80 ?_
              refine x_goto (pc := 81) (tgt := 95) g (by decide) dX10_put_81 ?_
              refine x_lv [] rfl ?_
              exact hj95 a2 σ1
          · refine x_lload_n (pc := 68) g rfl 5 rfl dX10_put_68 ?_
            refine x_l2i (pc := 69) g dX10_put_69 ?_
            refine x_i2l (pc := 70) g dX10_put_70 ?_
            refine x_goto (pc := 71) (tgt := 95) g (by decide) dX10_put_71 ?_
            refine x_lv [] rfl ?_
            exact hj95 a2.toInt32.toInt64 σ1
        · refine x_lload_n (pc := 55) g rfl 5 rfl dX10_put_55 ?_
          refine x_l2i (pc := 56) g dX10_put_56 ?_
          refine x_i2s (pc := 57) g dX10_put_57 ?_
          refine x_i2l (pc := 58) g dX10_put_58 ?_
          refine x_goto (pc := 59) (tgt := 95) g (by decide) dX10_put_59 ?_
          refine x_lv [] rfl ?_
          exact hj95 a2.toInt32.toInt16.toInt32.toInt64 σ1
      · refine x_lload_n (pc := 42) g rfl 5 rfl dX10_put_42 ?_
        refine x_l2i (pc := 43) g dX10_put_43 ?_
        refine x_i2b (pc := 44) g dX10_put_44 ?_
        refine x_i2l (pc := 45) g dX10_put_45 ?_
        refine x_goto (pc := 46) (tgt := 95) g (by decide) dX10_put_46 ?_
        refine x_lv [] rfl ?_
        exact hj95 a2.toInt32.toInt8.toInt32.toInt64 σ1
  · refine x_iload (pc := 13) g 0 rfl dX10_put_13 ?_
    exact x_ireturn (pc := 15) g hrt dX10_put_15
def F_X10_element (a0 : Int32) (a1 : Int32) (σ0 : Sx) : Option (Int64 × Sx) := clx (F_X10_whyNoPlace a0 a1 σ0) (fun v1 σ1 => (if 0 ≤ v1 then aLx 137 360 (((60 : Int32) * a0) + a1) σ1 (fun z1 => some (z1, σ1)) else some ((-9223372036854775808 : Int64), σ1)))
set_option maxRecDepth 100000 in
set_option maxHeartbeats 4000000 in
theorem mc_X10_element {D : va_G} {al : Nat → Nat} {cA : Nat → ClassId} {ba : Nat} (a0 : Int32) (a1 : Int32) : MCx D al cA ba yX10_element cX10_element 3 (some .long) 3 64 rvL [.ref (al 103), .int a0, .int a1] (F_X10_element a0 a1) := by
  refine MCx_of (by decide +kernel) (Nat.le_of_ble_eq_true rfl) ?_
  intro p l e s m args below meth c σ0 g hrt
  unfold F_X10_element
  refine x_lv (lv' := [(0, .ref (al 103)), (1, .int a0), (2, .int a1)]) [0, 1, 2] rfl ?_
  refine x_aload_n (pc := 0) g rfl 0 rfl dX10_element_0 ?_
  refine x_iload_n (pc := 1) g rfl 1 rfl dX10_element_1 ?_
  refine x_iload_n (pc := 2) g rfl 2 rfl dX10_element_2 ?_
  refine x_callVI (pc := 3) (As := [.int a0, .int a1]) g sh_103 (mc_X10_whyNoPlace a0 a1) cw_X10_whyNoPlace lk_X10_409 rfl ⟨Nat.le_of_ble_eq_true rfl, Nat.le_of_ble_eq_true rfl⟩ rfl (Nat.le_of_ble_eq_true rfl) dX10_element_3 (fun v1 σ1 => ?_)
  refine x_if_ge (pc := 6) (tgt := 15) g (by decide) dX10_element_6 ?_ ?_
  · refine x_aload_n (pc := 15) g rfl 0 rfl dX10_element_15 ?_
    refine x_getR (pc := 16) g sh_103 fl_X10_118 rfl dX10_element_16 ?_
    refine x_bipush (pc := 19) (v := (60 : Int32)) g (by decide) dX10_element_19 ?_
    refine x_iload_n (pc := 21) g rfl 1 rfl dX10_element_21 ?_
    refine x_imul (pc := 22) g dX10_element_22 ?_
    refine x_iload_n (pc := 23) g rfl 2 rfl dX10_element_23 ?_
    refine x_iadd (pc := 24) g dX10_element_24 ?_
    refine x_lald (pc := 25) g sh_137 (by decide) dX10_element_25 (fun z1 => ?_)
    exact x_lreturn (pc := 26) g hrt dX10_element_26
  · refine x_ldc2 (pc := 9) (v := (-9223372036854775808 : Int64)) g ct_X10_414 dX10_element_9 ?_
    refine x_goto (pc := 12) (tgt := 26) g (by decide) dX10_element_12 ?_
    exact x_lreturn (pc := 26) g hrt dX10_element_26
def B_X10_shift_L150 (N : Nat) (a2 : Int32) (a3 : Int32) (a4 : Int32) (r150 : Int32 → Sx → Option (Int32 × Sx)) (x1 : Int32) (σ4 : Sx) : Option (Int32 × Sx) := (if a4 ≤ x1 then some (a4, σ4) else aLx 138 60 x1 σ4 (fun z1 => sLx 137 360 ((((60 : Int32) * a2) + a3) + x1) z1 σ4 (fun σ5 => r150 (x1 + (1 : Int32)) σ5)))
def B_X10_shift_L113 (N : Nat) (a0 : Int32) (a1 : Int32) (a4 : Int32) (j147 : Sx → Option (Int32 × Sx)) (r113 : Int32 → Sx → Option (Int32 × Sx)) (x2 : Int32) (σ6 : Sx) : Option (Int32 × Sx) := (if a4 ≤ x2 then j147 σ6 else aLx 137 360 ((((60 : Int32) * a0) + a1) + x2) σ6 (fun z2 => sLx 138 60 x2 z2 σ6 (fun σ7 => r113 (x2 + (1 : Int32)) σ7)))
def F_X10_shift (N : Nat) (a0 : Int32) (a1 : Int32) (a2 : Int32) (a3 : Int32) (a4 : Int32) (σ0 : Sx) : Option (Int32 × Sx) := clx (F_X10_isShelf a0 σ0) (fun v1 σ1 => (if v1 = 0 then some ((-1 : Int32), σ1) else clx (F_X10_isShelf a2 σ1) (fun v2 σ2 => (if v2 = 0 then some ((-1 : Int32), σ2) else aIx 135 6 a0 σ2 (fun v3 => (if v3 = (-1 : Int32) then some ((-11 : Int32), σ2) else aIx 135 6 a2 σ2 (fun v4 => (if v4 = (-1 : Int32) then some ((-11 : Int32), σ2) else aIx 135 6 a0 σ2 (fun v5 => (if 0 ≤ v5 then some ((-12 : Int32), σ2) else aIx 135 6 a0 σ2 (fun v6 => aIx 135 6 a2 σ2 (fun v7 => (if v6 = v7 then (if a4 < 0 then some ((-13 : Int32), σ2) else (if a1 < 0 then some ((-13 : Int32), σ2) else (if a3 < 0 then some ((-13 : Int32), σ2) else aIx 136 6 a0 σ2 (fun v8 => (if (v8 - a4) < a1 then some ((-13 : Int32), σ2) else aIx 136 6 a2 σ2 (fun v9 => (if a3 ≤ (v9 - a4) then nmx (fun (σ3 : Sx) => lpx1 (B_X10_shift_L150 N a2 a3 a4) N (0 : Int32) σ3) (fun (j147 : Sx → Option (Int32 × Sx)) => lpx1 (B_X10_shift_L113 N a0 a1 a4 j147) N (0 : Int32) σ2) else some ((-13 : Int32), σ2)))))))) else some ((-12 : Int32), σ2))))))))))))))
set_option maxRecDepth 100000 in
set_option maxHeartbeats 4000000 in
theorem mc_X10_shift {D : va_G} {al : Nat → Nat} {cA : Nat → ClassId} {ba : Nat} (N : Nat) (a0 : Int32) (a1 : Int32) (a2 : Int32) (a3 : Int32) (a4 : Int32) : MCx D al cA ba yX10_shift cX10_shift 7 (some .int) 2 42 rvI [.ref (al 103), .int a0, .int a1, .int a2, .int a3, .int a4] (F_X10_shift N a0 a1 a2 a3 a4) := by
  refine MCx_of (by decide +kernel) (Nat.le_of_ble_eq_true rfl) ?_
  intro p l e s m args below meth c σ0 g hrt
  unfold F_X10_shift
  refine x_lv (lv' := [(0, .ref (al 103)), (1, .int a0), (2, .int a1), (3, .int a2), (4, .int a3), (5, .int a4)]) [0, 1, 2, 3, 4, 5] rfl ?_
  refine x_iload_n (pc := 0) g rfl 1 rfl dX10_shift_0 ?_
  refine x_callSI (pc := 1) (As := [.int a0]) g (mc_X10_isShelf a0) cw_X10_isShelf lk_X10_139 rfl ⟨Nat.le_of_ble_eq_true rfl, Nat.le_of_ble_eq_true rfl⟩ rfl (Nat.le_of_ble_eq_true rfl) dX10_shift_1 (fun v1 σ1 => ?_)
  refine x_if_eq (pc := 4) (tgt := 14) g (by decide) dX10_shift_4 ?_ ?_
  · refine x_iconst (pc := 14) (v := (-1 : Int32)) g (by decide) dX10_shift_14 ?_
    exact x_ireturn (pc := 15) g hrt dX10_shift_15
  · refine x_iload_n (pc := 7) g rfl 3 rfl dX10_shift_7 ?_
    refine x_callSI (pc := 8) (As := [.int a2]) g (mc_X10_isShelf a2) cw_X10_isShelf lk_X10_139 rfl ⟨Nat.le_of_ble_eq_true rfl, Nat.le_of_ble_eq_true rfl⟩ rfl (Nat.le_of_ble_eq_true rfl) dX10_shift_8 (fun v2 σ2 => ?_)
    refine x_if_ne (pc := 11) (tgt := 16) g (by decide) dX10_shift_11 ?_ ?_
    · refine x_aload_n (pc := 16) g rfl 0 rfl dX10_shift_16 ?_
      refine x_getR (pc := 17) g sh_103 fl_X10_112 rfl dX10_shift_17 ?_
      refine x_iload_n (pc := 20) g rfl 1 rfl dX10_shift_20 ?_
      refine x_iald (pc := 21) g sh_135 (by decide) dX10_shift_21 (fun v3 => ?_)
      refine x_iconst (pc := 22) (v := (-1 : Int32)) g (by decide) dX10_shift_22 ?_
      refine x_icmp_eq (pc := 23) (tgt := 36) g (by decide) dX10_shift_23 ?_ ?_
      · refine x_bipush (pc := 36) (v := (-11 : Int32)) g (by decide) dX10_shift_36 ?_
        exact x_ireturn (pc := 38) g hrt dX10_shift_38
      · refine x_aload_n (pc := 26) g rfl 0 rfl dX10_shift_26 ?_
        refine x_getR (pc := 27) g sh_103 fl_X10_112 rfl dX10_shift_27 ?_
        refine x_iload_n (pc := 30) g rfl 3 rfl dX10_shift_30 ?_
        refine x_iald (pc := 31) g sh_135 (by decide) dX10_shift_31 (fun v4 => ?_)
        refine x_iconst (pc := 32) (v := (-1 : Int32)) g (by decide) dX10_shift_32 ?_
        refine x_icmp_ne (pc := 33) (tgt := 39) g (by decide) dX10_shift_33 ?_ ?_
        · refine x_aload_n (pc := 39) g rfl 0 rfl dX10_shift_39 ?_
          refine x_getR (pc := 40) g sh_103 fl_X10_112 rfl dX10_shift_40 ?_
          refine x_iload_n (pc := 43) g rfl 1 rfl dX10_shift_43 ?_
          refine x_iald (pc := 44) g sh_135 (by decide) dX10_shift_44 (fun v5 => ?_)
          refine x_if_ge (pc := 45) (tgt := 63) g (by decide) dX10_shift_45 ?_ ?_
          · refine x_bipush (pc := 63) (v := (-12 : Int32)) g (by decide) dX10_shift_63 ?_
            exact x_ireturn (pc := 65) g hrt dX10_shift_65
          · refine x_aload_n (pc := 48) g rfl 0 rfl dX10_shift_48 ?_
            refine x_getR (pc := 49) g sh_103 fl_X10_112 rfl dX10_shift_49 ?_
            refine x_iload_n (pc := 52) g rfl 1 rfl dX10_shift_52 ?_
            refine x_iald (pc := 53) g sh_135 (by decide) dX10_shift_53 (fun v6 => ?_)
            refine x_aload_n (pc := 54) g rfl 0 rfl dX10_shift_54 ?_
            refine x_getR (pc := 55) g sh_103 fl_X10_112 rfl dX10_shift_55 ?_
            refine x_iload_n (pc := 58) g rfl 3 rfl dX10_shift_58 ?_
            refine x_iald (pc := 59) g sh_135 (by decide) dX10_shift_59 (fun v7 => ?_)
            refine x_icmp_eq (pc := 60) (tgt := 66) g (by decide) dX10_shift_60 ?_ ?_
            · refine x_iload (pc := 66) g 5 rfl dX10_shift_66 ?_
              refine x_if_lt (pc := 68) (tgt := 107) g (by decide) dX10_shift_68 ?_ ?_
              · refine x_bipush (pc := 107) (v := (-13 : Int32)) g (by decide) dX10_shift_107 ?_
                exact x_ireturn (pc := 109) g hrt dX10_shift_109
              · refine x_iload_n (pc := 71) g rfl 2 rfl dX10_shift_71 ?_
                refine x_if_lt (pc := 72) (tgt := 107) g (by decide) dX10_shift_72 ?_ ?_
                · refine x_bipush (pc := 107) (v := (-13 : Int32)) g (by decide) dX10_shift_107 ?_
                  exact x_ireturn (pc := 109) g hrt dX10_shift_109
                · refine x_iload (pc := 75) g 4 rfl dX10_shift_75 ?_
                  refine x_if_lt (pc := 77) (tgt := 107) g (by decide) dX10_shift_77 ?_ ?_
                  · refine x_bipush (pc := 107) (v := (-13 : Int32)) g (by decide) dX10_shift_107 ?_
                    exact x_ireturn (pc := 109) g hrt dX10_shift_109
                  · refine x_iload_n (pc := 80) g rfl 2 rfl dX10_shift_80 ?_
                    refine x_aload_n (pc := 81) g rfl 0 rfl dX10_shift_81 ?_
                    refine x_getR (pc := 82) g sh_103 fl_X10_115 rfl dX10_shift_82 ?_
                    refine x_iload_n (pc := 85) g rfl 1 rfl dX10_shift_85 ?_
                    refine x_iald (pc := 86) g sh_136 (by decide) dX10_shift_86 (fun v8 => ?_)
                    refine x_iload (pc := 87) g 5 rfl dX10_shift_87 ?_
                    refine x_isub (pc := 89) g dX10_shift_89 ?_
                    refine x_icmp_gt (pc := 90) (tgt := 107) g (by decide) dX10_shift_90 ?_ ?_
                    · refine x_bipush (pc := 107) (v := (-13 : Int32)) g (by decide) dX10_shift_107 ?_
                      exact x_ireturn (pc := 109) g hrt dX10_shift_109
                    · refine x_iload (pc := 93) g 4 rfl dX10_shift_93 ?_
                      refine x_aload_n (pc := 95) g rfl 0 rfl dX10_shift_95 ?_
                      refine x_getR (pc := 96) g sh_103 fl_X10_115 rfl dX10_shift_96 ?_
                      refine x_iload_n (pc := 99) g rfl 3 rfl dX10_shift_99 ?_
                      refine x_iald (pc := 100) g sh_136 (by decide) dX10_shift_100 (fun v9 => ?_)
                      refine x_iload (pc := 101) g 5 rfl dX10_shift_101 ?_
                      refine x_isub (pc := 103) g dX10_shift_103 ?_
                      refine x_icmp_le (pc := 104) (tgt := 110) g (by decide) dX10_shift_104 ?_ ?_
                      · refine x_iconst (pc := 110) (v := (0 : Int32)) g (by decide) dX10_shift_110 ?_
                        refine x_istore (pc := 111) (lv' := [(6, .int (0 : Int32)), (0, .ref (al 103)), (1, .int a0), (2, .int a1), (3, .int a2), (4, .int a3), (5, .int a4)]) g (by decide) rfl dX10_shift_111 ?_
                        refine x_jn (fun (j147 : Sx → Option (Int32 × Sx)) => ∀ (σ3 : Sx), XTx p l e { frames := 2, cells := 0, slots := 0, locals := 42 } s m args below meth c D al cA ba 7 (MQx rvI D al cA ba below args s) 0 0 147 [(0, .ref (al 103)), (3, .int a2), (4, .int a3), (5, .int a4)] [] σ3 (j147 σ3)) (fun σ3 => ?_) (fun j147 hj147 => ?_)
                        · refine x_iconst (pc := 147) (v := (0 : Int32)) g (by decide) dX10_shift_147 ?_
                          refine x_istore (pc := 148) (lv' := [(6, .int (0 : Int32)), (0, .ref (al 103)), (3, .int a2), (4, .int a3), (5, .int a4)]) g (by decide) rfl dX10_shift_148 ?_
                          refine x_lv [1, 2, 3, 4, 0] rfl ?_
                          refine lpx1_ind (fun (x1 : Int32) (σ4 : Sx) (K : Option (Int32 × Sx)) => XTx p l e { frames := 2, cells := 0, slots := 0, locals := 42 } s m args below meth c D al cA ba 7 (MQx rvI D al cA ba below args s) 0 0 150 [(0, .ref (al 103)), (3, .int a2), (4, .int a3), (5, .int a4), (6, .int x1)] [] σ4 (K)) (fun _ _ => x_no) (fun r150 hr150 x1 σ4 => ?_) N (0 : Int32) σ3
                          show XTx p l e { frames := 2, cells := 0, slots := 0, locals := 42 } s m args below meth c D al cA ba 7 (MQx rvI D al cA ba below args s) 0 0 150 [(0, .ref (al 103)), (3, .int a2), (4, .int a3), (5, .int a4), (6, .int x1)] [] σ4 (B_X10_shift_L150 N a2 a3 a4 r150 x1 σ4)
                          unfold B_X10_shift_L150
                          refine x_iload (pc := 150) g 4 rfl dX10_shift_150 ?_
                          refine x_iload (pc := 152) g 3 rfl dX10_shift_152 ?_
                          refine x_icmp_ge (pc := 154) (tgt := 185) g (by decide) dX10_shift_154 ?_ ?_
                          · refine x_iload (pc := 185) g 3 rfl dX10_shift_185 ?_
                            exact x_ireturn (pc := 187) g hrt dX10_shift_187
                          · refine x_aload_n (pc := 157) g rfl 0 rfl dX10_shift_157 ?_
                            refine x_getR (pc := 158) g sh_103 fl_X10_118 rfl dX10_shift_158 ?_
                            refine x_bipush (pc := 161) (v := (60 : Int32)) g (by decide) dX10_shift_161 ?_
                            refine x_iload_n (pc := 163) g rfl 1 rfl dX10_shift_163 ?_
                            refine x_imul (pc := 164) g dX10_shift_164 ?_
                            refine x_iload (pc := 165) g 2 rfl dX10_shift_165 ?_
                            refine x_iadd (pc := 167) g dX10_shift_167 ?_
                            refine x_iload (pc := 168) g 4 rfl dX10_shift_168 ?_
                            refine x_iadd (pc := 170) g dX10_shift_170 ?_
                            refine x_aload_n (pc := 171) g rfl 0 rfl dX10_shift_171 ?_
                            refine x_getR (pc := 172) g sh_103 fl_X10_122 rfl dX10_shift_172 ?_
                            refine x_iload (pc := 175) g 4 rfl dX10_shift_175 ?_
                            refine x_lald (pc := 177) g sh_138 (by decide) dX10_shift_177 (fun z1 => ?_)
                            refine x_last (pc := 178) g sh_137 (by decide) dX10_shift_178 (fun σ5 => ?_)
                            refine x_iinc (pc := 179) (v := (x1 + (1 : Int32))) (lv' := [(6, .int (x1 + (1 : Int32))), (0, .ref (al 103)), (3, .int a2), (4, .int a3), (5, .int a4)]) g 4 rfl (by rfl) (by decide) rfl dX10_shift_179 ?_
                            refine x_goto (pc := 182) (tgt := 150) g (by decide) dX10_shift_182 ?_
                            refine x_lv [1, 2, 3, 4, 0] rfl ?_
                            exact hr150 (x1 + (1 : Int32)) σ5
                        · refine x_lv [1, 2, 3, 4, 5, 6, 0] rfl ?_
                          refine lpx1_ind (fun (x2 : Int32) (σ6 : Sx) (K : Option (Int32 × Sx)) => XTx p l e { frames := 2, cells := 0, slots := 0, locals := 42 } s m args below meth c D al cA ba 7 (MQx rvI D al cA ba below args s) 0 0 113 [(0, .ref (al 103)), (1, .int a0), (2, .int a1), (3, .int a2), (4, .int a3), (5, .int a4), (6, .int x2)] [] σ6 (K)) (fun _ _ => x_no) (fun r113 hr113 x2 σ6 => ?_) N (0 : Int32) σ2
                          show XTx p l e { frames := 2, cells := 0, slots := 0, locals := 42 } s m args below meth c D al cA ba 7 (MQx rvI D al cA ba below args s) 0 0 113 [(0, .ref (al 103)), (1, .int a0), (2, .int a1), (3, .int a2), (4, .int a3), (5, .int a4), (6, .int x2)] [] σ6 (B_X10_shift_L113 N a0 a1 a4 j147 r113 x2 σ6)
                          unfold B_X10_shift_L113
                          refine x_iload (pc := 113) g 6 rfl dX10_shift_113 ?_
                          refine x_iload (pc := 115) g 5 rfl dX10_shift_115 ?_
                          refine x_icmp_ge (pc := 117) (tgt := 147) g (by decide) dX10_shift_117 ?_ ?_
                          · refine x_lv [0, 3, 4, 5] rfl ?_
                            exact hj147 σ6
                          · refine x_aload_n (pc := 120) g rfl 0 rfl dX10_shift_120 ?_
                            refine x_getR (pc := 121) g sh_103 fl_X10_122 rfl dX10_shift_121 ?_
                            refine x_iload (pc := 124) g 6 rfl dX10_shift_124 ?_
                            refine x_aload_n (pc := 126) g rfl 0 rfl dX10_shift_126 ?_
                            refine x_getR (pc := 127) g sh_103 fl_X10_118 rfl dX10_shift_127 ?_
                            refine x_bipush (pc := 130) (v := (60 : Int32)) g (by decide) dX10_shift_130 ?_
                            refine x_iload_n (pc := 132) g rfl 1 rfl dX10_shift_132 ?_
                            refine x_imul (pc := 133) g dX10_shift_133 ?_
                            refine x_iload_n (pc := 134) g rfl 2 rfl dX10_shift_134 ?_
                            refine x_iadd (pc := 135) g dX10_shift_135 ?_
                            refine x_iload (pc := 136) g 6 rfl dX10_shift_136 ?_
                            refine x_iadd (pc := 138) g dX10_shift_138 ?_
                            refine x_lald (pc := 139) g sh_137 (by decide) dX10_shift_139 (fun z2 => ?_)
                            refine x_last (pc := 140) g sh_138 (by decide) dX10_shift_140 (fun σ7 => ?_)
                            refine x_iinc (pc := 141) (v := (x2 + (1 : Int32))) (lv' := [(6, .int (x2 + (1 : Int32))), (0, .ref (al 103)), (1, .int a0), (2, .int a1), (3, .int a2), (4, .int a3), (5, .int a4)]) g 6 rfl (by rfl) (by decide) rfl dX10_shift_141 ?_
                            refine x_goto (pc := 144) (tgt := 113) g (by decide) dX10_shift_144 ?_
                            refine x_lv [1, 2, 3, 4, 5, 6, 0] rfl ?_
                            exact hr113 (x2 + (1 : Int32)) σ7
                      · refine x_bipush (pc := 107) (v := (-13 : Int32)) g (by decide) dX10_shift_107 ?_
                        exact x_ireturn (pc := 109) g hrt dX10_shift_109
            · refine x_bipush (pc := 63) (v := (-12 : Int32)) g (by decide) dX10_shift_63 ?_
              exact x_ireturn (pc := 65) g hrt dX10_shift_65
        · refine x_bipush (pc := 36) (v := (-11 : Int32)) g (by decide) dX10_shift_36 ?_
          exact x_ireturn (pc := 38) g hrt dX10_shift_38
    · refine x_iconst (pc := 14) (v := (-1 : Int32)) g (by decide) dX10_shift_14 ?_
      exact x_ireturn (pc := 15) g hrt dX10_shift_15
def F_X10_taken (a0 : Int32) (a1 : Int32) (σ0 : Sx) : Option (Int32 × Sx) := clx (F_X10_isShelf a0 σ0) (fun v1 σ1 => (if v1 = 0 then some ((-1 : Int32), σ1) else clx (F_X10_in a1 (0 : Int32) (7 : Int32) σ1) (fun v2 σ2 => (if v2 = 0 then some ((-1 : Int32), σ2) else aIx 135 6 a0 σ2 (fun v3 => (if v3 = (-1 : Int32) then some ((-11 : Int32), σ2) else aIx 135 6 a0 σ2 (fun v4 => (if v4 < 0 then some ((-12 : Int32), σ2) else aIx 135 6 a0 σ2 (fun v5 => aIx 133 50 v5 σ2 (fun v6 => clx (F_X10_isUnder v6 a1 σ2) (fun v7 σ3 => (if v7 = 0 then some ((-12 : Int32), σ3) else aIx 135 6 a0 σ3 (fun v8 => aIx 133 50 v8 σ3 (fun v9 => some (v9, σ3)))))))))))))))
set_option maxRecDepth 100000 in
set_option maxHeartbeats 4000000 in
theorem mc_X10_taken {D : va_G} {al : Nat → Nat} {cA : Nat → ClassId} {ba : Nat} (a0 : Int32) (a1 : Int32) : MCx D al cA ba yX10_taken cX10_taken 3 (some .int) 2 42 rvI [.ref (al 103), .int a0, .int a1] (F_X10_taken a0 a1) := by
  refine MCx_of (by decide +kernel) (Nat.le_of_ble_eq_true rfl) ?_
  intro p l e s m args below meth c σ0 g hrt
  unfold F_X10_taken
  refine x_lv (lv' := [(0, .ref (al 103)), (1, .int a0), (2, .int a1)]) [0, 1, 2] rfl ?_
  refine x_iload_n (pc := 0) g rfl 1 rfl dX10_taken_0 ?_
  refine x_callSI (pc := 1) (As := [.int a0]) g (mc_X10_isShelf a0) cw_X10_isShelf lk_X10_139 rfl ⟨Nat.le_of_ble_eq_true rfl, Nat.le_of_ble_eq_true rfl⟩ rfl (Nat.le_of_ble_eq_true rfl) dX10_taken_1 (fun v1 σ1 => ?_)
  refine x_if_eq (pc := 4) (tgt := 17) g (by decide) dX10_taken_4 ?_ ?_
  · refine x_iconst (pc := 17) (v := (-1 : Int32)) g (by decide) dX10_taken_17 ?_
    exact x_ireturn (pc := 18) g hrt dX10_taken_18
  · refine x_iload_n (pc := 7) g rfl 2 rfl dX10_taken_7 ?_
    refine x_iconst (pc := 8) (v := (0 : Int32)) g (by decide) dX10_taken_8 ?_
    refine x_bipush (pc := 9) (v := (7 : Int32)) g (by decide) dX10_taken_9 ?_
    refine x_callSI (pc := 11) (As := [.int a1, .int (0 : Int32), .int (7 : Int32)]) g (mc_X10_in a1 (0 : Int32) (7 : Int32)) cw_X10_in lk_X10_131 rfl ⟨Nat.le_of_ble_eq_true rfl, Nat.le_of_ble_eq_true rfl⟩ rfl (Nat.le_of_ble_eq_true rfl) dX10_taken_11 (fun v2 σ2 => ?_)
    refine x_if_ne (pc := 14) (tgt := 19) g (by decide) dX10_taken_14 ?_ ?_
    · refine x_aload_n (pc := 19) g rfl 0 rfl dX10_taken_19 ?_
      refine x_getR (pc := 20) g sh_103 fl_X10_112 rfl dX10_taken_20 ?_
      refine x_iload_n (pc := 23) g rfl 1 rfl dX10_taken_23 ?_
      refine x_iald (pc := 24) g sh_135 (by decide) dX10_taken_24 (fun v3 => ?_)
      refine x_iconst (pc := 25) (v := (-1 : Int32)) g (by decide) dX10_taken_25 ?_
      refine x_icmp_ne (pc := 26) (tgt := 32) g (by decide) dX10_taken_26 ?_ ?_
      · refine x_aload_n (pc := 32) g rfl 0 rfl dX10_taken_32 ?_
        refine x_getR (pc := 33) g sh_103 fl_X10_112 rfl dX10_taken_33 ?_
        refine x_iload_n (pc := 36) g rfl 1 rfl dX10_taken_36 ?_
        refine x_iald (pc := 37) g sh_135 (by decide) dX10_taken_37 (fun v4 => ?_)
        refine x_if_lt (pc := 38) (tgt := 73) g (by decide) dX10_taken_38 ?_ ?_
        · refine x_bipush (pc := 73) (v := (-12 : Int32)) g (by decide) dX10_taken_73 ?_
          exact x_ireturn (pc := 75) g hrt dX10_taken_75
        · refine x_aload_n (pc := 41) g rfl 0 rfl dX10_taken_41 ?_
          refine x_getR (pc := 42) g sh_103 fl_X10_106 rfl dX10_taken_42 ?_
          refine x_aload_n (pc := 45) g rfl 0 rfl dX10_taken_45 ?_
          refine x_getR (pc := 46) g sh_103 fl_X10_112 rfl dX10_taken_46 ?_
          refine x_iload_n (pc := 49) g rfl 1 rfl dX10_taken_49 ?_
          refine x_iald (pc := 50) g sh_135 (by decide) dX10_taken_50 (fun v5 => ?_)
          refine x_iald (pc := 51) g sh_133 (by decide) dX10_taken_51 (fun v6 => ?_)
          refine x_iload_n (pc := 52) g rfl 2 rfl dX10_taken_52 ?_
          refine x_callSI (pc := 53) (As := [.int v6, .int a1]) g (mc_X10_isUnder v6 a1) cw_X10_isUnder lk_X10_370 rfl ⟨Nat.le_of_ble_eq_true rfl, Nat.le_of_ble_eq_true rfl⟩ rfl (Nat.le_of_ble_eq_true rfl) dX10_taken_53 (fun v7 σ3 => ?_)
          refine x_if_eq (pc := 56) (tgt := 73) g (by decide) dX10_taken_56 ?_ ?_
          · refine x_bipush (pc := 73) (v := (-12 : Int32)) g (by decide) dX10_taken_73 ?_
            exact x_ireturn (pc := 75) g hrt dX10_taken_75
          · refine x_aload_n (pc := 59) g rfl 0 rfl dX10_taken_59 ?_
            refine x_getR (pc := 60) g sh_103 fl_X10_106 rfl dX10_taken_60 ?_
            refine x_aload_n (pc := 63) g rfl 0 rfl dX10_taken_63 ?_
            refine x_getR (pc := 64) g sh_103 fl_X10_112 rfl dX10_taken_64 ?_
            refine x_iload_n (pc := 67) g rfl 1 rfl dX10_taken_67 ?_
            refine x_iald (pc := 68) g sh_135 (by decide) dX10_taken_68 (fun v8 => ?_)
            refine x_iald (pc := 69) g sh_133 (by decide) dX10_taken_69 (fun v9 => ?_)
            refine x_goto (pc := 70) (tgt := 75) g (by decide) dX10_taken_70 ?_
            exact x_ireturn (pc := 75) g hrt dX10_taken_75
      · refine x_bipush (pc := 29) (v := (-11 : Int32)) g (by decide) dX10_taken_29 ?_
        exact x_ireturn (pc := 31) g hrt dX10_taken_31
    · refine x_iconst (pc := 17) (v := (-1 : Int32)) g (by decide) dX10_taken_17 ?_
      exact x_ireturn (pc := 18) g hrt dX10_taken_18
