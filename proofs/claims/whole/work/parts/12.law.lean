def F_X4_pop (σ0 : Sx) : Option (Int32 × Sx) := (if 0 < (siI σ0 2 8) then pIx 2 8 ((siI σ0 2 8) - (1 : Int32)) σ0 (fun σ1 => aIx 82 121 (siI σ1 2 8) σ1 (fun v1 => some (v1, σ1))) else some ((0 : Int32), σ0))
set_option maxRecDepth 100000 in
set_option maxHeartbeats 4000000 in
theorem mc_X4_pop {D : va_G} {al : Nat → Nat} {cA : Nat → ClassId} {ba : Nat}  : MCx D al cA ba yX4_pop cX4_pop 1 (some .int) 0 0 rvI [.ref (al 2)] (F_X4_pop ) := by
  refine MCx_of (by decide +kernel) (Nat.le_of_ble_eq_true rfl) ?_
  intro p l e s m args below meth c σ0 g hrt
  unfold F_X4_pop
  refine x_lv (lv' := [(0, .ref (al 2))]) [0] rfl ?_
  refine x_aload_n (pc := 0) g rfl 0 rfl dX4_pop_0 ?_
  refine x_getI (pc := 1) g sh_2 fl_X4_88 rfl dX4_pop_1 ?_
  refine x_if_gt (pc := 4) (tgt := 9) g (by decide) dX4_pop_4 ?_ ?_
  · refine x_aload_n (pc := 9) g rfl 0 rfl dX4_pop_9 ?_
    refine x_dup (pc := 10) g rfl dX4_pop_10 ?_
    refine x_getI (pc := 11) g sh_2 fl_X4_88 rfl dX4_pop_11 ?_
    refine x_iconst (pc := 14) (v := (1 : Int32)) g (by decide) dX4_pop_14 ?_
    refine x_isub (pc := 15) g dX4_pop_15 ?_
    refine x_putI (pc := 16) g sh_2 fl_X4_88 rfl dX4_pop_16 (fun σ1 => ?_)
    refine x_aload_n (pc := 19) g rfl 0 rfl dX4_pop_19 ?_
    refine x_getR (pc := 20) g sh_2 fl_X4_19 rfl dX4_pop_20 ?_
    refine x_aload_n (pc := 23) g rfl 0 rfl dX4_pop_23 ?_
    refine x_getI (pc := 24) g sh_2 fl_X4_88 rfl dX4_pop_24 ?_
    refine x_iald (pc := 27) g sh_82 (by decide) dX4_pop_27 (fun v1 => ?_)
    exact x_ireturn (pc := 28) g hrt dX4_pop_28
  · refine x_iconst (pc := 7) (v := (0 : Int32)) g (by decide) dX4_pop_7 ?_
    exact x_ireturn (pc := 8) g hrt dX4_pop_8
def B_X4_endOfLine_L2 (N : Nat) (j30 : Sx → Option (Int32 × Sx)) (r2 : Int32 → Sx → Option (Int32 × Sx)) (x1 : Int32) (σ2 : Sx) : Option (Int32 × Sx) := (if (siI σ2 2 6) ≤ x1 then j30 σ2 else aIx 81 121 x1 σ2 (fun v1 => (if v1 = (10059 : Int32) then some (x1, σ2) else r2 (x1 + (1 : Int32)) σ2)))
def F_X4_endOfLine (N : Nat) (a0 : Int32) (σ0 : Sx) : Option (Int32 × Sx) := nmx (fun (σ1 : Sx) => some ((siI σ1 2 6), σ1)) (fun (j30 : Sx → Option (Int32 × Sx)) => lpx1 (B_X4_endOfLine_L2 N j30) N a0 σ0)
set_option maxRecDepth 100000 in
set_option maxHeartbeats 4000000 in
theorem mc_X4_endOfLine {D : va_G} {al : Nat → Nat} {cA : Nat → ClassId} {ba : Nat} (N : Nat) (a0 : Int32) : MCx D al cA ba yX4_endOfLine cX4_endOfLine 3 (some .int) 0 0 rvI [.ref (al 2), .int a0] (F_X4_endOfLine N a0) := by
  refine MCx_of (by decide +kernel) (Nat.le_of_ble_eq_true rfl) ?_
  intro p l e s m args below meth c σ0 g hrt
  unfold F_X4_endOfLine
  refine x_lv (lv' := [(0, .ref (al 2)), (1, .int a0)]) [0, 1] rfl ?_
  refine x_iload_n (pc := 0) g rfl 1 rfl dX4_endOfLine_0 ?_
  refine x_istore_n (pc := 1) (lv' := [(2, .int a0), (0, .ref (al 2)), (1, .int a0)]) g rfl (by decide) rfl dX4_endOfLine_1 ?_
  refine x_jn (fun (j30 : Sx → Option (Int32 × Sx)) => ∀ (σ1 : Sx), XTx p l e { frames := 0, cells := 0, slots := 0, locals := 0 } s m args below meth c D al cA ba 3 (MQx rvI D al cA ba below args s) 0 0 30 [(0, .ref (al 2))] [] σ1 (j30 σ1)) (fun σ1 => ?_) (fun j30 hj30 => ?_)
  · refine x_aload_n (pc := 30) g rfl 0 rfl dX4_endOfLine_30 ?_
    refine x_getI (pc := 31) g sh_2 fl_X4_22 rfl dX4_endOfLine_31 ?_
    exact x_ireturn (pc := 34) g hrt dX4_endOfLine_34
  · refine x_lv [1, 0] rfl ?_
    refine lpx1_ind (fun (x1 : Int32) (σ2 : Sx) (K : Option (Int32 × Sx)) => XTx p l e { frames := 0, cells := 0, slots := 0, locals := 0 } s m args below meth c D al cA ba 3 (MQx rvI D al cA ba below args s) 0 0 2 [(0, .ref (al 2)), (2, .int x1)] [] σ2 (K)) (fun _ _ => x_no) (fun r2 hr2 x1 σ2 => ?_) N a0 σ0
    show XTx p l e { frames := 0, cells := 0, slots := 0, locals := 0 } s m args below meth c D al cA ba 3 (MQx rvI D al cA ba below args s) 0 0 2 [(0, .ref (al 2)), (2, .int x1)] [] σ2 (B_X4_endOfLine_L2 N j30 r2 x1 σ2)
    unfold B_X4_endOfLine_L2
    refine x_iload_n (pc := 2) g rfl 1 rfl dX4_endOfLine_2 ?_
    refine x_aload_n (pc := 3) g rfl 0 rfl dX4_endOfLine_3 ?_
    refine x_getI (pc := 4) g sh_2 fl_X4_22 rfl dX4_endOfLine_4 ?_
    refine x_icmp_ge (pc := 7) (tgt := 30) g (by decide) dX4_endOfLine_7 ?_ ?_
    · refine x_lv [0] rfl ?_
      exact hj30 σ2
    · refine x_aload_n (pc := 10) g rfl 0 rfl dX4_endOfLine_10 ?_
      refine x_getR (pc := 11) g sh_2 fl_X4_16 rfl dX4_endOfLine_11 ?_
      refine x_iload_n (pc := 14) g rfl 1 rfl dX4_endOfLine_14 ?_
      refine x_iald (pc := 15) g sh_81 (by decide) dX4_endOfLine_15 (fun v1 => ?_)
      refine x_sipush (pc := 16) (v := (10059 : Int32)) g (by decide) dX4_endOfLine_16 ?_
      refine x_icmp_ne (pc := 19) (tgt := 24) g (by decide) dX4_endOfLine_19 ?_ ?_
      · refine x_iinc (pc := 24) (v := (x1 + (1 : Int32))) (lv' := [(2, .int (x1 + (1 : Int32))), (0, .ref (al 2))]) g 1 rfl (by rfl) (by decide) rfl dX4_endOfLine_24 ?_
        refine x_goto (pc := 27) (tgt := 2) g (by decide) dX4_endOfLine_27 ?_
        refine x_lv [1, 0] rfl ?_
        exact hr2 (x1 + (1 : Int32)) σ2
      · refine x_iload_n (pc := 22) g rfl 1 rfl dX4_endOfLine_22 ?_
        exact x_ireturn (pc := 23) g hrt dX4_endOfLine_23
def F_X4_push (a0 : Int32) (σ0 : Sx) : Option (Unit × Sx) := (if (Int32.ofNat 121) ≤ (siI σ0 2 8) then some ((), σ0) else sIx 82 121 (siI σ0 2 8) a0 σ0 (fun σ1 => pIx 2 8 ((siI σ1 2 8) + (1 : Int32)) σ1 (fun σ2 => some ((), σ2))))
set_option maxRecDepth 100000 in
set_option maxHeartbeats 4000000 in
theorem mc_X4_push {D : va_G} {al : Nat → Nat} {cA : Nat → ClassId} {ba : Nat} (a0 : Int32) : MCx D al cA ba yX4_push cX4_push 2 none 0 0 rvU [.ref (al 2), .int a0] (F_X4_push a0) := by
  refine MCx_of (by decide +kernel) (Nat.le_of_ble_eq_true rfl) ?_
  intro p l e s m args below meth c σ0 g hrt
  unfold F_X4_push
  refine x_lv (lv' := [(0, .ref (al 2)), (1, .int a0)]) [0, 1] rfl ?_
  refine x_aload_n (pc := 0) g rfl 0 rfl dX4_push_0 ?_
  refine x_getI (pc := 1) g sh_2 fl_X4_88 rfl dX4_push_1 ?_
  refine x_aload_n (pc := 4) g rfl 0 rfl dX4_push_4 ?_
  refine x_getR (pc := 5) g sh_2 fl_X4_19 rfl dX4_push_5 ?_
  refine x_alen (pc := 8) (t := 0) g sh_82 (by decide) rfl dX4_push_8 ?_
  refine x_icmp_ge (pc := 9) (tgt := 32) g (by decide) dX4_push_9 ?_ ?_
  · exact x_return (pc := 32) g hrt dX4_push_32
  · refine x_aload_n (pc := 12) g rfl 0 rfl dX4_push_12 ?_
    refine x_getR (pc := 13) g sh_2 fl_X4_19 rfl dX4_push_13 ?_
    refine x_aload_n (pc := 16) g rfl 0 rfl dX4_push_16 ?_
    refine x_getI (pc := 17) g sh_2 fl_X4_88 rfl dX4_push_17 ?_
    refine x_iload_n (pc := 20) g rfl 1 rfl dX4_push_20 ?_
    refine x_iast (pc := 21) g sh_82 (by decide) dX4_push_21 (fun σ1 => ?_)
    refine x_aload_n (pc := 22) g rfl 0 rfl dX4_push_22 ?_
    refine x_dup (pc := 23) g rfl dX4_push_23 ?_
    refine x_getI (pc := 24) g sh_2 fl_X4_88 rfl dX4_push_24 ?_
    refine x_iconst (pc := 27) (v := (1 : Int32)) g (by decide) dX4_push_27 ?_
    refine x_iadd (pc := 28) g dX4_push_28 ?_
    refine x_putI (pc := 29) g sh_2 fl_X4_88 rfl dX4_push_29 (fun σ2 => ?_)
    exact x_return (pc := 32) g hrt dX4_push_32
def F_X4_isName (a0 : Int32) (σ0 : Sx) : Option (Int32 × Sx) := (if a0 = (110 : Int32) then some ((1 : Int32), σ0) else (if a0 = (115 : Int32) then some ((1 : Int32), σ0) else (if a0 = (107 : Int32) then some ((1 : Int32), σ0) else (if a0 = (108 : Int32) then some ((1 : Int32), σ0) else (if a0 = (119 : Int32) then some ((1 : Int32), σ0) else (if a0 = (109 : Int32) then some ((1 : Int32), σ0) else some ((0 : Int32), σ0)))))))
set_option maxRecDepth 100000 in
set_option maxHeartbeats 4000000 in
theorem mc_X4_isName {D : va_G} {al : Nat → Nat} {cA : Nat → ClassId} {ba : Nat} (a0 : Int32) : MCx D al cA ba yX4_isName cX4_isName 1 (some .boolean) 0 0 rvI [.int a0] (F_X4_isName a0) := by
  refine MCx_of (by decide +kernel) (Nat.le_of_ble_eq_true rfl) ?_
  intro p l e s m args below meth c σ0 g hrt
  unfold F_X4_isName
  refine x_lv (lv' := [(0, .int a0)]) [0] rfl ?_
  refine x_iload_n (pc := 0) g rfl 0 rfl dX4_isName_0 ?_
  refine x_bipush (pc := 1) (v := (110 : Int32)) g (by decide) dX4_isName_1 ?_
  refine x_icmp_eq (pc := 3) (tgt := 36) g (by decide) dX4_isName_3 ?_ ?_
  · refine x_iconst (pc := 36) (v := (1 : Int32)) g (by decide) dX4_isName_36 ?_
    refine x_goto (pc := 37) (tgt := 41) g (by decide) dX4_isName_37 ?_
    exact x_zreturn (pc := 41) g hrt (by decide) dX4_isName_41
  · refine x_iload_n (pc := 6) g rfl 0 rfl dX4_isName_6 ?_
    refine x_bipush (pc := 7) (v := (115 : Int32)) g (by decide) dX4_isName_7 ?_
    refine x_icmp_eq (pc := 9) (tgt := 36) g (by decide) dX4_isName_9 ?_ ?_
    · refine x_iconst (pc := 36) (v := (1 : Int32)) g (by decide) dX4_isName_36 ?_
      refine x_goto (pc := 37) (tgt := 41) g (by decide) dX4_isName_37 ?_
      exact x_zreturn (pc := 41) g hrt (by decide) dX4_isName_41
    · refine x_iload_n (pc := 12) g rfl 0 rfl dX4_isName_12 ?_
      refine x_bipush (pc := 13) (v := (107 : Int32)) g (by decide) dX4_isName_13 ?_
      refine x_icmp_eq (pc := 15) (tgt := 36) g (by decide) dX4_isName_15 ?_ ?_
      · refine x_iconst (pc := 36) (v := (1 : Int32)) g (by decide) dX4_isName_36 ?_
        refine x_goto (pc := 37) (tgt := 41) g (by decide) dX4_isName_37 ?_
        exact x_zreturn (pc := 41) g hrt (by decide) dX4_isName_41
      · refine x_iload_n (pc := 18) g rfl 0 rfl dX4_isName_18 ?_
        refine x_bipush (pc := 19) (v := (108 : Int32)) g (by decide) dX4_isName_19 ?_
        refine x_icmp_eq (pc := 21) (tgt := 36) g (by decide) dX4_isName_21 ?_ ?_
        · refine x_iconst (pc := 36) (v := (1 : Int32)) g (by decide) dX4_isName_36 ?_
          refine x_goto (pc := 37) (tgt := 41) g (by decide) dX4_isName_37 ?_
          exact x_zreturn (pc := 41) g hrt (by decide) dX4_isName_41
        · refine x_iload_n (pc := 24) g rfl 0 rfl dX4_isName_24 ?_
          refine x_bipush (pc := 25) (v := (119 : Int32)) g (by decide) dX4_isName_25 ?_
          refine x_icmp_eq (pc := 27) (tgt := 36) g (by decide) dX4_isName_27 ?_ ?_
          · refine x_iconst (pc := 36) (v := (1 : Int32)) g (by decide) dX4_isName_36 ?_
            refine x_goto (pc := 37) (tgt := 41) g (by decide) dX4_isName_37 ?_
            exact x_zreturn (pc := 41) g hrt (by decide) dX4_isName_41
          · refine x_iload_n (pc := 30) g rfl 0 rfl dX4_isName_30 ?_
            refine x_bipush (pc := 31) (v := (109 : Int32)) g (by decide) dX4_isName_31 ?_
            refine x_icmp_ne (pc := 33) (tgt := 40) g (by decide) dX4_isName_33 ?_ ?_
            · refine x_iconst (pc := 40) (v := (0 : Int32)) g (by decide) dX4_isName_40 ?_
              exact x_zreturn (pc := 41) g hrt (by decide) dX4_isName_41
            · refine x_iconst (pc := 36) (v := (1 : Int32)) g (by decide) dX4_isName_36 ?_
              refine x_goto (pc := 37) (tgt := 41) g (by decide) dX4_isName_37 ?_
              exact x_zreturn (pc := 41) g hrt (by decide) dX4_isName_41
def F_X4_named (a0 : Int32) (a1 : Int32) (a2 : Int32) (a3 : Int32) (a4 : Int32) (a5 : Int32) (a6 : Int32) (σ0 : Sx) : Option (Int32 × Sx) := (if a0 = (107 : Int32) then some (a3, σ0) else (if a0 = (108 : Int32) then some (a4, σ0) else (if a0 = (109 : Int32) then some (a6, σ0) else (if a0 = (110 : Int32) then some (a1, σ0) else (if a0 = (111 : Int32) then some (a1, σ0) else (if a0 = (112 : Int32) then some (a1, σ0) else (if a0 = (113 : Int32) then some (a1, σ0) else (if a0 = (114 : Int32) then some (a1, σ0) else (if a0 = (115 : Int32) then some (a2, σ0) else (if a0 = (116 : Int32) then some (a1, σ0) else (if a0 = (117 : Int32) then some (a1, σ0) else (if a0 = (118 : Int32) then some (a1, σ0) else (if a0 = (119 : Int32) then some (a5, σ0) else some (a1, σ0))))))))))))))
set_option maxRecDepth 100000 in
set_option maxHeartbeats 4000000 in
theorem mc_X4_named {D : va_G} {al : Nat → Nat} {cA : Nat → ClassId} {ba : Nat} (a0 : Int32) (a1 : Int32) (a2 : Int32) (a3 : Int32) (a4 : Int32) (a5 : Int32) (a6 : Int32) : MCx D al cA ba yX4_named cX4_named 7 (some .int) 0 0 rvI [.int a0, .int a1, .int a2, .int a3, .int a4, .int a5, .int a6] (F_X4_named a0 a1 a2 a3 a4 a5 a6) := by
  refine MCx_of (by decide +kernel) (Nat.le_of_ble_eq_true rfl) ?_
  intro p l e s m args below meth c σ0 g hrt
  unfold F_X4_named
  refine x_lv (lv' := [(0, .int a0), (1, .int a1), (2, .int a2), (3, .int a3), (4, .int a4), (5, .int a5), (6, .int a6)]) [0, 1, 2, 3, 4, 5, 6] rfl ?_
  refine x_iload_n (pc := 0) g rfl 0 rfl dX4_named_0 ?_
  refine x_eqs ?_ (fun hs1 => ?_)
  · refine x_tabIn (pc := 1) (tgt := 70) (off := 69) g (by decide) (by decide) dX4_named_1 ?_
    refine x_iload_n (pc := 70) g rfl 3 rfl dX4_named_70 ?_
    exact x_ireturn (pc := 71) g hrt dX4_named_71
  refine x_eqs ?_ (fun hs2 => ?_)
  · refine x_tabIn (pc := 1) (tgt := 72) (off := 71) g (by decide) (by decide) dX4_named_1 ?_
    refine x_iload (pc := 72) g 4 rfl dX4_named_72 ?_
    exact x_ireturn (pc := 74) g hrt dX4_named_74
  refine x_eqs ?_ (fun hs3 => ?_)
  · refine x_tabIn (pc := 1) (tgt := 78) (off := 77) g (by decide) (by decide) dX4_named_1 ?_
    refine x_iload (pc := 78) g 6 rfl dX4_named_78 ?_
    exact x_ireturn (pc := 80) g hrt dX4_named_80
  refine x_eqs ?_ (fun hs4 => ?_)
  · refine x_tabIn (pc := 1) (tgt := 81) (off := 80) g (by decide) (by decide) dX4_named_1 ?_
    refine x_iload_n (pc := 81) g rfl 1 rfl dX4_named_81 ?_
    exact x_ireturn (pc := 82) g hrt dX4_named_82
  refine x_eqs ?_ (fun hs5 => ?_)
  · refine x_tabIn (pc := 1) (tgt := 81) (off := 80) g (by decide) (by decide) dX4_named_1 ?_
    refine x_iload_n (pc := 81) g rfl 1 rfl dX4_named_81 ?_
    exact x_ireturn (pc := 82) g hrt dX4_named_82
  refine x_eqs ?_ (fun hs6 => ?_)
  · refine x_tabIn (pc := 1) (tgt := 81) (off := 80) g (by decide) (by decide) dX4_named_1 ?_
    refine x_iload_n (pc := 81) g rfl 1 rfl dX4_named_81 ?_
    exact x_ireturn (pc := 82) g hrt dX4_named_82
  refine x_eqs ?_ (fun hs7 => ?_)
  · refine x_tabIn (pc := 1) (tgt := 81) (off := 80) g (by decide) (by decide) dX4_named_1 ?_
    refine x_iload_n (pc := 81) g rfl 1 rfl dX4_named_81 ?_
    exact x_ireturn (pc := 82) g hrt dX4_named_82
  refine x_eqs ?_ (fun hs8 => ?_)
  · refine x_tabIn (pc := 1) (tgt := 81) (off := 80) g (by decide) (by decide) dX4_named_1 ?_
    refine x_iload_n (pc := 81) g rfl 1 rfl dX4_named_81 ?_
    exact x_ireturn (pc := 82) g hrt dX4_named_82
  refine x_eqs ?_ (fun hs9 => ?_)
  · refine x_tabIn (pc := 1) (tgt := 68) (off := 67) g (by decide) (by decide) dX4_named_1 ?_
    refine x_iload_n (pc := 68) g rfl 2 rfl dX4_named_68 ?_
    exact x_ireturn (pc := 69) g hrt dX4_named_69
  refine x_eqs ?_ (fun hs10 => ?_)
  · refine x_tabIn (pc := 1) (tgt := 81) (off := 80) g (by decide) (by decide) dX4_named_1 ?_
    refine x_iload_n (pc := 81) g rfl 1 rfl dX4_named_81 ?_
    exact x_ireturn (pc := 82) g hrt dX4_named_82
  refine x_eqs ?_ (fun hs11 => ?_)
  · refine x_tabIn (pc := 1) (tgt := 81) (off := 80) g (by decide) (by decide) dX4_named_1 ?_
    refine x_iload_n (pc := 81) g rfl 1 rfl dX4_named_81 ?_
    exact x_ireturn (pc := 82) g hrt dX4_named_82
  refine x_eqs ?_ (fun hs12 => ?_)
  · refine x_tabIn (pc := 1) (tgt := 81) (off := 80) g (by decide) (by decide) dX4_named_1 ?_
    refine x_iload_n (pc := 81) g rfl 1 rfl dX4_named_81 ?_
    exact x_ireturn (pc := 82) g hrt dX4_named_82
  refine x_eqs ?_ (fun hs13 => ?_)
  · refine x_tabIn (pc := 1) (tgt := 75) (off := 74) g (by decide) (by decide) dX4_named_1 ?_
    refine x_iload (pc := 75) g 5 rfl dX4_named_75 ?_
    exact x_ireturn (pc := 77) g hrt dX4_named_77
  refine x_tabOut (pc := 1) (tgt := 81) g (fun i h1 h2 => ?_) (by decide) dX4_named_1 ?_
  · rcases (show i = 107 ∨ i = 108 ∨ i = 109 ∨ i = 110 ∨ i = 111 ∨ i = 112 ∨ i = 113 ∨ i = 114 ∨ i = 115 ∨ i = 116 ∨ i = 117 ∨ i = 118 ∨ i = 119 by omega) with rfl | rfl | rfl | rfl | rfl | rfl | rfl | rfl | rfl | rfl | rfl | rfl | rfl
    · exact hs1
    · exact hs2
    · exact hs3
    · exact hs4
    · exact hs5
    · exact hs6
    · exact hs7
    · exact hs8
    · exact hs9
    · exact hs10
    · exact hs11
    · exact hs12
    · exact hs13
  · refine x_iload_n (pc := 81) g rfl 1 rfl dX4_named_81 ?_
    exact x_ireturn (pc := 82) g hrt dX4_named_82
def F_X4_prefixing (a0 : Int32) (a1 : Int32) (σ0 : Sx) : Option (Int32 × Sx) := (if a0 = (126 : Int32) then some ((-a1), σ0) else (if a1 = 0 then some ((1 : Int32), σ0) else some ((0 : Int32), σ0)))
set_option maxRecDepth 100000 in
set_option maxHeartbeats 4000000 in
theorem mc_X4_prefixing {D : va_G} {al : Nat → Nat} {cA : Nat → ClassId} {ba : Nat} (a0 : Int32) (a1 : Int32) : MCx D al cA ba yX4_prefixing cX4_prefixing 2 (some .int) 0 0 rvI [.int a0, .int a1] (F_X4_prefixing a0 a1) := by
  refine MCx_of (by decide +kernel) (Nat.le_of_ble_eq_true rfl) ?_
  intro p l e s m args below meth c σ0 g hrt
  unfold F_X4_prefixing
  refine x_lv (lv' := [(0, .int a0), (1, .int a1)]) [0, 1] rfl ?_
  refine x_iload_n (pc := 0) g rfl 0 rfl dX4_prefixing_0 ?_
  refine x_bipush (pc := 1) (v := (126 : Int32)) g (by decide) dX4_prefixing_1 ?_
  refine x_icmp_ne (pc := 3) (tgt := 9) g (by decide) dX4_prefixing_3 ?_ ?_
  · refine x_iload_n (pc := 9) g rfl 1 rfl dX4_prefixing_9 ?_
    refine x_if_ne (pc := 10) (tgt := 17) g (by decide) dX4_prefixing_10 ?_ ?_
    · refine x_iconst (pc := 17) (v := (0 : Int32)) g (by decide) dX4_prefixing_17 ?_
      exact x_ireturn (pc := 18) g hrt dX4_prefixing_18
    · refine x_iconst (pc := 13) (v := (1 : Int32)) g (by decide) dX4_prefixing_13 ?_
      refine x_goto (pc := 14) (tgt := 18) g (by decide) dX4_prefixing_14 ?_
      exact x_ireturn (pc := 18) g hrt dX4_prefixing_18
  · refine x_iload_n (pc := 6) g rfl 1 rfl dX4_prefixing_6 ?_
    refine x_ineg (pc := 7) g dX4_prefixing_7 ?_
    exact x_ireturn (pc := 8) g hrt dX4_prefixing_8
def F_X4_joining (a0 : Int32) (a1 : Int32) (a2 : Int32) (σ0 : Sx) : Option (Int32 × Sx) := (if a0 = (38 : Int32) then (if a1 = 0 then some ((0 : Int32), σ0) else (if a2 = 0 then some ((0 : Int32), σ0) else some ((1 : Int32), σ0))) else (if a0 = (42 : Int32) then some ((a1 * a2), σ0) else (if a0 = (43 : Int32) then some ((a1 + a2), σ0) else (if a0 = (45 : Int32) then some ((a1 - a2), σ0) else (if a0 = (47 : Int32) then (if a2 = 0 then some ((0 : Int32), σ0) else gdx (¬ a2 = 0) (some ((a1 / a2), σ0))) else (if a0 = (60 : Int32) then (if a2 ≤ a1 then some ((0 : Int32), σ0) else some ((1 : Int32), σ0)) else (if a0 = (61 : Int32) then (if a1 = a2 then some ((1 : Int32), σ0) else some ((0 : Int32), σ0)) else (if a0 = (62 : Int32) then (if a1 ≤ a2 then some ((0 : Int32), σ0) else some ((1 : Int32), σ0)) else (if a0 = (124 : Int32) then (if a1 = 0 then (if a2 = 0 then some ((0 : Int32), σ0) else some ((1 : Int32), σ0)) else some ((1 : Int32), σ0)) else (if a2 = 0 then some ((0 : Int32), σ0) else gdx (¬ a2 = 0) (some ((jrem a1 a2), σ0))))))))))))
set_option maxRecDepth 100000 in
set_option maxHeartbeats 4000000 in
theorem mc_X4_joining {D : va_G} {al : Nat → Nat} {cA : Nat → ClassId} {ba : Nat} (a0 : Int32) (a1 : Int32) (a2 : Int32) : MCx D al cA ba yX4_joining cX4_joining 3 (some .int) 0 0 rvI [.int a0, .int a1, .int a2] (F_X4_joining a0 a1 a2) := by
  refine MCx_of (by decide +kernel) (Nat.le_of_ble_eq_true rfl) ?_
  intro p l e s m args below meth c σ0 g hrt
  unfold F_X4_joining
  refine x_lv (lv' := [(0, .int a0), (1, .int a1), (2, .int a2)]) [0, 1, 2] rfl ?_
  refine x_iload_n (pc := 0) g rfl 0 rfl dX4_joining_0 ?_
  refine x_eqs ?_ (fun hs1 => ?_)
  · refine x_look (pc := 1) (tgt := 98) (off := 97) g (by decide) (by decide) (by decide) dX4_joining_1 ?_
    refine x_iload_n (pc := 98) g rfl 1 rfl dX4_joining_98 ?_
    refine x_if_eq (pc := 99) (tgt := 110) g (by decide) dX4_joining_99 ?_ ?_
    · refine x_iconst (pc := 110) (v := (0 : Int32)) g (by decide) dX4_joining_110 ?_
      exact x_ireturn (pc := 111) g hrt dX4_joining_111
    · refine x_iload_n (pc := 102) g rfl 2 rfl dX4_joining_102 ?_
      refine x_if_eq (pc := 103) (tgt := 110) g (by decide) dX4_joining_103 ?_ ?_
      · refine x_iconst (pc := 110) (v := (0 : Int32)) g (by decide) dX4_joining_110 ?_
        exact x_ireturn (pc := 111) g hrt dX4_joining_111
      · refine x_iconst (pc := 106) (v := (1 : Int32)) g (by decide) dX4_joining_106 ?_
        refine x_goto (pc := 107) (tgt := 111) g (by decide) dX4_joining_107 ?_
        exact x_ireturn (pc := 111) g hrt dX4_joining_111
  refine x_eqs ?_ (fun hs2 => ?_)
  · refine x_look (pc := 1) (tgt := 153) (off := 152) g (by decide) (by decide) (by decide) dX4_joining_1 ?_
    refine x_iload_n (pc := 153) g rfl 1 rfl dX4_joining_153 ?_
    refine x_iload_n (pc := 154) g rfl 2 rfl dX4_joining_154 ?_
    refine x_imul (pc := 155) g dX4_joining_155 ?_
    exact x_ireturn (pc := 156) g hrt dX4_joining_156
  refine x_eqs ?_ (fun hs3 => ?_)
  · refine x_look (pc := 1) (tgt := 145) (off := 144) g (by decide) (by decide) (by decide) dX4_joining_1 ?_
    refine x_iload_n (pc := 145) g rfl 1 rfl dX4_joining_145 ?_
    refine x_iload_n (pc := 146) g rfl 2 rfl dX4_joining_146 ?_
    refine x_iadd (pc := 147) g dX4_joining_147 ?_
    exact x_ireturn (pc := 148) g hrt dX4_joining_148
  refine x_eqs ?_ (fun hs4 => ?_)
  · refine x_look (pc := 1) (tgt := 149) (off := 148) g (by decide) (by decide) (by decide) dX4_joining_1 ?_
    refine x_iload_n (pc := 149) g rfl 1 rfl dX4_joining_149 ?_
    refine x_iload_n (pc := 150) g rfl 2 rfl dX4_joining_150 ?_
    refine x_isub (pc := 151) g dX4_joining_151 ?_
    exact x_ireturn (pc := 152) g hrt dX4_joining_152
  refine x_eqs ?_ (fun hs5 => ?_)
  · refine x_look (pc := 1) (tgt := 157) (off := 156) g (by decide) (by decide) (by decide) dX4_joining_1 ?_
    refine x_iload_n (pc := 157) g rfl 2 rfl dX4_joining_157 ?_
    refine x_if_ne (pc := 158) (tgt := 165) g (by decide) dX4_joining_158 ?_ ?_
    · refine x_iload_n (pc := 165) g rfl 1 rfl dX4_joining_165 ?_
      refine x_iload_n (pc := 166) g rfl 2 rfl dX4_joining_166 ?_
      refine x_gd (fun hd1 => ?_)
      refine x_idiv (pc := 167) g hd1 dX4_joining_167 ?_
      exact x_ireturn (pc := 168) g hrt dX4_joining_168
    · refine x_iconst (pc := 161) (v := (0 : Int32)) g (by decide) dX4_joining_161 ?_
      refine x_goto (pc := 162) (tgt := 168) g (by decide) dX4_joining_162 ?_
      exact x_ireturn (pc := 168) g hrt dX4_joining_168
  refine x_eqs ?_ (fun hs6 => ?_)
  · refine x_look (pc := 1) (tgt := 112) (off := 111) g (by decide) (by decide) (by decide) dX4_joining_1 ?_
    refine x_iload_n (pc := 112) g rfl 1 rfl dX4_joining_112 ?_
    refine x_iload_n (pc := 113) g rfl 2 rfl dX4_joining_113 ?_
    refine x_icmp_ge (pc := 114) (tgt := 121) g (by decide) dX4_joining_114 ?_ ?_
    · refine x_iconst (pc := 121) (v := (0 : Int32)) g (by decide) dX4_joining_121 ?_
      exact x_ireturn (pc := 122) g hrt dX4_joining_122
    · refine x_iconst (pc := 117) (v := (1 : Int32)) g (by decide) dX4_joining_117 ?_
      refine x_goto (pc := 118) (tgt := 122) g (by decide) dX4_joining_118 ?_
      exact x_ireturn (pc := 122) g hrt dX4_joining_122
  refine x_eqs ?_ (fun hs7 => ?_)
  · refine x_look (pc := 1) (tgt := 123) (off := 122) g (by decide) (by decide) (by decide) dX4_joining_1 ?_
    refine x_iload_n (pc := 123) g rfl 1 rfl dX4_joining_123 ?_
    refine x_iload_n (pc := 124) g rfl 2 rfl dX4_joining_124 ?_
    refine x_icmp_ne (pc := 125) (tgt := 132) g (by decide) dX4_joining_125 ?_ ?_
    · refine x_iconst (pc := 132) (v := (0 : Int32)) g (by decide) dX4_joining_132 ?_
      exact x_ireturn (pc := 133) g hrt dX4_joining_133
    · refine x_iconst (pc := 128) (v := (1 : Int32)) g (by decide) dX4_joining_128 ?_
      refine x_goto (pc := 129) (tgt := 133) g (by decide) dX4_joining_129 ?_
      exact x_ireturn (pc := 133) g hrt dX4_joining_133
  refine x_eqs ?_ (fun hs8 => ?_)
  · refine x_look (pc := 1) (tgt := 134) (off := 133) g (by decide) (by decide) (by decide) dX4_joining_1 ?_
    refine x_iload_n (pc := 134) g rfl 1 rfl dX4_joining_134 ?_
    refine x_iload_n (pc := 135) g rfl 2 rfl dX4_joining_135 ?_
    refine x_icmp_le (pc := 136) (tgt := 143) g (by decide) dX4_joining_136 ?_ ?_
    · refine x_iconst (pc := 143) (v := (0 : Int32)) g (by decide) dX4_joining_143 ?_
      exact x_ireturn (pc := 144) g hrt dX4_joining_144
    · refine x_iconst (pc := 139) (v := (1 : Int32)) g (by decide) dX4_joining_139 ?_
      refine x_goto (pc := 140) (tgt := 144) g (by decide) dX4_joining_140 ?_
      exact x_ireturn (pc := 144) g hrt dX4_joining_144
  refine x_eqs ?_ (fun hs9 => ?_)
  · refine x_look (pc := 1) (tgt := 84) (off := 83) g (by decide) (by decide) (by decide) dX4_joining_1 ?_
    refine x_iload_n (pc := 84) g rfl 1 rfl dX4_joining_84 ?_
    refine x_if_ne (pc := 85) (tgt := 92) g (by decide) dX4_joining_85 ?_ ?_
    · refine x_iconst (pc := 92) (v := (1 : Int32)) g (by decide) dX4_joining_92 ?_
      refine x_goto (pc := 93) (tgt := 97) g (by decide) dX4_joining_93 ?_
      exact x_ireturn (pc := 97) g hrt dX4_joining_97
    · refine x_iload_n (pc := 88) g rfl 2 rfl dX4_joining_88 ?_
      refine x_if_eq (pc := 89) (tgt := 96) g (by decide) dX4_joining_89 ?_ ?_
      · refine x_iconst (pc := 96) (v := (0 : Int32)) g (by decide) dX4_joining_96 ?_
        exact x_ireturn (pc := 97) g hrt dX4_joining_97
      · refine x_iconst (pc := 92) (v := (1 : Int32)) g (by decide) dX4_joining_92 ?_
        refine x_goto (pc := 93) (tgt := 97) g (by decide) dX4_joining_93 ?_
        exact x_ireturn (pc := 97) g hrt dX4_joining_97
  refine x_look (pc := 1) (tgt := 169) g (by decide) (lk_dflt (fun q hq => ?_)) (by decide) dX4_joining_1 ?_
  · simp only [List.mem_cons, List.not_mem_nil, or_false] at hq
    rcases hq with rfl | rfl | rfl | rfl | rfl | rfl | rfl | rfl | rfl
    · exact lk_ne (k := 38) hs1 (by decide)
    · exact lk_ne (k := 42) hs2 (by decide)
    · exact lk_ne (k := 43) hs3 (by decide)
    · exact lk_ne (k := 45) hs4 (by decide)
    · exact lk_ne (k := 47) hs5 (by decide)
    · exact lk_ne (k := 60) hs6 (by decide)
    · exact lk_ne (k := 61) hs7 (by decide)
    · exact lk_ne (k := 62) hs8 (by decide)
    · exact lk_ne (k := 124) hs9 (by decide)
  · refine x_iload_n (pc := 169) g rfl 2 rfl dX4_joining_169 ?_
    refine x_if_ne (pc := 170) (tgt := 177) g (by decide) dX4_joining_170 ?_ ?_
    · refine x_iload_n (pc := 177) g rfl 1 rfl dX4_joining_177 ?_
      refine x_iload_n (pc := 178) g rfl 2 rfl dX4_joining_178 ?_
      refine x_gd (fun hd2 => ?_)
      refine x_irem (pc := 179) g hd2 dX4_joining_179 ?_
      exact x_ireturn (pc := 180) g hrt dX4_joining_180
    · refine x_iconst (pc := 173) (v := (0 : Int32)) g (by decide) dX4_joining_173 ?_
      refine x_goto (pc := 174) (tgt := 180) g (by decide) dX4_joining_174 ?_
      exact x_ireturn (pc := 180) g hrt dX4_joining_180
def B_X4_gives_L14 (N : Nat) (a0 : Int32) (a1 : Int32) (a2 : Int32) (a3 : Int32) (a4 : Int32) (v1 : Int32) (j43 : Sx → Option (Int32 × Sx)) (r14 : Int32 → Sx → Option (Int32 × Sx)) (x1 : Int32) (σ5 : Sx) : Option (Int32 × Sx) := (if (siI σ5 2 6) ≤ x1 then some ((0 : Int32), σ5) else aIx 81 121 x1 σ5 (fun v3 => nmx ((v3 - (10000 : Int32))) (fun v4 => (if v4 = (59 : Int32) then j43 σ5 else nmx (fun (x2 : Int32) (σ6 : Sx) => r14 (x2 + (1 : Int32)) σ6) (fun (j177 : Int32 → Sx → Option (Int32 × Sx)) => (if v4 = (63 : Int32) then clx (F_X4_pop  σ5) (fun v13 σ19 => nmx (fun (y1 : Int32) (σ20 : Sx) => j177 y1 σ20) (fun (j73 : Int32 → Sx → Option (Int32 × Sx)) => (if v13 = 0 then clx (F_X4_endOfLine N x1 σ19) (fun v14 σ21 => j73 v14 σ21) else j73 x1 σ19))) else (if 0 ≤ v4 then clx (F_X4_isName v4 σ5) (fun v5 σ7 => (if v5 = 0 then nmx (fun (σ8 : Sx) => clx (F_X4_pop  σ8) (fun v6 σ9 => clx (F_X4_prefixing v4 v6 σ9) (fun v7 σ10 => clx (F_X4_push v7 σ10) (fun _ σ11 => j177 x1 σ11)))) (fun (j140 : Sx → Option (Int32 × Sx)) => (if v4 = (33 : Int32) then j140 σ7 else (if v4 = (126 : Int32) then j140 σ7 else clx (F_X4_pop  σ7) (fun v8 σ12 => clx (F_X4_pop  σ12) (fun v9 σ13 => clx (F_X4_joining v4 v9 v8 σ13) (fun v10 σ14 => clx (F_X4_push v10 σ14) (fun _ σ15 => j177 x1 σ15))))))) else clx (F_X4_named v4 v1 a0 a1 a2 a3 a4 σ7) (fun v11 σ16 => clx (F_X4_push v11 σ16) (fun _ σ17 => j177 x1 σ17)))) else aIx 81 121 x1 σ5 (fun v12 => clx (F_X4_push v12 σ5) (fun _ σ18 => j177 x1 σ18)))))))))
def F_X4_gives (N : Nat) (a0 : Int32) (a1 : Int32) (a2 : Int32) (a3 : Int32) (a4 : Int32) (σ0 : Sx) : Option (Int32 × Sx) := clx (F_J6_bitCount_0f7a4 a0 σ0) (fun v1 σ1 => pIx 2 8 (0 : Int32) σ1 (fun σ2 => nmx (fun (σ3 : Sx) => clx (F_X4_pop  σ3) (fun v2 σ4 => some (v2, σ4))) (fun (j43 : Sx → Option (Int32 × Sx)) => lpx1 (B_X4_gives_L14 N a0 a1 a2 a3 a4 v1 j43) N (0 : Int32) σ2)))
set_option maxRecDepth 100000 in
set_option maxHeartbeats 4000000 in
theorem mc_X4_gives {D : va_G} {al : Nat → Nat} {cA : Nat → ClassId} {ba : Nat} (N : Nat) (a0 : Int32) (a1 : Int32) (a2 : Int32) (a3 : Int32) (a4 : Int32) : MCx D al cA ba yX4_gives cX4_gives 10 (some .int) 1 26 rvI [.ref (al 2), .int a0, .int a1, .int a2, .int a3, .int a4] (F_X4_gives N a0 a1 a2 a3 a4) := by
  refine MCx_of (by decide +kernel) (Nat.le_of_ble_eq_true rfl) ?_
  intro p l e s m args below meth c σ0 g hrt
  unfold F_X4_gives
  refine x_lv (lv' := [(0, .ref (al 2)), (1, .int a0), (2, .int a1), (3, .int a2), (4, .int a3), (5, .int a4)]) [0, 1, 2, 3, 4, 5] rfl ?_
  refine x_iload_n (pc := 0) g rfl 1 rfl dX4_gives_0 ?_
  refine x_callSI (pc := 1) (As := [.int a0]) g (mc_J6_bitCount_0f7a4 a0) cw_J6_bitCount_0f7a4 lk_X4_83 rfl ⟨Nat.le_of_ble_eq_true rfl, Nat.le_of_ble_eq_true rfl⟩ rfl (Nat.le_of_ble_eq_true rfl) dX4_gives_1 (fun v1 σ1 => ?_)
  refine x_istore (pc := 4) (lv' := [(6, .int v1), (0, .ref (al 2)), (1, .int a0), (2, .int a1), (3, .int a2), (4, .int a3), (5, .int a4)]) g (by decide) rfl dX4_gives_4 ?_
  refine x_aload_n (pc := 6) g rfl 1 rfl dX4_gives_6 ?_
  refine x_iconst (pc := 7) (v := (0 : Int32)) g (by decide) dX4_gives_7 ?_
  refine x_putI (pc := 8) g sh_2 fl_X4_88 rfl dX4_gives_8 (fun σ2 => ?_)
  refine x_iconst (pc := 11) (v := (0 : Int32)) g (by decide) dX4_gives_11 ?_
  refine x_istore (pc := 12) (lv' := [(7, .int (0 : Int32)), (6, .int v1), (0, .ref (al 2)), (1, .int a0), (2, .int a1), (3, .int a2), (4, .int a3), (5, .int a4)]) g (by decide) rfl dX4_gives_12 ?_
  refine x_jn (fun (j43 : Sx → Option (Int32 × Sx)) => ∀ (σ3 : Sx), XTx p l e { frames := 1, cells := 0, slots := 0, locals := 26 } s m args below meth c D al cA ba 10 (MQx rvI D al cA ba below args s) 0 0 43 [(0, .ref (al 2))] [] σ3 (j43 σ3)) (fun σ3 => ?_) (fun j43 hj43 => ?_)
  · refine x_aload_n (pc := 43) g rfl 0 rfl dX4_gives_43 ?_
    refine x_callVI (pc := 44) (As := []) g sh_2 (mc_X4_pop ) cw_X4_pop lk_X4_91 rfl ⟨Nat.le_of_ble_eq_true rfl, Nat.le_of_ble_eq_true rfl⟩ rfl (Nat.le_of_ble_eq_true rfl) dX4_gives_44 (fun v2 σ4 => ?_)
    exact x_ireturn (pc := 47) g hrt dX4_gives_47
  · refine x_lv [2, 3, 4, 5, 6, 7, 1, 0] rfl ?_
    refine lpx1_ind (fun (x1 : Int32) (σ5 : Sx) (K : Option (Int32 × Sx)) => XTx p l e { frames := 1, cells := 0, slots := 0, locals := 26 } s m args below meth c D al cA ba 10 (MQx rvI D al cA ba below args s) 0 0 14 [(0, .ref (al 2)), (1, .int a0), (2, .int a1), (3, .int a2), (4, .int a3), (5, .int a4), (6, .int v1), (7, .int x1)] [] σ5 (K)) (fun _ _ => x_no) (fun r14 hr14 x1 σ5 => ?_) N (0 : Int32) σ2
    show XTx p l e { frames := 1, cells := 0, slots := 0, locals := 26 } s m args below meth c D al cA ba 10 (MQx rvI D al cA ba below args s) 0 0 14 [(0, .ref (al 2)), (1, .int a0), (2, .int a1), (3, .int a2), (4, .int a3), (5, .int a4), (6, .int v1), (7, .int x1)] [] σ5 (B_X4_gives_L14 N a0 a1 a2 a3 a4 v1 j43 r14 x1 σ5)
    unfold B_X4_gives_L14
    refine x_iload (pc := 14) g 7 rfl dX4_gives_14 ?_
    refine x_aload_n (pc := 16) g rfl 0 rfl dX4_gives_16 ?_
    refine x_getI (pc := 17) g sh_2 fl_X4_22 rfl dX4_gives_17 ?_
    refine x_icmp_ge (pc := 20) (tgt := 183) g (by decide) dX4_gives_20 ?_ ?_
    · refine x_iconst (pc := 183) (v := (0 : Int32)) g (by decide) dX4_gives_183 ?_
      exact x_ireturn (pc := 184) g hrt dX4_gives_184
    · refine x_aload_n (pc := 23) g rfl 0 rfl dX4_gives_23 ?_
      refine x_getR (pc := 24) g sh_2 fl_X4_16 rfl dX4_gives_24 ?_
      refine x_iload (pc := 27) g 7 rfl dX4_gives_27 ?_
      refine x_iald (pc := 29) g sh_81 (by decide) dX4_gives_29 (fun v3 => ?_)
      refine x_sipush (pc := 30) (v := (10000 : Int32)) g (by decide) dX4_gives_30 ?_
      refine x_isub (pc := 33) g dX4_gives_33 ?_
      refine x_nm (fun v4 => ?_)
      refine x_istore (pc := 34) (lv' := [(8, .int v4), (0, .ref (al 2)), (1, .int a0), (2, .int a1), (3, .int a2), (4, .int a3), (5, .int a4), (6, .int v1), (7, .int x1)]) g (by decide) rfl dX4_gives_34 ?_
      refine x_iload (pc := 36) g 0 rfl dX4_gives_36 ?_
      refine x_bipush (pc := 38) (v := (59 : Int32)) g (by decide) dX4_gives_38 ?_
      refine x_icmp_ne (pc := 40) (tgt := 48) g (by decide) dX4_gives_40 ?_ ?_
      · refine x_iload (pc := 48) g 0 rfl dX4_gives_48 ?_
        refine x_bipush (pc := 50) (v := (63 : Int32)) g (by decide) dX4_gives_50 ?_
        refine x_jn (fun (j177 : Int32 → Sx → Option (Int32 × Sx)) => ∀ (x2 : Int32) (σ6 : Sx), XTx p l e { frames := 1, cells := 0, slots := 0, locals := 26 } s m args below meth c D al cA ba 10 (MQx rvI D al cA ba below args s) 0 0 177 [(0, .ref (al 2)), (1, .int a0), (2, .int a1), (3, .int a2), (4, .int a3), (5, .int a4), (6, .int v1), (7, .int x2)] [] σ6 (j177 x2 σ6)) (fun x2 σ6 => ?_) (fun j177 hj177 => ?_)
        · refine x_iinc (pc := 177) (v := (x2 + (1 : Int32))) (lv' := [(7, .int (x2 + (1 : Int32))), (0, .ref (al 2)), (1, .int a0), (2, .int a1), (3, .int a2), (4, .int a3), (5, .int a4), (6, .int v1)]) g 7 rfl (by rfl) (by decide) rfl dX4_gives_177 ?_
          refine x_goto (pc := 180) (tgt := 14) g (by decide) dX4_gives_180 ?_
          refine x_lv [1, 2, 3, 4, 5, 6, 7, 0] rfl ?_
          exact hr14 (x2 + (1 : Int32)) σ6
        · refine x_icmp_ne (pc := 52) (tgt := 78) g (by decide) dX4_gives_52 ?_ ?_
          · refine x_iload (pc := 78) g 0 rfl dX4_gives_78 ?_
            refine x_if_ge (pc := 80) (tgt := 97) g (by decide) dX4_gives_80 ?_ ?_
            · refine x_iload (pc := 97) g 0 rfl dX4_gives_97 ?_
              refine x_callSI (pc := 99) (As := [.int v4]) g (mc_X4_isName v4) cw_X4_isName lk_X4_74 rfl ⟨Nat.le_of_ble_eq_true rfl, Nat.le_of_ble_eq_true rfl⟩ rfl (Nat.le_of_ble_eq_true rfl) dX4_gives_99 (fun v5 σ7 => ?_)
              refine x_if_eq (pc := 102) (tgt := 126) g (by decide) dX4_gives_102 ?_ ?_
              · refine x_iload (pc := 126) g 0 rfl dX4_gives_126 ?_
                refine x_bipush (pc := 128) (v := (33 : Int32)) g (by decide) dX4_gives_128 ?_
                refine x_jn (fun (j140 : Sx → Option (Int32 × Sx)) => ∀ (σ8 : Sx), XTx p l e { frames := 1, cells := 0, slots := 0, locals := 26 } s m args below meth c D al cA ba 10 (MQx rvI D al cA ba below args s) 0 0 140 [(0, .ref (al 2)), (1, .int a0), (2, .int a1), (3, .int a2), (4, .int a3), (5, .int a4), (6, .int v1), (7, .int x1), (8, .int v4)] [] σ8 (j140 σ8)) (fun σ8 => ?_) (fun j140 hj140 => ?_)
                · refine x_aload_n (pc := 140) g rfl 0 rfl dX4_gives_140 ?_
                  refine x_iload (pc := 141) g 8 rfl dX4_gives_141 ?_
                  refine x_aload_n (pc := 143) g rfl 0 rfl dX4_gives_143 ?_
                  refine x_callVI (pc := 144) (As := []) g sh_2 (mc_X4_pop ) cw_X4_pop lk_X4_91 rfl ⟨Nat.le_of_ble_eq_true rfl, Nat.le_of_ble_eq_true rfl⟩ rfl (Nat.le_of_ble_eq_true rfl) dX4_gives_144 (fun v6 σ9 => ?_)
                  refine x_callSI (pc := 147) (As := [.int v4, .int v6]) g (mc_X4_prefixing v4 v6) cw_X4_prefixing lk_X4_104 rfl ⟨Nat.le_of_ble_eq_true rfl, Nat.le_of_ble_eq_true rfl⟩ rfl (Nat.le_of_ble_eq_true rfl) dX4_gives_147 (fun v7 σ10 => ?_)
                  refine x_callVU (pc := 150) (As := [.int v7]) g sh_2 (mc_X4_push v7) cw_X4_push lk_X4_97 rfl ⟨Nat.le_of_ble_eq_true rfl, Nat.le_of_ble_eq_true rfl⟩ rfl (Nat.le_of_ble_eq_true rfl) dX4_gives_150 (fun _ σ11 => ?_)
                  refine x_goto (pc := 153) (tgt := 177) g (by decide) dX4_gives_153 ?_
                  refine x_lv [0, 1, 2, 3, 4, 5, 6, 7] rfl ?_
                  exact hj177 x1 σ11
                · refine x_icmp_eq (pc := 130) (tgt := 140) g (by decide) dX4_gives_130 ?_ ?_
                  · refine x_lv [1, 2, 3, 4, 5, 6, 7, 8, 0] rfl ?_
                    exact hj140 σ7
                  · refine x_iload (pc := 133) g 0 rfl dX4_gives_133 ?_
                    refine x_bipush (pc := 135) (v := (126 : Int32)) g (by decide) dX4_gives_135 ?_
                    refine x_icmp_ne (pc := 137) (tgt := 156) g (by decide) dX4_gives_137 ?_ ?_
                    · refine x_aload_n (pc := 156) g rfl 1 rfl dX4_gives_156 ?_
                      refine x_callVI (pc := 157) (As := []) g sh_2 (mc_X4_pop ) cw_X4_pop lk_X4_91 rfl ⟨Nat.le_of_ble_eq_true rfl, Nat.le_of_ble_eq_true rfl⟩ rfl (Nat.le_of_ble_eq_true rfl) dX4_gives_157 (fun v8 σ12 => ?_)
                      refine x_istore (pc := 160) (lv' := [(9, .int v8), (8, .int v4), (0, .ref (al 2)), (1, .int a0), (2, .int a1), (3, .int a2), (4, .int a3), (5, .int a4), (6, .int v1), (7, .int x1)]) g (by decide) rfl dX4_gives_160 ?_
                      refine x_aload_n (pc := 162) g rfl 2 rfl dX4_gives_162 ?_
                      refine x_iload (pc := 163) g 1 rfl dX4_gives_163 ?_
                      refine x_aload_n (pc := 165) g rfl 2 rfl dX4_gives_165 ?_
                      refine x_callVI (pc := 166) (As := []) g sh_2 (mc_X4_pop ) cw_X4_pop lk_X4_91 rfl ⟨Nat.le_of_ble_eq_true rfl, Nat.le_of_ble_eq_true rfl⟩ rfl (Nat.le_of_ble_eq_true rfl) dX4_gives_166 (fun v9 σ13 => ?_)
                      refine x_iload (pc := 169) g 0 rfl dX4_gives_169 ?_
                      refine x_callSI (pc := 171) (As := [.int v4, .int v9, .int v8]) g (mc_X4_joining v4 v9 v8) cw_X4_joining lk_X4_108 rfl ⟨Nat.le_of_ble_eq_true rfl, Nat.le_of_ble_eq_true rfl⟩ rfl (Nat.le_of_ble_eq_true rfl) dX4_gives_171 (fun v10 σ14 => ?_)
                      refine x_callVU (pc := 174) (As := [.int v10]) g sh_2 (mc_X4_push v10) cw_X4_push lk_X4_97 rfl ⟨Nat.le_of_ble_eq_true rfl, Nat.le_of_ble_eq_true rfl⟩ rfl (Nat.le_of_ble_eq_true rfl) dX4_gives_174 (fun _ σ15 => ?_)
                      refine x_lv [2, 3, 4, 5, 6, 7, 8, 9] rfl ?_
                      exact hj177 x1 σ15
                    · refine x_lv [1, 2, 3, 4, 5, 6, 7, 8, 0] rfl ?_
                      exact hj140 σ7
              · refine x_aload_n (pc := 105) g rfl 1 rfl dX4_gives_105 ?_
                refine x_iload (pc := 106) g 0 rfl dX4_gives_106 ?_
                refine x_iload (pc := 108) g 7 rfl dX4_gives_108 ?_
                refine x_iload_n (pc := 110) g rfl 2 rfl dX4_gives_110 ?_
                refine x_iload_n (pc := 111) g rfl 3 rfl dX4_gives_111 ?_
                refine x_iload_n (pc := 112) g rfl 4 rfl dX4_gives_112 ?_
                refine x_iload (pc := 113) g 5 rfl dX4_gives_113 ?_
                refine x_iload (pc := 115) g 6 rfl dX4_gives_115 ?_
                refine x_callSI (pc := 117) (As := [.int v4, .int v1, .int a0, .int a1, .int a2, .int a3, .int a4]) g (mc_X4_named v4 v1 a0 a1 a2 a3 a4) cw_X4_named lk_X4_100 rfl ⟨Nat.le_of_ble_eq_true rfl, Nat.le_of_ble_eq_true rfl⟩ rfl (Nat.le_of_ble_eq_true rfl) dX4_gives_117 (fun v11 σ16 => ?_)
                refine x_callVU (pc := 120) (As := [.int v11]) g sh_2 (mc_X4_push v11) cw_X4_push lk_X4_97 rfl ⟨Nat.le_of_ble_eq_true rfl, Nat.le_of_ble_eq_true rfl⟩ rfl (Nat.le_of_ble_eq_true rfl) dX4_gives_120 (fun _ σ17 => ?_)
                refine x_goto (pc := 123) (tgt := 177) g (by decide) dX4_gives_123 ?_
                refine x_lv [1, 2, 3, 4, 5, 6, 7, 8] rfl ?_
                exact hj177 x1 σ17
            · refine x_aload_n (pc := 83) g rfl 1 rfl dX4_gives_83 ?_
              refine x_aload_n (pc := 84) g rfl 1 rfl dX4_gives_84 ?_
              refine x_getR (pc := 85) g sh_2 fl_X4_16 rfl dX4_gives_85 ?_
              refine x_iload (pc := 88) g 8 rfl dX4_gives_88 ?_
              refine x_iald (pc := 90) g sh_81 (by decide) dX4_gives_90 (fun v12 => ?_)
              refine x_callVU (pc := 91) (As := [.int v12]) g sh_2 (mc_X4_push v12) cw_X4_push lk_X4_97 rfl ⟨Nat.le_of_ble_eq_true rfl, Nat.le_of_ble_eq_true rfl⟩ rfl (Nat.le_of_ble_eq_true rfl) dX4_gives_91 (fun _ σ18 => ?_)
              refine x_goto (pc := 94) (tgt := 177) g (by decide) dX4_gives_94 ?_
              refine x_lv [1, 2, 3, 4, 5, 6, 7, 8] rfl ?_
              exact hj177 x1 σ18
          · refine x_aload_n (pc := 55) g rfl 1 rfl dX4_gives_55 ?_
            refine x_callVI (pc := 56) (As := []) g sh_2 (mc_X4_pop ) cw_X4_pop lk_X4_91 rfl ⟨Nat.le_of_ble_eq_true rfl, Nat.le_of_ble_eq_true rfl⟩ rfl (Nat.le_of_ble_eq_true rfl) dX4_gives_56 (fun v13 σ19 => ?_)
            refine x_jn (fun (j73 : Int32 → Sx → Option (Int32 × Sx)) => ∀ (y1 : Int32) (σ20 : Sx), XTx p l e { frames := 1, cells := 0, slots := 0, locals := 26 } s m args below meth c D al cA ba 10 (MQx rvI D al cA ba below args s) 0 0 73 [(0, .ref (al 2)), (1, .int a0), (2, .int a1), (3, .int a2), (4, .int a3), (5, .int a4), (6, .int v1)] [.int y1] σ20 (j73 y1 σ20)) (fun y1 σ20 => ?_) (fun j73 hj73 => ?_)
            · refine x_istore (pc := 73) (lv' := [(7, .int y1), (0, .ref (al 2)), (1, .int a0), (2, .int a1), (3, .int a2), (4, .int a3), (5, .int a4), (6, .int v1)]) g (by decide) rfl dX4_gives_73 ?_
              refine x_goto (pc := 75) (tgt := 177) g (by decide) dX4_gives_75 ?_
              refine x_lv [1, 2, 3, 4, 5, 6, 7, 0] rfl ?_
              exact hj177 y1 σ20
            · refine x_if_ne (pc := 59) (tgt := 71) g (by decide) dX4_gives_59 ?_ ?_
              · refine x_iload (pc := 71) g 8 rfl dX4_gives_71 ?_
                refine x_lv [1, 2, 3, 4, 5, 6, 7] rfl ?_
                exact hj73 x1 σ19
              · refine x_aload_n (pc := 62) g rfl 1 rfl dX4_gives_62 ?_
                refine x_iload (pc := 63) g 8 rfl dX4_gives_63 ?_
                refine x_callVI (pc := 65) (As := [.int x1]) g sh_2 (mc_X4_endOfLine N x1) cw_X4_endOfLine lk_X4_94 rfl ⟨Nat.le_of_ble_eq_true rfl, Nat.le_of_ble_eq_true rfl⟩ rfl (Nat.le_of_ble_eq_true rfl) dX4_gives_65 (fun v14 σ21 => ?_)
                refine x_goto (pc := 68) (tgt := 73) g (by decide) dX4_gives_68 ?_
                refine x_lv [1, 2, 3, 4, 5, 6, 7] rfl ?_
                exact hj73 v14 σ21
      · refine x_lv [1] rfl ?_
        exact hj43 σ5
def B_X4_namesLead_L2 (N : Nat) (r2 : Int32 → Sx → Option (Int32 × Sx)) (x1 : Int32) (σ1 : Sx) : Option (Int32 × Sx) := (if (siI σ1 2 6) ≤ x1 then some ((0 : Int32), σ1) else aIx 81 121 x1 σ1 (fun v1 => (if v1 = (10108 : Int32) then some ((1 : Int32), σ1) else r2 (x1 + (1 : Int32)) σ1)))
def F_X4_namesLead (N : Nat) (σ0 : Sx) : Option (Int32 × Sx) := lpx1 (B_X4_namesLead_L2 N) N (0 : Int32) σ0
set_option maxRecDepth 100000 in
set_option maxHeartbeats 4000000 in
theorem mc_X4_namesLead {D : va_G} {al : Nat → Nat} {cA : Nat → ClassId} {ba : Nat} (N : Nat)  : MCx D al cA ba yX4_namesLead cX4_namesLead 2 (some .boolean) 0 0 rvI [.ref (al 2)] (F_X4_namesLead N) := by
  refine MCx_of (by decide +kernel) (Nat.le_of_ble_eq_true rfl) ?_
  intro p l e s m args below meth c σ0 g hrt
  unfold F_X4_namesLead
  refine x_lv (lv' := [(0, .ref (al 2))]) [0] rfl ?_
  refine x_iconst (pc := 0) (v := (0 : Int32)) g (by decide) dX4_namesLead_0 ?_
  refine x_istore_n (pc := 1) (lv' := [(1, .int (0 : Int32)), (0, .ref (al 2))]) g rfl (by decide) rfl dX4_namesLead_1 ?_
  refine x_lv [1, 0] rfl ?_
  refine lpx1_ind (fun (x1 : Int32) (σ1 : Sx) (K : Option (Int32 × Sx)) => XTx p l e { frames := 0, cells := 0, slots := 0, locals := 0 } s m args below meth c D al cA ba 2 (MQx rvI D al cA ba below args s) 0 0 2 [(0, .ref (al 2)), (1, .int x1)] [] σ1 (K)) (fun _ _ => x_no) (fun r2 hr2 x1 σ1 => ?_) N (0 : Int32) σ0
  show XTx p l e { frames := 0, cells := 0, slots := 0, locals := 0 } s m args below meth c D al cA ba 2 (MQx rvI D al cA ba below args s) 0 0 2 [(0, .ref (al 2)), (1, .int x1)] [] σ1 (B_X4_namesLead_L2 N r2 x1 σ1)
  unfold B_X4_namesLead_L2
  refine x_iload_n (pc := 2) g rfl 1 rfl dX4_namesLead_2 ?_
  refine x_aload_n (pc := 3) g rfl 0 rfl dX4_namesLead_3 ?_
  refine x_getI (pc := 4) g sh_2 fl_X4_22 rfl dX4_namesLead_4 ?_
  refine x_icmp_ge (pc := 7) (tgt := 30) g (by decide) dX4_namesLead_7 ?_ ?_
  · refine x_iconst (pc := 30) (v := (0 : Int32)) g (by decide) dX4_namesLead_30 ?_
    exact x_zreturn (pc := 31) g hrt (by decide) dX4_namesLead_31
  · refine x_aload_n (pc := 10) g rfl 0 rfl dX4_namesLead_10 ?_
    refine x_getR (pc := 11) g sh_2 fl_X4_16 rfl dX4_namesLead_11 ?_
    refine x_iload_n (pc := 14) g rfl 1 rfl dX4_namesLead_14 ?_
    refine x_iald (pc := 15) g sh_81 (by decide) dX4_namesLead_15 (fun v1 => ?_)
    refine x_sipush (pc := 16) (v := (10108 : Int32)) g (by decide) dX4_namesLead_16 ?_
    refine x_icmp_ne (pc := 19) (tgt := 24) g (by decide) dX4_namesLead_19 ?_ ?_
    · refine x_iinc (pc := 24) (v := (x1 + (1 : Int32))) (lv' := [(1, .int (x1 + (1 : Int32))), (0, .ref (al 2))]) g 1 rfl (by rfl) (by decide) rfl dX4_namesLead_24 ?_
      refine x_goto (pc := 27) (tgt := 2) g (by decide) dX4_namesLead_27 ?_
      refine x_lv [1, 0] rfl ?_
      exact hr2 (x1 + (1 : Int32)) σ1
    · refine x_iconst (pc := 22) (v := (1 : Int32)) g (by decide) dX4_namesLead_22 ?_
      exact x_zreturn (pc := 23) g hrt (by decide) dX4_namesLead_23
def F_X4_write (a0 : Int32) (σ0 : Sx) : Option (Int32 × Sx) := (if (siI σ0 2 0) < (120 : Int32) then sIx 79 120 (siI σ0 2 0) a0 σ0 (fun σ1 => pIx 2 0 ((siI σ1 2 0) + (1 : Int32)) σ1 (fun σ2 => some ((1 : Int32), σ2))) else some ((0 : Int32), σ0))
set_option maxRecDepth 100000 in
set_option maxHeartbeats 4000000 in
theorem mc_X4_write {D : va_G} {al : Nat → Nat} {cA : Nat → ClassId} {ba : Nat} (a0 : Int32) : MCx D al cA ba yX4_write cX4_write 2 (some .boolean) 0 0 rvI [.ref (al 2), .int a0] (F_X4_write a0) := by
  refine MCx_of (by decide +kernel) (Nat.le_of_ble_eq_true rfl) ?_
  intro p l e s m args below meth c σ0 g hrt
  unfold F_X4_write
  refine x_lv (lv' := [(0, .ref (al 2)), (1, .int a0)]) [0, 1] rfl ?_
  refine x_aload_n (pc := 0) g rfl 0 rfl dX4_write_0 ?_
  refine x_getI (pc := 1) g sh_2 fl_X4_26 rfl dX4_write_1 ?_
  refine x_bipush (pc := 4) (v := (120 : Int32)) g (by decide) dX4_write_4 ?_
  refine x_icmp_lt (pc := 6) (tgt := 11) g (by decide) dX4_write_6 ?_ ?_
  · refine x_aload_n (pc := 11) g rfl 0 rfl dX4_write_11 ?_
    refine x_getR (pc := 12) g sh_2 fl_X4_9 rfl dX4_write_12 ?_
    refine x_aload_n (pc := 15) g rfl 0 rfl dX4_write_15 ?_
    refine x_getI (pc := 16) g sh_2 fl_X4_26 rfl dX4_write_16 ?_
    refine x_iload_n (pc := 19) g rfl 1 rfl dX4_write_19 ?_
    refine x_iast (pc := 20) g sh_79 (by decide) dX4_write_20 (fun σ1 => ?_)
    refine x_aload_n (pc := 21) g rfl 0 rfl dX4_write_21 ?_
    refine x_dup (pc := 22) g rfl dX4_write_22 ?_
    refine x_getI (pc := 23) g sh_2 fl_X4_26 rfl dX4_write_23 ?_
    refine x_iconst (pc := 26) (v := (1 : Int32)) g (by decide) dX4_write_26 ?_
    refine x_iadd (pc := 27) g dX4_write_27 ?_
    refine x_putI (pc := 28) g sh_2 fl_X4_26 rfl dX4_write_28 (fun σ2 => ?_)
    refine x_iconst (pc := 31) (v := (1 : Int32)) g (by decide) dX4_write_31 ?_
    exact x_zreturn (pc := 32) g hrt (by decide) dX4_write_32
  · refine x_iconst (pc := 9) (v := (0 : Int32)) g (by decide) dX4_write_9 ?_
    exact x_zreturn (pc := 10) g hrt (by decide) dX4_write_10
def F_X4_next (σ0 : Sx) : Option (Int32 × Sx) := (if (siI σ0 2 0) ≤ (siI σ0 2 2) then some ((-1 : Int32), σ0) else (if (120 : Int32) ≤ (siI σ0 2 2) then some ((-1 : Int32), σ0) else aIx 79 120 (siI σ0 2 2) σ0 (fun v1 => some (v1, σ0))))
set_option maxRecDepth 100000 in
set_option maxHeartbeats 4000000 in
theorem mc_X4_next {D : va_G} {al : Nat → Nat} {cA : Nat → ClassId} {ba : Nat}  : MCx D al cA ba yX4_next cX4_next 1 (some .int) 0 0 rvI [.ref (al 2)] (F_X4_next ) := by
  refine MCx_of (by decide +kernel) (Nat.le_of_ble_eq_true rfl) ?_
  intro p l e s m args below meth c σ0 g hrt
  unfold F_X4_next
  refine x_lv (lv' := [(0, .ref (al 2))]) [0] rfl ?_
  refine x_aload_n (pc := 0) g rfl 0 rfl dX4_next_0 ?_
  refine x_getI (pc := 1) g sh_2 fl_X4_29 rfl dX4_next_1 ?_
  refine x_aload_n (pc := 4) g rfl 0 rfl dX4_next_4 ?_
  refine x_getI (pc := 5) g sh_2 fl_X4_26 rfl dX4_next_5 ?_
  refine x_icmp_ge (pc := 8) (tgt := 32) g (by decide) dX4_next_8 ?_ ?_
  · refine x_iconst (pc := 32) (v := (-1 : Int32)) g (by decide) dX4_next_32 ?_
    exact x_ireturn (pc := 33) g hrt dX4_next_33
  · refine x_aload_n (pc := 11) g rfl 0 rfl dX4_next_11 ?_
    refine x_getI (pc := 12) g sh_2 fl_X4_29 rfl dX4_next_12 ?_
    refine x_bipush (pc := 15) (v := (120 : Int32)) g (by decide) dX4_next_15 ?_
    refine x_icmp_ge (pc := 17) (tgt := 32) g (by decide) dX4_next_17 ?_ ?_
    · refine x_iconst (pc := 32) (v := (-1 : Int32)) g (by decide) dX4_next_32 ?_
      exact x_ireturn (pc := 33) g hrt dX4_next_33
    · refine x_aload_n (pc := 20) g rfl 0 rfl dX4_next_20 ?_
      refine x_getR (pc := 21) g sh_2 fl_X4_9 rfl dX4_next_21 ?_
      refine x_aload_n (pc := 24) g rfl 0 rfl dX4_next_24 ?_
      refine x_getI (pc := 25) g sh_2 fl_X4_29 rfl dX4_next_25 ?_
      refine x_iald (pc := 28) g sh_79 (by decide) dX4_next_28 (fun v1 => ?_)
      refine x_goto (pc := 29) (tgt := 33) g (by decide) dX4_next_29 ?_
      exact x_ireturn (pc := 33) g hrt dX4_next_33
def F_X4_isDigit (a0 : Int32) (σ0 : Sx) : Option (Int32 × Sx) := (if a0 < (48 : Int32) then some ((0 : Int32), σ0) else (if (57 : Int32) < a0 then some ((0 : Int32), σ0) else some ((1 : Int32), σ0)))
set_option maxRecDepth 100000 in
set_option maxHeartbeats 4000000 in
theorem mc_X4_isDigit {D : va_G} {al : Nat → Nat} {cA : Nat → ClassId} {ba : Nat} (a0 : Int32) : MCx D al cA ba yX4_isDigit cX4_isDigit 1 (some .boolean) 0 0 rvI [.int a0] (F_X4_isDigit a0) := by
  refine MCx_of (by decide +kernel) (Nat.le_of_ble_eq_true rfl) ?_
  intro p l e s m args below meth c σ0 g hrt
  unfold F_X4_isDigit
  refine x_lv (lv' := [(0, .int a0)]) [0] rfl ?_
  refine x_iload_n (pc := 0) g rfl 0 rfl dX4_isDigit_0 ?_
  refine x_bipush (pc := 1) (v := (48 : Int32)) g (by decide) dX4_isDigit_1 ?_
  refine x_icmp_lt (pc := 3) (tgt := 16) g (by decide) dX4_isDigit_3 ?_ ?_
  · refine x_iconst (pc := 16) (v := (0 : Int32)) g (by decide) dX4_isDigit_16 ?_
    exact x_zreturn (pc := 17) g hrt (by decide) dX4_isDigit_17
  · refine x_iload_n (pc := 6) g rfl 0 rfl dX4_isDigit_6 ?_
    refine x_bipush (pc := 7) (v := (57 : Int32)) g (by decide) dX4_isDigit_7 ?_
    refine x_icmp_gt (pc := 9) (tgt := 16) g (by decide) dX4_isDigit_9 ?_ ?_
    · refine x_iconst (pc := 16) (v := (0 : Int32)) g (by decide) dX4_isDigit_16 ?_
      exact x_zreturn (pc := 17) g hrt (by decide) dX4_isDigit_17
    · refine x_iconst (pc := 12) (v := (1 : Int32)) g (by decide) dX4_isDigit_12 ?_
      refine x_goto (pc := 13) (tgt := 17) g (by decide) dX4_isDigit_13 ?_
      exact x_zreturn (pc := 17) g hrt (by decide) dX4_isDigit_17
def F_X4_emit (a0 : Int32) (σ0 : Sx) : Option (Unit × Sx) := (if (Int32.ofNat 121) ≤ (siI σ0 2 4) then some ((), σ0) else sIx 80 121 (siI σ0 2 4) a0 σ0 (fun σ1 => pIx 2 4 ((siI σ1 2 4) + (1 : Int32)) σ1 (fun σ2 => some ((), σ2))))
set_option maxRecDepth 100000 in
set_option maxHeartbeats 4000000 in
theorem mc_X4_emit {D : va_G} {al : Nat → Nat} {cA : Nat → ClassId} {ba : Nat} (a0 : Int32) : MCx D al cA ba yX4_emit cX4_emit 2 none 0 0 rvU [.ref (al 2), .int a0] (F_X4_emit a0) := by
  refine MCx_of (by decide +kernel) (Nat.le_of_ble_eq_true rfl) ?_
  intro p l e s m args below meth c σ0 g hrt
  unfold F_X4_emit
  refine x_lv (lv' := [(0, .ref (al 2)), (1, .int a0)]) [0, 1] rfl ?_
  refine x_aload_n (pc := 0) g rfl 0 rfl dX4_emit_0 ?_
  refine x_getI (pc := 1) g sh_2 fl_X4_32 rfl dX4_emit_1 ?_
  refine x_aload_n (pc := 4) g rfl 0 rfl dX4_emit_4 ?_
  refine x_getR (pc := 5) g sh_2 fl_X4_13 rfl dX4_emit_5 ?_
  refine x_alen (pc := 8) (t := 0) g sh_80 (by decide) rfl dX4_emit_8 ?_
  refine x_icmp_ge (pc := 9) (tgt := 32) g (by decide) dX4_emit_9 ?_ ?_
  · exact x_return (pc := 32) g hrt dX4_emit_32
  · refine x_aload_n (pc := 12) g rfl 0 rfl dX4_emit_12 ?_
    refine x_getR (pc := 13) g sh_2 fl_X4_13 rfl dX4_emit_13 ?_
    refine x_aload_n (pc := 16) g rfl 0 rfl dX4_emit_16 ?_
    refine x_getI (pc := 17) g sh_2 fl_X4_32 rfl dX4_emit_17 ?_
    refine x_iload_n (pc := 20) g rfl 1 rfl dX4_emit_20 ?_
    refine x_iast (pc := 21) g sh_80 (by decide) dX4_emit_21 (fun σ1 => ?_)
    refine x_aload_n (pc := 22) g rfl 0 rfl dX4_emit_22 ?_
    refine x_dup (pc := 23) g rfl dX4_emit_23 ?_
    refine x_getI (pc := 24) g sh_2 fl_X4_32 rfl dX4_emit_24 ?_
    refine x_iconst (pc := 27) (v := (1 : Int32)) g (by decide) dX4_emit_27 ?_
    refine x_iadd (pc := 28) g dX4_emit_28 ?_
    refine x_putI (pc := 29) g sh_2 fl_X4_32 rfl dX4_emit_29 (fun σ2 => ?_)
    exact x_return (pc := 32) g hrt dX4_emit_32
def B_X4_number_L4 (N : Nat) (j48 : Int32 → Sx → Option (Unit × Sx)) (r4 : Int32 → Int32 → Sx → Option (Unit × Sx)) (x2 : Int32) (x3 : Int32) (σ3 : Sx) : Option (Unit × Sx) := (if (4 : Int32) ≤ x3 then j48 x2 σ3 else clx (F_X4_next  σ3) (fun v1 σ4 => clx (F_X4_isDigit v1 σ4) (fun v2 σ5 => (if v2 = 0 then j48 x2 σ5 else clx (F_X4_next  σ5) (fun v3 σ6 => nmx ((((x2 * (10 : Int32)) + v3) - (48 : Int32))) (fun v4 => pIx 2 2 ((siI σ6 2 2) + (1 : Int32)) σ6 (fun σ7 => r4 v4 (x3 + (1 : Int32)) σ7)))))))
def F_X4_number (N : Nat) (σ0 : Sx) : Option (Unit × Sx) := nmx (fun (x1 : Int32) (σ1 : Sx) => clx (F_X4_emit x1 σ1) (fun _ σ2 => some ((), σ2))) (fun (j48 : Int32 → Sx → Option (Unit × Sx)) => lpx2 (B_X4_number_L4 N j48) N (0 : Int32) (0 : Int32) σ0)
set_option maxRecDepth 100000 in
set_option maxHeartbeats 4000000 in
theorem mc_X4_number {D : va_G} {al : Nat → Nat} {cA : Nat → ClassId} {ba : Nat} (N : Nat)  : MCx D al cA ba yX4_number cX4_number 3 none 1 21 rvU [.ref (al 2)] (F_X4_number N) := by
  refine MCx_of (by decide +kernel) (Nat.le_of_ble_eq_true rfl) ?_
  intro p l e s m args below meth c σ0 g hrt
  unfold F_X4_number
  refine x_lv (lv' := [(0, .ref (al 2))]) [0] rfl ?_
  refine x_iconst (pc := 0) (v := (0 : Int32)) g (by decide) dX4_number_0 ?_
  refine x_istore_n (pc := 1) (lv' := [(1, .int (0 : Int32)), (0, .ref (al 2))]) g rfl (by decide) rfl dX4_number_1 ?_
  refine x_iconst (pc := 2) (v := (0 : Int32)) g (by decide) dX4_number_2 ?_
  refine x_istore_n (pc := 3) (lv' := [(2, .int (0 : Int32)), (1, .int (0 : Int32)), (0, .ref (al 2))]) g rfl (by decide) rfl dX4_number_3 ?_
  refine x_jn (fun (j48 : Int32 → Sx → Option (Unit × Sx)) => ∀ (x1 : Int32) (σ1 : Sx), XTx p l e { frames := 1, cells := 0, slots := 0, locals := 21 } s m args below meth c D al cA ba 3 (MQx rvU D al cA ba below args s) 0 0 48 [(0, .ref (al 2)), (1, .int x1)] [] σ1 (j48 x1 σ1)) (fun x1 σ1 => ?_) (fun j48 hj48 => ?_)
  · refine x_aload_n (pc := 48) g rfl 0 rfl dX4_number_48 ?_
    refine x_iload_n (pc := 49) g rfl 1 rfl dX4_number_49 ?_
    refine x_callVU (pc := 50) (As := [.int x1]) g sh_2 (mc_X4_emit x1) cw_X4_emit lk_X4_56 rfl ⟨Nat.le_of_ble_eq_true rfl, Nat.le_of_ble_eq_true rfl⟩ rfl (Nat.le_of_ble_eq_true rfl) dX4_number_50 (fun _ σ2 => ?_)
    exact x_return (pc := 53) g hrt dX4_number_53
  · refine x_lv [2, 1, 0] rfl ?_
    refine lpx2_ind (fun (x2 : Int32) (x3 : Int32) (σ3 : Sx) (K : Option (Unit × Sx)) => XTx p l e { frames := 1, cells := 0, slots := 0, locals := 21 } s m args below meth c D al cA ba 3 (MQx rvU D al cA ba below args s) 0 0 4 [(0, .ref (al 2)), (1, .int x2), (2, .int x3)] [] σ3 (K)) (fun _ _ _ => x_no) (fun r4 hr4 x2 x3 σ3 => ?_) N (0 : Int32) (0 : Int32) σ0
    show XTx p l e { frames := 1, cells := 0, slots := 0, locals := 21 } s m args below meth c D al cA ba 3 (MQx rvU D al cA ba below args s) 0 0 4 [(0, .ref (al 2)), (1, .int x2), (2, .int x3)] [] σ3 (B_X4_number_L4 N j48 r4 x2 x3 σ3)
    unfold B_X4_number_L4
    refine x_iload_n (pc := 4) g rfl 2 rfl dX4_number_4 ?_
    refine x_iconst (pc := 5) (v := (4 : Int32)) g (by decide) dX4_number_5 ?_
    refine x_icmp_ge (pc := 6) (tgt := 48) g (by decide) dX4_number_6 ?_ ?_
    · refine x_lv [0, 1] rfl ?_
      exact hj48 x2 σ3
    · refine x_aload_n (pc := 9) g rfl 0 rfl dX4_number_9 ?_
      refine x_callVI (pc := 10) (As := []) g sh_2 (mc_X4_next ) cw_X4_next lk_X4_48 rfl ⟨Nat.le_of_ble_eq_true rfl, Nat.le_of_ble_eq_true rfl⟩ rfl (Nat.le_of_ble_eq_true rfl) dX4_number_10 (fun v1 σ4 => ?_)
      refine x_callSI (pc := 13) (As := [.int v1]) g (mc_X4_isDigit v1) cw_X4_isDigit lk_X4_68 rfl ⟨Nat.le_of_ble_eq_true rfl, Nat.le_of_ble_eq_true rfl⟩ rfl (Nat.le_of_ble_eq_true rfl) dX4_number_13 (fun v2 σ5 => ?_)
      refine x_if_eq (pc := 16) (tgt := 48) g (by decide) dX4_number_16 ?_ ?_
      · refine x_lv [0, 1] rfl ?_
        exact hj48 x2 σ5
      · refine x_iload_n (pc := 19) g rfl 1 rfl dX4_number_19 ?_
        refine x_bipush (pc := 20) (v := (10 : Int32)) g (by decide) dX4_number_20 ?_
        refine x_imul (pc := 22) g dX4_number_22 ?_
        refine x_aload_n (pc := 23) g rfl 0 rfl dX4_number_23 ?_
        refine x_callVI (pc := 24) (As := []) g sh_2 (mc_X4_next ) cw_X4_next lk_X4_48 rfl ⟨Nat.le_of_ble_eq_true rfl, Nat.le_of_ble_eq_true rfl⟩ rfl (Nat.le_of_ble_eq_true rfl) dX4_number_24 (fun v3 σ6 => ?_)
        refine x_iadd (pc := 27) g dX4_number_27 ?_
        refine x_bipush (pc := 28) (v := (48 : Int32)) g (by decide) dX4_number_28 ?_
        refine x_isub (pc := 30) g dX4_number_30 ?_
        refine x_nm (fun v4 => ?_)
        refine x_istore_n (pc := 31) (lv' := [(1, .int v4), (0, .ref (al 2)), (2, .int x3)]) g rfl (by decide) rfl dX4_number_31 ?_
        refine x_aload_n (pc := 32) g rfl 1 rfl dX4_number_32 ?_
        refine x_dup (pc := 33) g rfl dX4_number_33 ?_
        refine x_getI (pc := 34) g sh_2 fl_X4_29 rfl dX4_number_34 ?_
        refine x_iconst (pc := 37) (v := (1 : Int32)) g (by decide) dX4_number_37 ?_
        refine x_iadd (pc := 38) g dX4_number_38 ?_
        refine x_putI (pc := 39) g sh_2 fl_X4_29 rfl dX4_number_39 (fun σ7 => ?_)
        refine x_iinc (pc := 42) (v := (x3 + (1 : Int32))) (lv' := [(2, .int (x3 + (1 : Int32))), (1, .int v4), (0, .ref (al 2))]) g 2 rfl (by rfl) (by decide) rfl dX4_number_42 ?_
        refine x_goto (pc := 45) (tgt := 4) g (by decide) dX4_number_45 ?_
        refine x_lv [2, 1, 0] rfl ?_
        exact hr4 v4 (x3 + (1 : Int32)) σ7
def F_X4_rankOf (a0 : Int32) (σ0 : Sx) : Option (Int32 × Sx) := (if a0 = (37 : Int32) then some ((4 : Int32), σ0) else (if a0 = (38 : Int32) then some ((1 : Int32), σ0) else (if a0 = (42 : Int32) then some ((4 : Int32), σ0) else (if a0 = (43 : Int32) then some ((3 : Int32), σ0) else (if a0 = (45 : Int32) then some ((3 : Int32), σ0) else (if a0 = (47 : Int32) then some ((4 : Int32), σ0) else (if a0 = (60 : Int32) then some ((2 : Int32), σ0) else (if a0 = (61 : Int32) then some ((2 : Int32), σ0) else (if a0 = (62 : Int32) then some ((2 : Int32), σ0) else (if a0 = (124 : Int32) then some ((0 : Int32), σ0) else some ((-1 : Int32), σ0)))))))))))
set_option maxRecDepth 100000 in
set_option maxHeartbeats 4000000 in
theorem mc_X4_rankOf {D : va_G} {al : Nat → Nat} {cA : Nat → ClassId} {ba : Nat} (a0 : Int32) : MCx D al cA ba yX4_rankOf cX4_rankOf 1 (some .int) 0 0 rvI [.int a0] (F_X4_rankOf a0) := by
  refine MCx_of (by decide +kernel) (Nat.le_of_ble_eq_true rfl) ?_
  intro p l e s m args below meth c σ0 g hrt
  unfold F_X4_rankOf
  refine x_lv (lv' := [(0, .int a0)]) [0] rfl ?_
  refine x_iload_n (pc := 0) g rfl 0 rfl dX4_rankOf_0 ?_
  refine x_eqs ?_ (fun hs1 => ?_)
  · refine x_look (pc := 1) (tgt := 100) (off := 99) g (by decide) (by decide) (by decide) dX4_rankOf_1 ?_
    refine x_iconst (pc := 100) (v := (4 : Int32)) g (by decide) dX4_rankOf_100 ?_
    exact x_ireturn (pc := 101) g hrt dX4_rankOf_101
  refine x_eqs ?_ (fun hs2 => ?_)
  · refine x_look (pc := 1) (tgt := 94) (off := 93) g (by decide) (by decide) (by decide) dX4_rankOf_1 ?_
    refine x_iconst (pc := 94) (v := (1 : Int32)) g (by decide) dX4_rankOf_94 ?_
    exact x_ireturn (pc := 95) g hrt dX4_rankOf_95
  refine x_eqs ?_ (fun hs3 => ?_)
  · refine x_look (pc := 1) (tgt := 100) (off := 99) g (by decide) (by decide) (by decide) dX4_rankOf_1 ?_
    refine x_iconst (pc := 100) (v := (4 : Int32)) g (by decide) dX4_rankOf_100 ?_
    exact x_ireturn (pc := 101) g hrt dX4_rankOf_101
  refine x_eqs ?_ (fun hs4 => ?_)
  · refine x_look (pc := 1) (tgt := 98) (off := 97) g (by decide) (by decide) (by decide) dX4_rankOf_1 ?_
    refine x_iconst (pc := 98) (v := (3 : Int32)) g (by decide) dX4_rankOf_98 ?_
    exact x_ireturn (pc := 99) g hrt dX4_rankOf_99
  refine x_eqs ?_ (fun hs5 => ?_)
  · refine x_look (pc := 1) (tgt := 98) (off := 97) g (by decide) (by decide) (by decide) dX4_rankOf_1 ?_
    refine x_iconst (pc := 98) (v := (3 : Int32)) g (by decide) dX4_rankOf_98 ?_
    exact x_ireturn (pc := 99) g hrt dX4_rankOf_99
  refine x_eqs ?_ (fun hs6 => ?_)
  · refine x_look (pc := 1) (tgt := 100) (off := 99) g (by decide) (by decide) (by decide) dX4_rankOf_1 ?_
    refine x_iconst (pc := 100) (v := (4 : Int32)) g (by decide) dX4_rankOf_100 ?_
    exact x_ireturn (pc := 101) g hrt dX4_rankOf_101
  refine x_eqs ?_ (fun hs7 => ?_)
  · refine x_look (pc := 1) (tgt := 96) (off := 95) g (by decide) (by decide) (by decide) dX4_rankOf_1 ?_
    refine x_iconst (pc := 96) (v := (2 : Int32)) g (by decide) dX4_rankOf_96 ?_
    exact x_ireturn (pc := 97) g hrt dX4_rankOf_97
  refine x_eqs ?_ (fun hs8 => ?_)
  · refine x_look (pc := 1) (tgt := 96) (off := 95) g (by decide) (by decide) (by decide) dX4_rankOf_1 ?_
    refine x_iconst (pc := 96) (v := (2 : Int32)) g (by decide) dX4_rankOf_96 ?_
    exact x_ireturn (pc := 97) g hrt dX4_rankOf_97
  refine x_eqs ?_ (fun hs9 => ?_)
  · refine x_look (pc := 1) (tgt := 96) (off := 95) g (by decide) (by decide) (by decide) dX4_rankOf_1 ?_
    refine x_iconst (pc := 96) (v := (2 : Int32)) g (by decide) dX4_rankOf_96 ?_
    exact x_ireturn (pc := 97) g hrt dX4_rankOf_97
  refine x_eqs ?_ (fun hs10 => ?_)
  · refine x_look (pc := 1) (tgt := 92) (off := 91) g (by decide) (by decide) (by decide) dX4_rankOf_1 ?_
    refine x_iconst (pc := 92) (v := (0 : Int32)) g (by decide) dX4_rankOf_92 ?_
    exact x_ireturn (pc := 93) g hrt dX4_rankOf_93
  refine x_look (pc := 1) (tgt := 102) g (by decide) (lk_dflt (fun q hq => ?_)) (by decide) dX4_rankOf_1 ?_
  · simp only [List.mem_cons, List.not_mem_nil, or_false] at hq
    rcases hq with rfl | rfl | rfl | rfl | rfl | rfl | rfl | rfl | rfl | rfl
    · exact lk_ne (k := 37) hs1 (by decide)
    · exact lk_ne (k := 38) hs2 (by decide)
    · exact lk_ne (k := 42) hs3 (by decide)
    · exact lk_ne (k := 43) hs4 (by decide)
    · exact lk_ne (k := 45) hs5 (by decide)
    · exact lk_ne (k := 47) hs6 (by decide)
    · exact lk_ne (k := 60) hs7 (by decide)
    · exact lk_ne (k := 61) hs8 (by decide)
    · exact lk_ne (k := 62) hs9 (by decide)
    · exact lk_ne (k := 124) hs10 (by decide)
  · refine x_iconst (pc := 102) (v := (-1 : Int32)) g (by decide) dX4_rankOf_102 ?_
    exact x_ireturn (pc := 103) g hrt dX4_rankOf_103
def G_X4_bracketed (N : Nat) (self : Nat → Int32 → Int32 → Sx → Option (Int32 × Sx)) (a0 : Int32) (σ0 : Sx) : Option (Int32 × Sx) := clx (self 1 (0 : Int32) a0 σ0) (fun v1 σ1 => (if v1 = 0 then some ((0 : Int32), σ1) else clx (F_X4_next  σ1) (fun v2 σ2 => (if v2 = (41 : Int32) then pIx 2 2 ((siI σ2 2 2) + (1 : Int32)) σ2 (fun σ3 => some ((1 : Int32), σ3)) else some ((0 : Int32), σ2)))))
def B_X4_chain_L39 (N : Nat) (self : Nat → Int32 → Int32 → Sx → Option (Int32 × Sx)) (a0 : Int32) (a1 : Int32) (y1 : Int32) (r39 : Int32 → Sx → Option (Int32 × Sx)) (x1 : Int32) (σ3 : Sx) : Option (Int32 × Sx) := (if y1 ≤ x1 then some ((1 : Int32), σ3) else clx (F_X4_next  σ3) (fun v2 σ4 => clx (F_X4_rankOf v2 σ4) (fun v3 σ5 => (if v3 = a0 then clx (F_X4_next  σ5) (fun v4 σ6 => pIx 2 2 ((siI σ6 2 2) + (1 : Int32)) σ6 (fun σ7 => clx (self 1 (a0 + (1 : Int32)) a1 σ7) (fun v5 σ8 => (if v5 = 0 then some ((0 : Int32), σ8) else clx (F_X4_emit ((10000 : Int32) + v4) σ8) (fun _ σ9 => r39 (x1 + (1 : Int32)) σ9))))) else some ((1 : Int32), σ5)))))
def G_X4_chain (N : Nat) (self : Nat → Int32 → Int32 → Sx → Option (Int32 × Sx)) (a0 : Int32) (a1 : Int32) (σ0 : Sx) : Option (Int32 × Sx) := (if a0 < (5 : Int32) then clx (self 1 (a0 + (1 : Int32)) a1 σ0) (fun v1 σ1 => (if v1 = 0 then some ((0 : Int32), σ1) else nmx (fun (y1 : Int32) (σ2 : Sx) => lpx1 (B_X4_chain_L39 N self a0 a1 y1) N (0 : Int32) σ2) (fun (j35 : Int32 → Sx → Option (Int32 × Sx)) => (if a0 = (2 : Int32) then j35 (1 : Int32) σ1 else j35 (120 : Int32) σ1)))) else clx (self 2 a1 (0 : Int32) σ0) (fun v6 σ10 => rZx v6 σ10))
def G_X4_operand (N : Nat) (self : Nat → Int32 → Int32 → Sx → Option (Int32 × Sx)) (a0 : Int32) (σ0 : Sx) : Option (Int32 × Sx) := clx (F_X4_next  σ0) (fun v1 σ1 => clx (F_X4_isDigit v1 σ1) (fun v2 σ2 => (if v2 = 0 then clx (F_X4_isName v1 σ2) (fun v3 σ3 => (if v3 = 0 then nmx (fun (σ4 : Sx) => (if a0 < (6 : Int32) then pIx 2 2 ((siI σ4 2 2) + (1 : Int32)) σ4 (fun σ5 => (if v1 = (40 : Int32) then clx (self 0 (a0 + (1 : Int32)) (0 : Int32) σ5) (fun v5 σ7 => rZx v5 σ7) else clx (self 3 v1 (a0 + (1 : Int32)) σ5) (fun v4 σ6 => rZx v4 σ6))) else some ((0 : Int32), σ4))) (fun (j64 : Sx → Option (Int32 × Sx)) => (if v1 = (40 : Int32) then j64 σ3 else (if v1 = (33 : Int32) then j64 σ3 else (if v1 = (45 : Int32) then j64 σ3 else some ((0 : Int32), σ3))))) else pIx 2 2 ((siI σ3 2 2) + (1 : Int32)) σ3 (fun σ8 => clx (F_X4_emit ((10000 : Int32) + v1) σ8) (fun _ σ9 => some ((1 : Int32), σ9))))) else clx (F_X4_number N  σ2) (fun _ σ10 => some ((1 : Int32), σ10)))))
def G_X4_prefixed (N : Nat) (self : Nat → Int32 → Int32 → Sx → Option (Int32 × Sx)) (a0 : Int32) (a1 : Int32) (σ0 : Sx) : Option (Int32 × Sx) := clx (self 2 a1 (0 : Int32) σ0) (fun v1 σ1 => (if v1 = 0 then some ((0 : Int32), σ1) else nmx (fun (y1 : Int32) (σ2 : Sx) => clx (F_X4_emit ((10000 : Int32) + y1) σ2) (fun _ σ3 => some ((1 : Int32), σ3))) (fun (j26 : Int32 → Sx → Option (Int32 × Sx)) => (if a0 = (45 : Int32) then j26 (126 : Int32) σ1 else j26 a0 σ1))))
def R_X4_grp (N : Nat) : Nat → Nat → Int32 → Int32 → Sx → Option (Int32 × Sx)
  | 0 => fun _ _ _ _ => none
  | d + 1 => fun sel x0 x1 σ => if sel = 0 then G_X4_bracketed N (R_X4_grp N d) x0 σ else if sel = 1 then G_X4_chain N (R_X4_grp N d) x0 x1 σ else if sel = 2 then G_X4_operand N (R_X4_grp N d) x0 σ else G_X4_prefixed N (R_X4_grp N d) x0 x1 σ
set_option maxRecDepth 100000 in
set_option maxHeartbeats 8000000 in
theorem rc_X4_grp {D : va_G} {al : Nat → Nat} {cA : Nat → ClassId} {ba : Nat} (N : Nat) : ∀ d : Nat, (∀ (a0 : Int32), MCx D al cA ba yX4_bracketed cX4_bracketed 2 (some .boolean) (d + 2) (d * 25 + 43) rvI [.ref (al 2), .int a0] (R_X4_grp N d 0 a0 (0 : Int32))) ∧ (∀ (a0 : Int32) (a1 : Int32), MCx D al cA ba yX4_chain cX4_chain 6 (some .boolean) (d + 2) (d * 25 + 43) rvI [.ref (al 2), .int a0, .int a1] (R_X4_grp N d 1 a0 a1)) ∧ (∀ (a0 : Int32), MCx D al cA ba yX4_operand cX4_operand 3 (some .boolean) (d + 2) (d * 25 + 43) rvI [.ref (al 2), .int a0] (R_X4_grp N d 2 a0 (0 : Int32))) ∧ (∀ (a0 : Int32) (a1 : Int32), MCx D al cA ba yX4_prefixed cX4_prefixed 3 (some .boolean) (d + 2) (d * 25 + 43) rvI [.ref (al 2), .int a0, .int a1] (R_X4_grp N d 3 a0 a1)) := by
  intro d
  induction d with
  | zero => exact ⟨(fun _ l σ out ho => nomatch (show (none : Option (Int32 × Sx)) = some out from ho)), (fun _ _ l σ out ho => nomatch (show (none : Option (Int32 × Sx)) = some out from ho)), (fun _ l σ out ho => nomatch (show (none : Option (Int32 × Sx)) = some out from ho)), (fun _ _ l σ out ho => nomatch (show (none : Option (Int32 × Sx)) = some out from ho))⟩
  | succ d ih =>
    obtain ⟨ih0, ih1, ih2, ih3⟩ := ih
    refine ⟨?_, ?_, ?_, ?_⟩
    · intro a0
      show MCx D al cA ba yX4_bracketed cX4_bracketed 2 (some .boolean) (d + 1 + 2) ((d + 1) * 25 + 43) rvI [.ref (al 2), .int a0] (G_X4_bracketed N (R_X4_grp N d) a0)
      refine MCx_of (by decide +kernel) (Nat.le_of_ble_eq_true rfl) ?_
      intro p l e s m args below meth c σ0 g hrt
      unfold G_X4_bracketed
      refine x_lv (lv' := [(0, .ref (al 2)), (1, .int a0)]) [0, 1] rfl ?_
      refine x_aload_n (pc := 0) g rfl 0 rfl dX4_bracketed_0 ?_
      refine x_iconst (pc := 1) (v := (0 : Int32)) g (by decide) dX4_bracketed_1 ?_
      refine x_iload_n (pc := 2) g rfl 1 rfl dX4_bracketed_2 ?_
      refine x_callVI (pc := 3) (As := [.int (0 : Int32), .int a0]) g sh_2 (ih1 (0 : Int32) a0) cw_X4_chain lk_X4_52 rfl ⟨by show d + 2 + 1 ≤ d + 1 + 2; omega, by show 8 + (6 + 11) + (d * 25 + 43) ≤ (d + 1) * 25 + 43; omega⟩ rfl (Nat.le_of_ble_eq_true rfl) dX4_bracketed_3 (fun v1 σ1 => ?_)
      refine x_if_eq (pc := 6) (tgt := 18) g (by decide) dX4_bracketed_6 ?_ ?_
      · refine x_iconst (pc := 18) (v := (0 : Int32)) g (by decide) dX4_bracketed_18 ?_
        exact x_zreturn (pc := 19) g hrt (by decide) dX4_bracketed_19
      · refine x_aload_n (pc := 9) g rfl 0 rfl dX4_bracketed_9 ?_
        refine x_callVI (pc := 10) (As := []) g sh_2 (mc_X4_next ) cw_X4_next lk_X4_48 rfl ⟨by show 0 + 1 ≤ d + 1 + 2; omega, by show 8 + (1 + 11) + 0 ≤ (d + 1) * 25 + 43; omega⟩ rfl (Nat.le_of_ble_eq_true rfl) dX4_bracketed_10 (fun v2 σ2 => ?_)
        refine x_bipush (pc := 13) (v := (41 : Int32)) g (by decide) dX4_bracketed_13 ?_
        refine x_icmp_eq (pc := 15) (tgt := 20) g (by decide) dX4_bracketed_15 ?_ ?_
        · refine x_aload_n (pc := 20) g rfl 0 rfl dX4_bracketed_20 ?_
          refine x_dup (pc := 21) g rfl dX4_bracketed_21 ?_
          refine x_getI (pc := 22) g sh_2 fl_X4_29 rfl dX4_bracketed_22 ?_
          refine x_iconst (pc := 25) (v := (1 : Int32)) g (by decide) dX4_bracketed_25 ?_
          refine x_iadd (pc := 26) g dX4_bracketed_26 ?_
          refine x_putI (pc := 27) g sh_2 fl_X4_29 rfl dX4_bracketed_27 (fun σ3 => ?_)
          refine x_iconst (pc := 30) (v := (1 : Int32)) g (by decide) dX4_bracketed_30 ?_
          exact x_zreturn (pc := 31) g hrt (by decide) dX4_bracketed_31
        · refine x_iconst (pc := 18) (v := (0 : Int32)) g (by decide) dX4_bracketed_18 ?_
          exact x_zreturn (pc := 19) g hrt (by decide) dX4_bracketed_19
    · intro a0 a1
      show MCx D al cA ba yX4_chain cX4_chain 6 (some .boolean) (d + 1 + 2) ((d + 1) * 25 + 43) rvI [.ref (al 2), .int a0, .int a1] (G_X4_chain N (R_X4_grp N d) a0 a1)
      refine MCx_of (by decide +kernel) (Nat.le_of_ble_eq_true rfl) ?_
      intro p l e s m args below meth c σ0 g hrt
      unfold G_X4_chain
      refine x_lv (lv' := [(0, .ref (al 2)), (1, .int a0), (2, .int a1)]) [0, 1, 2] rfl ?_
      refine x_iload_n (pc := 0) g rfl 1 rfl dX4_chain_0 ?_
      refine x_iconst (pc := 1) (v := (5 : Int32)) g (by decide) dX4_chain_1 ?_
      refine x_icmp_lt (pc := 2) (tgt := 11) g (by decide) dX4_chain_2 ?_ ?_
      · refine x_aload_n (pc := 11) g rfl 0 rfl dX4_chain_11 ?_
        refine x_iload_n (pc := 12) g rfl 1 rfl dX4_chain_12 ?_
        refine x_iconst (pc := 13) (v := (1 : Int32)) g (by decide) dX4_chain_13 ?_
        refine x_iadd (pc := 14) g dX4_chain_14 ?_
        refine x_iload_n (pc := 15) g rfl 2 rfl dX4_chain_15 ?_
        refine x_callVI (pc := 16) (As := [.int (a0 + (1 : Int32)), .int a1]) g sh_2 (ih1 (a0 + (1 : Int32)) a1) cw_X4_chain lk_X4_52 rfl ⟨by show d + 2 + 1 ≤ d + 1 + 2; omega, by show 8 + (6 + 11) + (d * 25 + 43) ≤ (d + 1) * 25 + 43; omega⟩ rfl (Nat.le_of_ble_eq_true rfl) dX4_chain_16 (fun v1 σ1 => ?_)
        refine x_if_ne (pc := 19) (tgt := 24) g (by decide) dX4_chain_19 ?_ ?_
        · refine x_iload_n (pc := 24) g rfl 1 rfl dX4_chain_24 ?_
          refine x_iconst (pc := 25) (v := (2 : Int32)) g (by decide) dX4_chain_25 ?_
          refine x_jn (fun (j35 : Int32 → Sx → Option (Int32 × Sx)) => ∀ (y1 : Int32) (σ2 : Sx), XTx p l e { frames := d + 1 + 2, cells := 0, slots := 0, locals := (d + 1) * 25 + 43 } s m args below meth c D al cA ba 6 (MQx rvI D al cA ba below args s) 0 0 35 [(0, .ref (al 2)), (1, .int a0), (2, .int a1)] [.int y1] σ2 (j35 y1 σ2)) (fun y1 σ2 => ?_) (fun j35 hj35 => ?_)
          · refine x_istore_n (pc := 35) (lv' := [(3, .int y1), (0, .ref (al 2)), (1, .int a0), (2, .int a1)]) g rfl (by decide) rfl dX4_chain_35 ?_
            refine x_iconst (pc := 36) (v := (0 : Int32)) g (by decide) dX4_chain_36 ?_
            refine x_istore (pc := 37) (lv' := [(4, .int (0 : Int32)), (3, .int y1), (0, .ref (al 2)), (1, .int a0), (2, .int a1)]) g (by decide) rfl dX4_chain_37 ?_
            refine x_lv [2, 3, 4, 1, 0] rfl ?_
            refine lpx1_ind (fun (x1 : Int32) (σ3 : Sx) (K : Option (Int32 × Sx)) => XTx p l e { frames := d + 1 + 2, cells := 0, slots := 0, locals := (d + 1) * 25 + 43 } s m args below meth c D al cA ba 6 (MQx rvI D al cA ba below args s) 0 0 39 [(0, .ref (al 2)), (1, .int a0), (2, .int a1), (3, .int y1), (4, .int x1)] [] σ3 (K)) (fun _ _ => x_no) (fun r39 hr39 x1 σ3 => ?_) N (0 : Int32) σ2
            show XTx p l e { frames := d + 1 + 2, cells := 0, slots := 0, locals := (d + 1) * 25 + 43 } s m args below meth c D al cA ba 6 (MQx rvI D al cA ba below args s) 0 0 39 [(0, .ref (al 2)), (1, .int a0), (2, .int a1), (3, .int y1), (4, .int x1)] [] σ3 (B_X4_chain_L39 N (R_X4_grp N d) a0 a1 y1 r39 x1 σ3)
            unfold B_X4_chain_L39
            refine x_iload (pc := 39) g 4 rfl dX4_chain_39 ?_
            refine x_iload_n (pc := 41) g rfl 3 rfl dX4_chain_41 ?_
            refine x_icmp_ge (pc := 42) (tgt := 101) g (by decide) dX4_chain_42 ?_ ?_
            · refine x_iconst (pc := 101) (v := (1 : Int32)) g (by decide) dX4_chain_101 ?_
              exact x_zreturn (pc := 102) g hrt (by decide) dX4_chain_102
            · refine x_aload_n (pc := 45) g rfl 0 rfl dX4_chain_45 ?_
              refine x_callVI (pc := 46) (As := []) g sh_2 (mc_X4_next ) cw_X4_next lk_X4_48 rfl ⟨by show 0 + 1 ≤ d + 1 + 2; omega, by show 8 + (1 + 11) + 0 ≤ (d + 1) * 25 + 43; omega⟩ rfl (Nat.le_of_ble_eq_true rfl) dX4_chain_46 (fun v2 σ4 => ?_)
              refine x_callSI (pc := 49) (As := [.int v2]) g (mc_X4_rankOf v2) cw_X4_rankOf lk_X4_64 rfl ⟨by show 0 + 1 ≤ d + 1 + 2; omega, by show 8 + (1 + 11) + 0 ≤ (d + 1) * 25 + 43; omega⟩ rfl (Nat.le_of_ble_eq_true rfl) dX4_chain_49 (fun v3 σ5 => ?_)
              refine x_iload_n (pc := 52) g rfl 1 rfl dX4_chain_52 ?_
              refine x_icmp_ne (pc := 53) (tgt := 101) g (by decide) dX4_chain_53 ?_ ?_
              · refine x_iconst (pc := 101) (v := (1 : Int32)) g (by decide) dX4_chain_101 ?_
                exact x_zreturn (pc := 102) g hrt (by decide) dX4_chain_102
              · refine x_aload_n (pc := 56) g rfl 0 rfl dX4_chain_56 ?_
                refine x_callVI (pc := 57) (As := []) g sh_2 (mc_X4_next ) cw_X4_next lk_X4_48 rfl ⟨by show 0 + 1 ≤ d + 1 + 2; omega, by show 8 + (1 + 11) + 0 ≤ (d + 1) * 25 + 43; omega⟩ rfl (Nat.le_of_ble_eq_true rfl) dX4_chain_57 (fun v4 σ6 => ?_)
                refine x_istore (pc := 60) (lv' := [(5, .int v4), (0, .ref (al 2)), (1, .int a0), (2, .int a1), (3, .int y1), (4, .int x1)]) g (by decide) rfl dX4_chain_60 ?_
                refine x_aload_n (pc := 62) g rfl 1 rfl dX4_chain_62 ?_
                refine x_dup (pc := 63) g rfl dX4_chain_63 ?_
                refine x_getI (pc := 64) g sh_2 fl_X4_29 rfl dX4_chain_64 ?_
                refine x_iconst (pc := 67) (v := (1 : Int32)) g (by decide) dX4_chain_67 ?_
                refine x_iadd (pc := 68) g dX4_chain_68 ?_
                refine x_putI (pc := 69) g sh_2 fl_X4_29 rfl dX4_chain_69 (fun σ7 => ?_)
                refine x_aload_n (pc := 72) g rfl 1 rfl dX4_chain_72 ?_
                refine x_iload_n (pc := 73) g rfl 2 rfl dX4_chain_73 ?_
                refine x_iconst (pc := 74) (v := (1 : Int32)) g (by decide) dX4_chain_74 ?_
                refine x_iadd (pc := 75) g dX4_chain_75 ?_
                refine x_iload_n (pc := 76) g rfl 3 rfl dX4_chain_76 ?_
                refine x_callVI (pc := 77) (As := [.int (a0 + (1 : Int32)), .int a1]) g sh_2 (ih1 (a0 + (1 : Int32)) a1) cw_X4_chain lk_X4_52 rfl ⟨by show d + 2 + 1 ≤ d + 1 + 2; omega, by show 8 + (6 + 11) + (d * 25 + 43) ≤ (d + 1) * 25 + 43; omega⟩ rfl (Nat.le_of_ble_eq_true rfl) dX4_chain_77 (fun v5 σ8 => ?_)
                refine x_if_ne (pc := 80) (tgt := 85) g (by decide) dX4_chain_80 ?_ ?_
                · refine x_aload_n (pc := 85) g rfl 1 rfl dX4_chain_85 ?_
                  refine x_sipush (pc := 86) (v := (10000 : Int32)) g (by decide) dX4_chain_86 ?_
                  refine x_iload (pc := 89) g 0 rfl dX4_chain_89 ?_
                  refine x_iadd (pc := 91) g dX4_chain_91 ?_
                  refine x_callVU (pc := 92) (As := [.int ((10000 : Int32) + v4)]) g sh_2 (mc_X4_emit ((10000 : Int32) + v4)) cw_X4_emit lk_X4_56 rfl ⟨by show 0 + 1 ≤ d + 1 + 2; omega, by show 8 + (2 + 11) + 0 ≤ (d + 1) * 25 + 43; omega⟩ rfl (Nat.le_of_ble_eq_true rfl) dX4_chain_92 (fun _ σ9 => ?_)
                  refine x_iinc (pc := 95) (v := (x1 + (1 : Int32))) (lv' := [(4, .int (x1 + (1 : Int32))), (5, .int v4), (0, .ref (al 2)), (1, .int a0), (2, .int a1), (3, .int y1)]) g 5 rfl (by rfl) (by decide) rfl dX4_chain_95 ?_
                  refine x_goto (pc := 98) (tgt := 39) g (by decide) dX4_chain_98 ?_
                  refine x_lv [2, 3, 4, 5, 0] rfl ?_
                  exact hr39 (x1 + (1 : Int32)) σ9
                · refine x_iconst (pc := 83) (v := (0 : Int32)) g (by decide) dX4_chain_83 ?_
                  exact x_zreturn (pc := 84) g hrt (by decide) dX4_chain_84
          · refine x_icmp_ne (pc := 26) (tgt := 33) g (by decide) dX4_chain_26 ?_ ?_
            · refine x_bipush (pc := 33) (v := (120 : Int32)) g (by decide) dX4_chain_33 ?_
              exact hj35 (120 : Int32) σ1
            · refine x_iconst (pc := 29) (v := (1 : Int32)) g (by decide) dX4_chain_29 ?_
              refine x_goto (pc := 30) (tgt := 35) g (by decide) dX4_chain_30 ?_
              exact hj35 (1 : Int32) σ1
        · refine x_iconst (pc := 22) (v := (0 : Int32)) g (by decide) dX4_chain_22 ?_
          exact x_zreturn (pc := 23) g hrt (by decide) dX4_chain_23
      · refine x_aload_n (pc := 5) g rfl 0 rfl dX4_chain_5 ?_
        refine x_iload_n (pc := 6) g rfl 2 rfl dX4_chain_6 ?_
        refine x_callVI (pc := 7) (As := [.int a1]) g sh_2 (ih2 a1) cw_X4_operand lk_X4_60 rfl ⟨by show d + 2 + 1 ≤ d + 1 + 2; omega, by show 8 + (3 + 11) + (d * 25 + 43) ≤ (d + 1) * 25 + 43; omega⟩ rfl (Nat.le_of_ble_eq_true rfl) dX4_chain_7 (fun v6 σ10 => ?_)
        exact x_rZ (pc := 10) g hrt dX4_chain_10
    · intro a0
      show MCx D al cA ba yX4_operand cX4_operand 3 (some .boolean) (d + 1 + 2) ((d + 1) * 25 + 43) rvI [.ref (al 2), .int a0] (G_X4_operand N (R_X4_grp N d) a0)
      refine MCx_of (by decide +kernel) (Nat.le_of_ble_eq_true rfl) ?_
      intro p l e s m args below meth c σ0 g hrt
      unfold G_X4_operand
      refine x_lv (lv' := [(0, .ref (al 2)), (1, .int a0)]) [0, 1] rfl ?_
      refine x_aload_n (pc := 0) g rfl 0 rfl dX4_operand_0 ?_
      refine x_callVI (pc := 1) (As := []) g sh_2 (mc_X4_next ) cw_X4_next lk_X4_48 rfl ⟨by show 0 + 1 ≤ d + 1 + 2; omega, by show 8 + (1 + 11) + 0 ≤ (d + 1) * 25 + 43; omega⟩ rfl (Nat.le_of_ble_eq_true rfl) dX4_operand_1 (fun v1 σ1 => ?_)
      refine x_istore_n (pc := 4) (lv' := [(2, .int v1), (0, .ref (al 2)), (1, .int a0)]) g rfl (by decide) rfl dX4_operand_4 ?_
      refine x_iload_n (pc := 5) g rfl 0 rfl dX4_operand_5 ?_
      refine x_callSI (pc := 6) (As := [.int v1]) g (mc_X4_isDigit v1) cw_X4_isDigit lk_X4_68 rfl ⟨by show 0 + 1 ≤ d + 1 + 2; omega, by show 8 + (1 + 11) + 0 ≤ (d + 1) * 25 + 43; omega⟩ rfl (Nat.le_of_ble_eq_true rfl) dX4_operand_6 (fun v2 σ2 => ?_)
      refine x_if_eq (pc := 9) (tgt := 18) g (by decide) dX4_operand_9 ?_ ?_
      · refine x_iload_n (pc := 18) g rfl 0 rfl dX4_operand_18 ?_
        refine x_callSI (pc := 19) (As := [.int v1]) g (mc_X4_isName v1) cw_X4_isName lk_X4_74 rfl ⟨by show 0 + 1 ≤ d + 1 + 2; omega, by show 8 + (1 + 11) + 0 ≤ (d + 1) * 25 + 43; omega⟩ rfl (Nat.le_of_ble_eq_true rfl) dX4_operand_19 (fun v3 σ3 => ?_)
        refine x_if_eq (pc := 22) (tgt := 46) g (by decide) dX4_operand_22 ?_ ?_
        · refine x_iload_n (pc := 46) g rfl 0 rfl dX4_operand_46 ?_
          refine x_bipush (pc := 47) (v := (40 : Int32)) g (by decide) dX4_operand_47 ?_
          refine x_jn (fun (j64 : Sx → Option (Int32 × Sx)) => ∀ (σ4 : Sx), XTx p l e { frames := d + 1 + 2, cells := 0, slots := 0, locals := (d + 1) * 25 + 43 } s m args below meth c D al cA ba 3 (MQx rvI D al cA ba below args s) 0 0 64 [(0, .ref (al 2)), (1, .int a0), (2, .int v1)] [] σ4 (j64 σ4)) (fun σ4 => ?_) (fun j64 hj64 => ?_)
          · refine x_iload_n (pc := 64) g rfl 1 rfl dX4_operand_64 ?_
            refine x_bipush (pc := 65) (v := (6 : Int32)) g (by decide) dX4_operand_65 ?_
            refine x_icmp_lt (pc := 67) (tgt := 72) g (by decide) dX4_operand_67 ?_ ?_
            · refine x_aload_n (pc := 72) g rfl 0 rfl dX4_operand_72 ?_
              refine x_dup (pc := 73) g rfl dX4_operand_73 ?_
              refine x_getI (pc := 74) g sh_2 fl_X4_29 rfl dX4_operand_74 ?_
              refine x_iconst (pc := 77) (v := (1 : Int32)) g (by decide) dX4_operand_77 ?_
              refine x_iadd (pc := 78) g dX4_operand_78 ?_
              refine x_putI (pc := 79) g sh_2 fl_X4_29 rfl dX4_operand_79 (fun σ5 => ?_)
              refine x_iload_n (pc := 82) g rfl 2 rfl dX4_operand_82 ?_
              refine x_bipush (pc := 83) (v := (40 : Int32)) g (by decide) dX4_operand_83 ?_
              refine x_icmp_ne (pc := 85) (tgt := 98) g (by decide) dX4_operand_85 ?_ ?_
              · refine x_aload_n (pc := 98) g rfl 0 rfl dX4_operand_98 ?_
                refine x_iload_n (pc := 99) g rfl 2 rfl dX4_operand_99 ?_
                refine x_iload_n (pc := 100) g rfl 1 rfl dX4_operand_100 ?_
                refine x_iconst (pc := 101) (v := (1 : Int32)) g (by decide) dX4_operand_101 ?_
                refine x_iadd (pc := 102) g dX4_operand_102 ?_
                refine x_callVI (pc := 103) (As := [.int v1, .int (a0 + (1 : Int32))]) g sh_2 (ih3 v1 (a0 + (1 : Int32))) cw_X4_prefixed lk_X4_80 rfl ⟨by show d + 2 + 1 ≤ d + 1 + 2; omega, by show 8 + (3 + 11) + (d * 25 + 43) ≤ (d + 1) * 25 + 43; omega⟩ rfl (Nat.le_of_ble_eq_true rfl) dX4_operand_103 (fun v4 σ6 => ?_)
                exact x_rZ (pc := 106) g hrt dX4_operand_106
              · refine x_aload_n (pc := 88) g rfl 0 rfl dX4_operand_88 ?_
                refine x_iload_n (pc := 89) g rfl 1 rfl dX4_operand_89 ?_
                refine x_iconst (pc := 90) (v := (1 : Int32)) g (by decide) dX4_operand_90 ?_
                refine x_iadd (pc := 91) g dX4_operand_91 ?_
                refine x_callVI (pc := 92) (As := [.int (a0 + (1 : Int32))]) g sh_2 (ih0 (a0 + (1 : Int32))) cw_X4_bracketed lk_X4_77 rfl ⟨by show d + 2 + 1 ≤ d + 1 + 2; omega, by show 8 + (2 + 11) + (d * 25 + 43) ≤ (d + 1) * 25 + 43; omega⟩ rfl (Nat.le_of_ble_eq_true rfl) dX4_operand_92 (fun v5 σ7 => ?_)
                refine x_goto (pc := 95) (tgt := 106) g (by decide) dX4_operand_95 ?_
                exact x_rZ (pc := 106) g hrt dX4_operand_106
            · refine x_iconst (pc := 70) (v := (0 : Int32)) g (by decide) dX4_operand_70 ?_
              exact x_zreturn (pc := 71) g hrt (by decide) dX4_operand_71
          · refine x_icmp_eq (pc := 49) (tgt := 64) g (by decide) dX4_operand_49 ?_ ?_
            · refine x_lv [1, 2, 0] rfl ?_
              exact hj64 σ3
            · refine x_iload_n (pc := 52) g rfl 0 rfl dX4_operand_52 ?_
              refine x_bipush (pc := 53) (v := (33 : Int32)) g (by decide) dX4_operand_53 ?_
              refine x_icmp_eq (pc := 55) (tgt := 64) g (by decide) dX4_operand_55 ?_ ?_
              · refine x_lv [1, 2, 0] rfl ?_
                exact hj64 σ3
              · refine x_iload_n (pc := 58) g rfl 0 rfl dX4_operand_58 ?_
                refine x_bipush (pc := 59) (v := (45 : Int32)) g (by decide) dX4_operand_59 ?_
                refine x_icmp_ne (pc := 61) (tgt := 70) g (by decide) dX4_operand_61 ?_ ?_
                · refine x_iconst (pc := 70) (v := (0 : Int32)) g (by decide) dX4_operand_70 ?_
                  exact x_zreturn (pc := 71) g hrt (by decide) dX4_operand_71
                · refine x_lv [1, 2, 0] rfl ?_
                  exact hj64 σ3
        · refine x_aload_n (pc := 25) g rfl 1 rfl dX4_operand_25 ?_
          refine x_dup (pc := 26) g rfl dX4_operand_26 ?_
          refine x_getI (pc := 27) g sh_2 fl_X4_29 rfl dX4_operand_27 ?_
          refine x_iconst (pc := 30) (v := (1 : Int32)) g (by decide) dX4_operand_30 ?_
          refine x_iadd (pc := 31) g dX4_operand_31 ?_
          refine x_putI (pc := 32) g sh_2 fl_X4_29 rfl dX4_operand_32 (fun σ8 => ?_)
          refine x_aload_n (pc := 35) g rfl 1 rfl dX4_operand_35 ?_
          refine x_sipush (pc := 36) (v := (10000 : Int32)) g (by decide) dX4_operand_36 ?_
          refine x_iload_n (pc := 39) g rfl 0 rfl dX4_operand_39 ?_
          refine x_iadd (pc := 40) g dX4_operand_40 ?_
          refine x_callVU (pc := 41) (As := [.int ((10000 : Int32) + v1)]) g sh_2 (mc_X4_emit ((10000 : Int32) + v1)) cw_X4_emit lk_X4_56 rfl ⟨by show 0 + 1 ≤ d + 1 + 2; omega, by show 8 + (2 + 11) + 0 ≤ (d + 1) * 25 + 43; omega⟩ rfl (Nat.le_of_ble_eq_true rfl) dX4_operand_41 (fun _ σ9 => ?_)
          refine x_iconst (pc := 44) (v := (1 : Int32)) g (by decide) dX4_operand_44 ?_
          exact x_zreturn (pc := 45) g hrt (by decide) dX4_operand_45
      · refine x_aload_n (pc := 12) g rfl 1 rfl dX4_operand_12 ?_
        refine x_callVU (pc := 13) (As := []) g sh_2 (mc_X4_number N ) cw_X4_number lk_X4_71 rfl ⟨by show 1 + 1 ≤ d + 1 + 2; omega, by show 8 + (3 + 11) + 21 ≤ (d + 1) * 25 + 43; omega⟩ rfl (Nat.le_of_ble_eq_true rfl) dX4_operand_13 (fun _ σ10 => ?_)
        refine x_iconst (pc := 16) (v := (1 : Int32)) g (by decide) dX4_operand_16 ?_
        exact x_zreturn (pc := 17) g hrt (by decide) dX4_operand_17
    · intro a0 a1
      show MCx D al cA ba yX4_prefixed cX4_prefixed 3 (some .boolean) (d + 1 + 2) ((d + 1) * 25 + 43) rvI [.ref (al 2), .int a0, .int a1] (G_X4_prefixed N (R_X4_grp N d) a0 a1)
      refine MCx_of (by decide +kernel) (Nat.le_of_ble_eq_true rfl) ?_
      intro p l e s m args below meth c σ0 g hrt
      unfold G_X4_prefixed
      refine x_lv (lv' := [(0, .ref (al 2)), (1, .int a0), (2, .int a1)]) [0, 1, 2] rfl ?_
      refine x_aload_n (pc := 0) g rfl 0 rfl dX4_prefixed_0 ?_
      refine x_iload_n (pc := 1) g rfl 2 rfl dX4_prefixed_1 ?_
      refine x_callVI (pc := 2) (As := [.int a1]) g sh_2 (ih2 a1) cw_X4_operand lk_X4_60 rfl ⟨by show d + 2 + 1 ≤ d + 1 + 2; omega, by show 8 + (3 + 11) + (d * 25 + 43) ≤ (d + 1) * 25 + 43; omega⟩ rfl (Nat.le_of_ble_eq_true rfl) dX4_prefixed_2 (fun v1 σ1 => ?_)
      refine x_if_ne (pc := 5) (tgt := 10) g (by decide) dX4_prefixed_5 ?_ ?_
      · refine x_aload_n (pc := 10) g rfl 0 rfl dX4_prefixed_10 ?_
        refine x_sipush (pc := 11) (v := (10000 : Int32)) g (by decide) dX4_prefixed_11 ?_
        refine x_iload_n (pc := 14) g rfl 1 rfl dX4_prefixed_14 ?_
        refine x_bipush (pc := 15) (v := (45 : Int32)) g (by decide) dX4_prefixed_15 ?_
        refine x_jn (fun (j26 : Int32 → Sx → Option (Int32 × Sx)) => ∀ (y1 : Int32) (σ2 : Sx), XTx p l e { frames := d + 1 + 2, cells := 0, slots := 0, locals := (d + 1) * 25 + 43 } s m args below meth c D al cA ba 3 (MQx rvI D al cA ba below args s) 0 0 26 [] [.int y1, .int (10000 : Int32), .ref (al 2)] σ2 (j26 y1 σ2)) (fun y1 σ2 => ?_) (fun j26 hj26 => ?_)
        · refine x_iadd (pc := 26) g dX4_prefixed_26 ?_
          refine x_callVU (pc := 27) (As := [.int ((10000 : Int32) + y1)]) g sh_2 (mc_X4_emit ((10000 : Int32) + y1)) cw_X4_emit lk_X4_56 rfl ⟨by show 0 + 1 ≤ d + 1 + 2; omega, by show 8 + (2 + 11) + 0 ≤ (d + 1) * 25 + 43; omega⟩ rfl (Nat.le_of_ble_eq_true rfl) dX4_prefixed_27 (fun _ σ3 => ?_)
          refine x_iconst (pc := 30) (v := (1 : Int32)) g (by decide) dX4_prefixed_30 ?_
          exact x_zreturn (pc := 31) g hrt (by decide) dX4_prefixed_31
        · refine x_icmp_ne (pc := 17) (tgt := 25) g (by decide) dX4_prefixed_17 ?_ ?_
          · refine x_iload_n (pc := 25) g rfl 1 rfl dX4_prefixed_25 ?_
            refine x_lv [] rfl ?_
            exact hj26 a0 σ1
          · refine x_bipush (pc := 20) (v := (126 : Int32)) g (by decide) dX4_prefixed_20 ?_
            refine x_goto (pc := 22) (tgt := 26) g (by decide) dX4_prefixed_22 ?_
            refine x_lv [] rfl ?_
            exact hj26 (126 : Int32) σ1
      · refine x_iconst (pc := 8) (v := (0 : Int32)) g (by decide) dX4_prefixed_8 ?_
        exact x_zreturn (pc := 9) g hrt (by decide) dX4_prefixed_9
def F_X4_bracketed (N : Nat) (a0 : Int32) (σ0 : Sx) : Option (Int32 × Sx) := R_X4_grp N 64 0 a0 (0 : Int32) σ0
theorem mc_X4_bracketed {D : va_G} {al : Nat → Nat} {cA : Nat → ClassId} {ba : Nat} (N : Nat) (a0 : Int32) : MCx D al cA ba yX4_bracketed cX4_bracketed 2 (some .boolean) 66 1643 rvI [.ref (al 2), .int a0] (F_X4_bracketed N a0) := (rc_X4_grp N 64).1 a0
def F_X4_chain (N : Nat) (a0 : Int32) (a1 : Int32) (σ0 : Sx) : Option (Int32 × Sx) := R_X4_grp N 64 1 a0 a1 σ0
theorem mc_X4_chain {D : va_G} {al : Nat → Nat} {cA : Nat → ClassId} {ba : Nat} (N : Nat) (a0 : Int32) (a1 : Int32) : MCx D al cA ba yX4_chain cX4_chain 6 (some .boolean) 66 1643 rvI [.ref (al 2), .int a0, .int a1] (F_X4_chain N a0 a1) := (rc_X4_grp N 64).2.1 a0 a1
def F_X4_operand (N : Nat) (a0 : Int32) (σ0 : Sx) : Option (Int32 × Sx) := R_X4_grp N 64 2 a0 (0 : Int32) σ0
theorem mc_X4_operand {D : va_G} {al : Nat → Nat} {cA : Nat → ClassId} {ba : Nat} (N : Nat) (a0 : Int32) : MCx D al cA ba yX4_operand cX4_operand 3 (some .boolean) 66 1643 rvI [.ref (al 2), .int a0] (F_X4_operand N a0) := (rc_X4_grp N 64).2.2.1 a0
def F_X4_prefixed (N : Nat) (a0 : Int32) (a1 : Int32) (σ0 : Sx) : Option (Int32 × Sx) := R_X4_grp N 64 3 a0 a1 σ0
theorem mc_X4_prefixed {D : va_G} {al : Nat → Nat} {cA : Nat → ClassId} {ba : Nat} (N : Nat) (a0 : Int32) (a1 : Int32) : MCx D al cA ba yX4_prefixed cX4_prefixed 3 (some .boolean) 66 1643 rvI [.ref (al 2), .int a0, .int a1] (F_X4_prefixed N a0 a1) := (rc_X4_grp N 64).2.2.2 a0 a1
def F_X4_line (N : Nat) (σ0 : Sx) : Option (Int32 × Sx) := clx (F_X4_chain N (0 : Int32) (0 : Int32) σ0) (fun v1 σ1 => (if v1 = 0 then some ((0 : Int32), σ1) else clx (F_X4_next  σ1) (fun v2 σ2 => nmx (fun (σ3 : Sx) => clx (F_X4_emit (10059 : Int32) σ3) (fun _ σ4 => some ((1 : Int32), σ4))) (fun (j48 : Sx → Option (Int32 × Sx)) => (if v2 = (63 : Int32) then pIx 2 2 ((siI σ2 2 2) + (1 : Int32)) σ2 (fun σ5 => clx (F_X4_emit (10063 : Int32) σ5) (fun _ σ6 => clx (F_X4_chain N (0 : Int32) (0 : Int32) σ6) (fun v3 σ7 => (if v3 = 0 then some ((0 : Int32), σ7) else j48 σ7)))) else j48 σ2)))))
set_option maxRecDepth 100000 in
set_option maxHeartbeats 4000000 in
theorem mc_X4_line {D : va_G} {al : Nat → Nat} {cA : Nat → ClassId} {ba : Nat} (N : Nat)  : MCx D al cA ba yX4_line cX4_line 1 (some .boolean) 67 1668 rvI [.ref (al 2)] (F_X4_line N) := by
  refine MCx_of (by decide +kernel) (Nat.le_of_ble_eq_true rfl) ?_
  intro p l e s m args below meth c σ0 g hrt
  unfold F_X4_line
  refine x_lv (lv' := [(0, .ref (al 2))]) [0] rfl ?_
  refine x_aload_n (pc := 0) g rfl 0 rfl dX4_line_0 ?_
  refine x_iconst (pc := 1) (v := (0 : Int32)) g (by decide) dX4_line_1 ?_
  refine x_iconst (pc := 2) (v := (0 : Int32)) g (by decide) dX4_line_2 ?_
  refine x_callVI (pc := 3) (As := [.int (0 : Int32), .int (0 : Int32)]) g sh_2 (mc_X4_chain N (0 : Int32) (0 : Int32)) cw_X4_chain lk_X4_52 rfl ⟨Nat.le_of_ble_eq_true rfl, Nat.le_of_ble_eq_true rfl⟩ rfl (Nat.le_of_ble_eq_true rfl) dX4_line_3 (fun v1 σ1 => ?_)
  refine x_if_ne (pc := 6) (tgt := 11) g (by decide) dX4_line_6 ?_ ?_
  · refine x_aload_n (pc := 11) g rfl 0 rfl dX4_line_11 ?_
    refine x_callVI (pc := 12) (As := []) g sh_2 (mc_X4_next ) cw_X4_next lk_X4_48 rfl ⟨Nat.le_of_ble_eq_true rfl, Nat.le_of_ble_eq_true rfl⟩ rfl (Nat.le_of_ble_eq_true rfl) dX4_line_12 (fun v2 σ2 => ?_)
    refine x_bipush (pc := 15) (v := (63 : Int32)) g (by decide) dX4_line_15 ?_
    refine x_jn (fun (j48 : Sx → Option (Int32 × Sx)) => ∀ (σ3 : Sx), XTx p l e { frames := 67, cells := 0, slots := 0, locals := 1668 } s m args below meth c D al cA ba 1 (MQx rvI D al cA ba below args s) 0 0 48 [(0, .ref (al 2))] [] σ3 (j48 σ3)) (fun σ3 => ?_) (fun j48 hj48 => ?_)
    · refine x_aload_n (pc := 48) g rfl 0 rfl dX4_line_48 ?_
      refine x_sipush (pc := 49) (v := (10059 : Int32)) g (by decide) dX4_line_49 ?_
      refine x_callVU (pc := 52) (As := [.int (10059 : Int32)]) g sh_2 (mc_X4_emit (10059 : Int32)) cw_X4_emit lk_X4_56 rfl ⟨Nat.le_of_ble_eq_true rfl, Nat.le_of_ble_eq_true rfl⟩ rfl (Nat.le_of_ble_eq_true rfl) dX4_line_52 (fun _ σ4 => ?_)
      refine x_iconst (pc := 55) (v := (1 : Int32)) g (by decide) dX4_line_55 ?_
      exact x_zreturn (pc := 56) g hrt (by decide) dX4_line_56
    · refine x_icmp_ne (pc := 17) (tgt := 48) g (by decide) dX4_line_17 ?_ ?_
      · exact hj48 σ2
      · refine x_aload_n (pc := 20) g rfl 0 rfl dX4_line_20 ?_
        refine x_dup (pc := 21) g rfl dX4_line_21 ?_
        refine x_getI (pc := 22) g sh_2 fl_X4_29 rfl dX4_line_22 ?_
        refine x_iconst (pc := 25) (v := (1 : Int32)) g (by decide) dX4_line_25 ?_
        refine x_iadd (pc := 26) g dX4_line_26 ?_
        refine x_putI (pc := 27) g sh_2 fl_X4_29 rfl dX4_line_27 (fun σ5 => ?_)
        refine x_aload_n (pc := 30) g rfl 0 rfl dX4_line_30 ?_
        refine x_sipush (pc := 31) (v := (10063 : Int32)) g (by decide) dX4_line_31 ?_
        refine x_callVU (pc := 34) (As := [.int (10063 : Int32)]) g sh_2 (mc_X4_emit (10063 : Int32)) cw_X4_emit lk_X4_56 rfl ⟨Nat.le_of_ble_eq_true rfl, Nat.le_of_ble_eq_true rfl⟩ rfl (Nat.le_of_ble_eq_true rfl) dX4_line_34 (fun _ σ6 => ?_)
        refine x_aload_n (pc := 37) g rfl 0 rfl dX4_line_37 ?_
        refine x_iconst (pc := 38) (v := (0 : Int32)) g (by decide) dX4_line_38 ?_
        refine x_iconst (pc := 39) (v := (0 : Int32)) g (by decide) dX4_line_39 ?_
        refine x_callVI (pc := 40) (As := [.int (0 : Int32), .int (0 : Int32)]) g sh_2 (mc_X4_chain N (0 : Int32) (0 : Int32)) cw_X4_chain lk_X4_52 rfl ⟨Nat.le_of_ble_eq_true rfl, Nat.le_of_ble_eq_true rfl⟩ rfl (Nat.le_of_ble_eq_true rfl) dX4_line_40 (fun v3 σ7 => ?_)
        refine x_if_ne (pc := 43) (tgt := 48) g (by decide) dX4_line_43 ?_ ?_
        · exact hj48 σ7
        · refine x_iconst (pc := 46) (v := (0 : Int32)) g (by decide) dX4_line_46 ?_
          exact x_zreturn (pc := 47) g hrt (by decide) dX4_line_47
  · refine x_iconst (pc := 9) (v := (0 : Int32)) g (by decide) dX4_line_9 ?_
    exact x_zreturn (pc := 10) g hrt (by decide) dX4_line_10
def B_X4_text_L2 (N : Nat) (r2 : Int32 → Sx → Option (Int32 × Sx)) (x1 : Int32) (σ1 : Sx) : Option (Int32 × Sx) := (if (120 : Int32) ≤ x1 then some ((0 : Int32), σ1) else clx (F_X4_line N  σ1) (fun v1 σ2 => (if v1 = 0 then some ((0 : Int32), σ2) else (if (siI σ2 2 2) = (siI σ2 2 0) then some ((1 : Int32), σ2) else clx (F_X4_next  σ2) (fun v2 σ3 => (if v2 = (59 : Int32) then pIx 2 2 ((siI σ3 2 2) + (1 : Int32)) σ3 (fun σ4 => r2 (x1 + (1 : Int32)) σ4) else some ((0 : Int32), σ3)))))))
def F_X4_text (N : Nat) (σ0 : Sx) : Option (Int32 × Sx) := lpx1 (B_X4_text_L2 N) N (0 : Int32) σ0
set_option maxRecDepth 100000 in
set_option maxHeartbeats 4000000 in
theorem mc_X4_text {D : va_G} {al : Nat → Nat} {cA : Nat → ClassId} {ba : Nat} (N : Nat)  : MCx D al cA ba yX4_text cX4_text 2 (some .boolean) 68 1688 rvI [.ref (al 2)] (F_X4_text N) := by
  refine MCx_of (by decide +kernel) (Nat.le_of_ble_eq_true rfl) ?_
  intro p l e s m args below meth c σ0 g hrt
  unfold F_X4_text
  refine x_lv (lv' := [(0, .ref (al 2))]) [0] rfl ?_
  refine x_iconst (pc := 0) (v := (0 : Int32)) g (by decide) dX4_text_0 ?_
  refine x_istore_n (pc := 1) (lv' := [(1, .int (0 : Int32)), (0, .ref (al 2))]) g rfl (by decide) rfl dX4_text_1 ?_
  refine x_lv [1, 0] rfl ?_
  refine lpx1_ind (fun (x1 : Int32) (σ1 : Sx) (K : Option (Int32 × Sx)) => XTx p l e { frames := 68, cells := 0, slots := 0, locals := 1688 } s m args below meth c D al cA ba 2 (MQx rvI D al cA ba below args s) 0 0 2 [(0, .ref (al 2)), (1, .int x1)] [] σ1 (K)) (fun _ _ => x_no) (fun r2 hr2 x1 σ1 => ?_) N (0 : Int32) σ0
  show XTx p l e { frames := 68, cells := 0, slots := 0, locals := 1688 } s m args below meth c D al cA ba 2 (MQx rvI D al cA ba below args s) 0 0 2 [(0, .ref (al 2)), (1, .int x1)] [] σ1 (B_X4_text_L2 N r2 x1 σ1)
  unfold B_X4_text_L2
  refine x_iload_n (pc := 2) g rfl 1 rfl dX4_text_2 ?_
  refine x_bipush (pc := 3) (v := (120 : Int32)) g (by decide) dX4_text_3 ?_
  refine x_icmp_ge (pc := 5) (tgt := 57) g (by decide) dX4_text_5 ?_ ?_
  · refine x_iconst (pc := 57) (v := (0 : Int32)) g (by decide) dX4_text_57 ?_
    exact x_zreturn (pc := 58) g hrt (by decide) dX4_text_58
  · refine x_aload_n (pc := 8) g rfl 0 rfl dX4_text_8 ?_
    refine x_callVI (pc := 9) (As := []) g sh_2 (mc_X4_line N ) cw_X4_line lk_X4_45 rfl ⟨Nat.le_of_ble_eq_true rfl, Nat.le_of_ble_eq_true rfl⟩ rfl (Nat.le_of_ble_eq_true rfl) dX4_text_9 (fun v1 σ2 => ?_)
    refine x_if_ne (pc := 12) (tgt := 17) g (by decide) dX4_text_12 ?_ ?_
    · refine x_aload_n (pc := 17) g rfl 0 rfl dX4_text_17 ?_
      refine x_getI (pc := 18) g sh_2 fl_X4_29 rfl dX4_text_18 ?_
      refine x_aload_n (pc := 21) g rfl 0 rfl dX4_text_21 ?_
      refine x_getI (pc := 22) g sh_2 fl_X4_26 rfl dX4_text_22 ?_
      refine x_icmp_ne (pc := 25) (tgt := 30) g (by decide) dX4_text_25 ?_ ?_
      · refine x_aload_n (pc := 30) g rfl 0 rfl dX4_text_30 ?_
        refine x_callVI (pc := 31) (As := []) g sh_2 (mc_X4_next ) cw_X4_next lk_X4_48 rfl ⟨Nat.le_of_ble_eq_true rfl, Nat.le_of_ble_eq_true rfl⟩ rfl (Nat.le_of_ble_eq_true rfl) dX4_text_31 (fun v2 σ3 => ?_)
        refine x_bipush (pc := 34) (v := (59 : Int32)) g (by decide) dX4_text_34 ?_
        refine x_icmp_eq (pc := 36) (tgt := 41) g (by decide) dX4_text_36 ?_ ?_
        · refine x_aload_n (pc := 41) g rfl 0 rfl dX4_text_41 ?_
          refine x_dup (pc := 42) g rfl dX4_text_42 ?_
          refine x_getI (pc := 43) g sh_2 fl_X4_29 rfl dX4_text_43 ?_
          refine x_iconst (pc := 46) (v := (1 : Int32)) g (by decide) dX4_text_46 ?_
          refine x_iadd (pc := 47) g dX4_text_47 ?_
          refine x_putI (pc := 48) g sh_2 fl_X4_29 rfl dX4_text_48 (fun σ4 => ?_)
          refine x_iinc (pc := 51) (v := (x1 + (1 : Int32))) (lv' := [(1, .int (x1 + (1 : Int32))), (0, .ref (al 2))]) g 1 rfl (by rfl) (by decide) rfl dX4_text_51 ?_
          refine x_goto (pc := 54) (tgt := 2) g (by decide) dX4_text_54 ?_
          refine x_lv [1, 0] rfl ?_
          exact hr2 (x1 + (1 : Int32)) σ4
        · refine x_iconst (pc := 39) (v := (0 : Int32)) g (by decide) dX4_text_39 ?_
          exact x_zreturn (pc := 40) g hrt (by decide) dX4_text_40
      · refine x_iconst (pc := 28) (v := (1 : Int32)) g (by decide) dX4_text_28 ?_
        exact x_zreturn (pc := 29) g hrt (by decide) dX4_text_29
    · refine x_iconst (pc := 15) (v := (0 : Int32)) g (by decide) dX4_text_15 ?_
      exact x_zreturn (pc := 16) g hrt (by decide) dX4_text_16
def F_X4_adopt (N : Nat) (σ0 : Sx) : Option (Int32 × Sx) := pIx 2 2 (0 : Int32) σ0 (fun σ1 => pIx 2 4 (0 : Int32) σ1 (fun σ2 => clx (F_X4_text N  σ2) (fun v1 σ3 => pIx 2 0 (0 : Int32) σ3 (fun σ4 => (if v1 = 0 then some ((siI σ4 2 2), σ4) else cIx 80 121 (0 : Int32) 81 121 (0 : Int32) (siI σ4 2 4) σ4 (fun σ5 => pIx 2 6 (siI σ5 2 4) σ5 (fun σ6 => some ((-1 : Int32), σ6))))))))
set_option maxRecDepth 100000 in
set_option maxHeartbeats 4000000 in
theorem mc_X4_adopt {D : va_G} {al : Nat → Nat} {cA : Nat → ClassId} {ba : Nat} (N : Nat)  : MCx D al cA ba yX4_adopt cX4_adopt 2 (some .int) 69 1709 rvI [.ref (al 2)] (F_X4_adopt N) := by
  refine MCx_of (by decide +kernel) (Nat.le_of_ble_eq_true rfl) ?_
  intro p l e s m args below meth c σ0 g hrt
  unfold F_X4_adopt
  refine x_lv (lv' := [(0, .ref (al 2))]) [0] rfl ?_
  refine x_aload_n (pc := 0) g rfl 0 rfl dX4_adopt_0 ?_
  refine x_iconst (pc := 1) (v := (0 : Int32)) g (by decide) dX4_adopt_1 ?_
  refine x_putI (pc := 2) g sh_2 fl_X4_29 rfl dX4_adopt_2 (fun σ1 => ?_)
  refine x_aload_n (pc := 5) g rfl 0 rfl dX4_adopt_5 ?_
  refine x_iconst (pc := 6) (v := (0 : Int32)) g (by decide) dX4_adopt_6 ?_
  refine x_putI (pc := 7) g sh_2 fl_X4_32 rfl dX4_adopt_7 (fun σ2 => ?_)
  refine x_aload_n (pc := 10) g rfl 0 rfl dX4_adopt_10 ?_
  refine x_callVI (pc := 11) (As := []) g sh_2 (mc_X4_text N ) cw_X4_text lk_X4_35 rfl ⟨Nat.le_of_ble_eq_true rfl, Nat.le_of_ble_eq_true rfl⟩ rfl (Nat.le_of_ble_eq_true rfl) dX4_adopt_11 (fun v1 σ3 => ?_)
  refine x_istore_n (pc := 14) (lv' := [(1, .int v1), (0, .ref (al 2))]) g rfl (by decide) rfl dX4_adopt_14 ?_
  refine x_aload_n (pc := 15) g rfl 1 rfl dX4_adopt_15 ?_
  refine x_iconst (pc := 16) (v := (0 : Int32)) g (by decide) dX4_adopt_16 ?_
  refine x_putI (pc := 17) g sh_2 fl_X4_26 rfl dX4_adopt_17 (fun σ4 => ?_)
  refine x_iload_n (pc := 20) g rfl 0 rfl dX4_adopt_20 ?_
  refine x_if_ne (pc := 21) (tgt := 29) g (by decide) dX4_adopt_21 ?_ ?_
  · refine x_aload_n (pc := 29) g rfl 1 rfl dX4_adopt_29 ?_
    refine x_getR (pc := 30) g sh_2 fl_X4_13 rfl dX4_adopt_30 ?_
    refine x_iconst (pc := 33) (v := (0 : Int32)) g (by decide) dX4_adopt_33 ?_
    refine x_aload_n (pc := 34) g rfl 1 rfl dX4_adopt_34 ?_
    refine x_getR (pc := 35) g sh_2 fl_X4_16 rfl dX4_adopt_35 ?_
    refine x_iconst (pc := 38) (v := (0 : Int32)) g (by decide) dX4_adopt_38 ?_
    refine x_aload_n (pc := 39) g rfl 1 rfl dX4_adopt_39 ?_
    refine x_getI (pc := 40) g sh_2 fl_X4_32 rfl dX4_adopt_40 ?_
    refine x_copyI (pc := 43) g sh_80 sh_81 (by decide) (by decide) lk_X4_39 (Nat.le_of_ble_eq_true rfl) (Nat.le_of_ble_eq_true rfl) dX4_adopt_43 (Nat.le_of_ble_eq_true rfl) (fun σ5 => ?_)
    refine x_aload_n (pc := 46) g rfl 1 rfl dX4_adopt_46 ?_
    refine x_aload_n (pc := 47) g rfl 1 rfl dX4_adopt_47 ?_
    refine x_getI (pc := 48) g sh_2 fl_X4_32 rfl dX4_adopt_48 ?_
    refine x_putI (pc := 51) g sh_2 fl_X4_22 rfl dX4_adopt_51 (fun σ6 => ?_)
    refine x_iconst (pc := 54) (v := (-1 : Int32)) g (by decide) dX4_adopt_54 ?_
    exact x_ireturn (pc := 55) g hrt dX4_adopt_55
  · refine x_aload_n (pc := 24) g rfl 1 rfl dX4_adopt_24 ?_
    refine x_getI (pc := 25) g sh_2 fl_X4_29 rfl dX4_adopt_25 ?_
    exact x_ireturn (pc := 28) g hrt dX4_adopt_28
