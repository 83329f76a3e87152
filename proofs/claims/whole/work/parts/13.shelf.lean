def F_X6_refusalOfSort (k0 : Nat) (a0 : Int32) (σ0 : Sx) : Option (Int32 × Sx) := (if (siI σ0 (10 + k0) 0) = (-1 : Int32) then some ((-11 : Int32), σ0) else (if (siI σ0 (10 + k0) 0) = a0 then some ((0 : Int32), σ0) else some ((-12 : Int32), σ0)))
set_option maxRecDepth 100000 in
set_option maxHeartbeats 4000000 in
theorem mc_X6_refusalOfSort {D : va_G} {al : Nat → Nat} {cA : Nat → ClassId} {ba : Nat} (k0 : Nat) (hk0 : k0 < 6) (a0 : Int32) : MCx D al cA ba yX6_refusalOfSort cX6_refusalOfSort 2 (some .int) 0 0 rvI [.ref (al (10 + k0)), .int a0] (F_X6_refusalOfSort k0 a0) := by
  refine MCx_of (by decide +kernel) (Nat.le_of_ble_eq_true rfl) ?_
  intro p l e s m args below meth c σ0 g hrt
  unfold F_X6_refusalOfSort
  refine x_lv (lv' := [(0, .ref (al (10 + k0))), (1, .int a0)]) [0, 1] rfl ?_
  refine x_aload_n (pc := 0) g rfl 0 rfl dX6_refusalOfSort_0 ?_
  refine x_getI (pc := 1) g (shf_10 k0 hk0) fl_X6_11 rfl dX6_refusalOfSort_1 ?_
  refine x_iconst (pc := 4) (v := (-1 : Int32)) g (by decide) dX6_refusalOfSort_4 ?_
  refine x_icmp_ne (pc := 5) (tgt := 11) g (by decide) dX6_refusalOfSort_5 ?_ ?_
  · refine x_aload_n (pc := 11) g rfl 0 rfl dX6_refusalOfSort_11 ?_
    refine x_getI (pc := 12) g (shf_10 k0 hk0) fl_X6_11 rfl dX6_refusalOfSort_12 ?_
    refine x_iload_n (pc := 15) g rfl 1 rfl dX6_refusalOfSort_15 ?_
    refine x_icmp_ne (pc := 16) (tgt := 23) g (by decide) dX6_refusalOfSort_16 ?_ ?_
    · refine x_bipush (pc := 23) (v := (-12 : Int32)) g (by decide) dX6_refusalOfSort_23 ?_
      exact x_ireturn (pc := 25) g hrt dX6_refusalOfSort_25
    · refine x_iconst (pc := 19) (v := (0 : Int32)) g (by decide) dX6_refusalOfSort_19 ?_
      refine x_goto (pc := 20) (tgt := 25) g (by decide) dX6_refusalOfSort_20 ?_
      exact x_ireturn (pc := 25) g hrt dX6_refusalOfSort_25
  · refine x_bipush (pc := 8) (v := (-11 : Int32)) g (by decide) dX6_refusalOfSort_8 ?_
    exact x_ireturn (pc := 10) g hrt dX6_refusalOfSort_10
def F_X6_isWithin (a0 : Int64) (a1 : Int32) (σ0 : Sx) : Option (Int32 × Sx) := (if (lg_cmp a0 (0 : Int64)) < 0 then some ((0 : Int32), σ0) else (if 0 < (lg_cmp a0 a1.toInt64) then some ((0 : Int32), σ0) else some ((1 : Int32), σ0)))
set_option maxRecDepth 100000 in
set_option maxHeartbeats 4000000 in
theorem mc_X6_isWithin {D : va_G} {al : Nat → Nat} {cA : Nat → ClassId} {ba : Nat} (a0 : Int64) (a1 : Int32) : MCx D al cA ba yX6_isWithin cX6_isWithin 3 (some .boolean) 0 0 rvI [.long a0, .int a1] (F_X6_isWithin a0 a1) := by
  refine MCx_of (by decide +kernel) (Nat.le_of_ble_eq_true rfl) ?_
  intro p l e s m args below meth c σ0 g hrt
  unfold F_X6_isWithin
  refine x_lv (lv' := [(0, .long a0), (2, .int a1)]) [0, 1] rfl ?_
  refine x_lload_n (pc := 0) g rfl 0 rfl dX6_isWithin_0 ?_
  refine x_lconst (pc := 1) (v := (0 : Int64)) g (by decide) dX6_isWithin_1 ?_
  refine x_lcmp (pc := 2) g dX6_isWithin_2 ?_
  refine x_if_lt (pc := 3) (tgt := 17) g (by decide) dX6_isWithin_3 ?_ ?_
  · refine x_iconst (pc := 17) (v := (0 : Int32)) g (by decide) dX6_isWithin_17 ?_
    exact x_zreturn (pc := 18) g hrt (by decide) dX6_isWithin_18
  · refine x_lload_n (pc := 6) g rfl 0 rfl dX6_isWithin_6 ?_
    refine x_iload_n (pc := 7) g rfl 1 rfl dX6_isWithin_7 ?_
    refine x_i2l (pc := 8) g dX6_isWithin_8 ?_
    refine x_lcmp (pc := 9) g dX6_isWithin_9 ?_
    refine x_if_gt (pc := 10) (tgt := 17) g (by decide) dX6_isWithin_10 ?_ ?_
    · refine x_iconst (pc := 17) (v := (0 : Int32)) g (by decide) dX6_isWithin_17 ?_
      exact x_zreturn (pc := 18) g hrt (by decide) dX6_isWithin_18
    · refine x_iconst (pc := 13) (v := (1 : Int32)) g (by decide) dX6_isWithin_13 ?_
      refine x_goto (pc := 14) (tgt := 18) g (by decide) dX6_isWithin_14 ?_
      exact x_zreturn (pc := 18) g hrt (by decide) dX6_isWithin_18
def B_X6_tellsTracks_L13 (N : Nat) (k0 : Nat) (r13 : Int32 → Sx → Option (Int32 × Sx)) (x1 : Int32) (σ1 : Sx) : Option (Int32 × Sx) := (if (siI σ1 (10 + k0) 1) ≤ (x1 + (2 : Int32)) then some ((1 : Int32), σ1) else aLx (16 + k0) 60 x1 σ1 (fun z1 => clx (F_X6_isWithin z1 (7 : Int32) σ1) (fun v1 σ2 => nmx (fun (y1 : Int32) (σ3 : Sx) => (if y1 = 0 then some ((0 : Int32), σ3) else r13 (x1 + (3 : Int32)) σ3)) (fun (j75 : Int32 → Sx → Option (Int32 × Sx)) => nmx (fun (σ4 : Sx) => j75 (0 : Int32) σ4) (fun (j74 : Sx → Option (Int32 × Sx)) => (if v1 = 0 then j74 σ2 else aLx (16 + k0) 60 (x1 + (1 : Int32)) σ2 (fun z2 => clx (F_X6_isWithin z2 (999 : Int32) σ2) (fun v2 σ5 => (if v2 = 0 then j74 σ5 else aLx (16 + k0) 60 (x1 + (2 : Int32)) σ5 (fun z3 => clx (F_X6_isWithin z3 (31 : Int32) σ5) (fun v3 σ6 => (if v3 = 0 then j74 σ6 else j75 (1 : Int32) σ6))))))))))))
def F_X6_tellsTracks (N : Nat) (k0 : Nat) (σ0 : Sx) : Option (Int32 × Sx) := (if (jrem (siI σ0 (10 + k0) 1) (3 : Int32)) = 0 then lpx1 (B_X6_tellsTracks_L13 N k0) N (0 : Int32) σ0 else some ((0 : Int32), σ0))
set_option maxRecDepth 100000 in
set_option maxHeartbeats 4000000 in
theorem mc_X6_tellsTracks {D : va_G} {al : Nat → Nat} {cA : Nat → ClassId} {ba : Nat} (N : Nat) (k0 : Nat) (hk0 : k0 < 6) : MCx D al cA ba yX6_tellsTracks cX6_tellsTracks 3 (some .boolean) 1 22 rvI [.ref (al (10 + k0))] (F_X6_tellsTracks N k0) := by
  refine MCx_of (by decide +kernel) (Nat.le_of_ble_eq_true rfl) ?_
  intro p l e s m args below meth c σ0 g hrt
  unfold F_X6_tellsTracks
  refine x_lv (lv' := [(0, .ref (al (10 + k0)))]) [0] rfl ?_
  refine x_aload_n (pc := 0) g rfl 0 rfl dX6_tellsTracks_0 ?_
  refine x_getI (pc := 1) g (shf_10 k0 hk0) fl_X6_19 rfl dX6_tellsTracks_1 ?_
  refine x_iconst (pc := 4) (v := (3 : Int32)) g (by decide) dX6_tellsTracks_4 ?_
  refine x_irem (pc := 5) g (by decide) dX6_tellsTracks_5 ?_
  refine x_if_eq (pc := 6) (tgt := 11) g (by decide) dX6_tellsTracks_6 ?_ ?_
  · refine x_iconst (pc := 11) (v := (0 : Int32)) g (by decide) dX6_tellsTracks_11 ?_
    refine x_istore_n (pc := 12) (lv' := [(1, .int (0 : Int32)), (0, .ref (al (10 + k0)))]) g rfl (by decide) rfl dX6_tellsTracks_12 ?_
    refine x_lv [1, 0] rfl ?_
    refine lpx1_ind (fun (x1 : Int32) (σ1 : Sx) (K : Option (Int32 × Sx)) => XTx p l e { frames := 1, cells := 0, slots := 0, locals := 22 } s m args below meth c D al cA ba 3 (MQx rvI D al cA ba below args s) 0 0 13 [(0, .ref (al (10 + k0))), (1, .int x1)] [] σ1 (K)) (fun _ _ => x_no) (fun r13 hr13 x1 σ1 => ?_) N (0 : Int32) σ0
    show XTx p l e { frames := 1, cells := 0, slots := 0, locals := 22 } s m args below meth c D al cA ba 3 (MQx rvI D al cA ba below args s) 0 0 13 [(0, .ref (al (10 + k0))), (1, .int x1)] [] σ1 (B_X6_tellsTracks_L13 N k0 r13 x1 σ1)
    unfold B_X6_tellsTracks_L13
    refine x_iload_n (pc := 13) g rfl 1 rfl dX6_tellsTracks_13 ?_
    refine x_iconst (pc := 14) (v := (2 : Int32)) g (by decide) dX6_tellsTracks_14 ?_
    refine x_iadd (pc := 15) g dX6_tellsTracks_15 ?_
    refine x_aload_n (pc := 16) g rfl 0 rfl dX6_tellsTracks_16 ?_
    refine x_getI (pc := 17) g (shf_10 k0 hk0) fl_X6_19 rfl dX6_tellsTracks_17 ?_
    refine x_icmp_ge (pc := 20) (tgt := 88) g (by decide) dX6_tellsTracks_20 ?_ ?_
    · refine x_iconst (pc := 88) (v := (1 : Int32)) g (by decide) dX6_tellsTracks_88 ?_
      exact x_zreturn (pc := 89) g hrt (by decide) dX6_tellsTracks_89
    · refine x_aload_n (pc := 23) g rfl 0 rfl dX6_tellsTracks_23 ?_
      refine x_getR (pc := 24) g (shf_10 k0 hk0) fl_X6_15 rfl dX6_tellsTracks_24 ?_
      refine x_iload_n (pc := 27) g rfl 1 rfl dX6_tellsTracks_27 ?_
      refine x_lald (pc := 28) g (shf_16 k0 hk0) (by decide) dX6_tellsTracks_28 (fun z1 => ?_)
      refine x_bipush (pc := 29) (v := (7 : Int32)) g (by decide) dX6_tellsTracks_29 ?_
      refine x_callSI (pc := 31) (As := [.long z1, .int (7 : Int32)]) g (mc_X6_isWithin z1 (7 : Int32)) cw_X6_isWithin lk_X6_41 rfl ⟨Nat.le_of_ble_eq_true rfl, Nat.le_of_ble_eq_true rfl⟩ rfl (Nat.le_of_ble_eq_true rfl) dX6_tellsTracks_31 (fun v1 σ2 => ?_)
      refine x_jn (fun (j75 : Int32 → Sx → Option (Int32 × Sx)) => ∀ (y1 : Int32) (σ3 : Sx), XTx p l e { frames := 1, cells := 0, slots := 0, locals := 22 } s m args below meth c D al cA ba 3 (MQx rvI D al cA ba below args s) 0 0 75 [(0, .ref (al (10 + k0))), (1, .int x1)] [.int y1] σ3 (j75 y1 σ3)) (fun y1 σ3 => ?_) (fun j75 hj75 => ?_)
      · refine x_istore_n (pc := 75) (lv' := [(2, .int y1), (0, .ref (al (10 + k0))), (1, .int x1)]) g rfl (by decide) rfl dX6_tellsTracks_75 ?_
        refine x_iload_n (pc := 76) g rfl 0 rfl dX6_tellsTracks_76 ?_
        refine x_if_ne (pc := 77) (tgt := 82) g (by decide) dX6_tellsTracks_77 ?_ ?_
        · refine x_iinc (pc := 82) (v := (x1 + (3 : Int32))) (lv' := [(1, .int (x1 + (3 : Int32))), (2, .int y1), (0, .ref (al (10 + k0)))]) g 2 rfl (by rfl) (by decide) rfl dX6_tellsTracks_82 ?_
          refine x_goto (pc := 85) (tgt := 13) g (by decide) dX6_tellsTracks_85 ?_
          refine x_lv [2, 0] rfl ?_
          exact hr13 (x1 + (3 : Int32)) σ3
        · refine x_iconst (pc := 80) (v := (0 : Int32)) g (by decide) dX6_tellsTracks_80 ?_
          exact x_zreturn (pc := 81) g hrt (by decide) dX6_tellsTracks_81
      · refine x_jn (fun (j74 : Sx → Option (Int32 × Sx)) => ∀ (σ4 : Sx), XTx p l e { frames := 1, cells := 0, slots := 0, locals := 22 } s m args below meth c D al cA ba 3 (MQx rvI D al cA ba below args s) 0 0 74 [(0, .ref (al (10 + k0))), (1, .int x1)] [] σ4 (j74 σ4)) (fun σ4 => ?_) (fun j74 hj74 => ?_)
        · refine x_iconst (pc := 74) (v := (0 : Int32)) g (by decide) dX6_tellsTracks_74 ?_
          exact hj75 (0 : Int32) σ4
        · refine x_if_eq (pc := 34) (tgt := 74) g (by decide) dX6_tellsTracks_34 ?_ ?_
          · exact hj74 σ2
          · refine x_aload_n (pc := 37) g rfl 0 rfl dX6_tellsTracks_37 ?_
            refine x_getR (pc := 38) g (shf_10 k0 hk0) fl_X6_15 rfl dX6_tellsTracks_38 ?_
            refine x_iload_n (pc := 41) g rfl 1 rfl dX6_tellsTracks_41 ?_
            refine x_iconst (pc := 42) (v := (1 : Int32)) g (by decide) dX6_tellsTracks_42 ?_
            refine x_iadd (pc := 43) g dX6_tellsTracks_43 ?_
            refine x_lald (pc := 44) g (shf_16 k0 hk0) (by decide) dX6_tellsTracks_44 (fun z2 => ?_)
            refine x_sipush (pc := 45) (v := (999 : Int32)) g (by decide) dX6_tellsTracks_45 ?_
            refine x_callSI (pc := 48) (As := [.long z2, .int (999 : Int32)]) g (mc_X6_isWithin z2 (999 : Int32)) cw_X6_isWithin lk_X6_41 rfl ⟨Nat.le_of_ble_eq_true rfl, Nat.le_of_ble_eq_true rfl⟩ rfl (Nat.le_of_ble_eq_true rfl) dX6_tellsTracks_48 (fun v2 σ5 => ?_)
            refine x_if_eq (pc := 51) (tgt := 74) g (by decide) dX6_tellsTracks_51 ?_ ?_
            · exact hj74 σ5
            · refine x_aload_n (pc := 54) g rfl 0 rfl dX6_tellsTracks_54 ?_
              refine x_getR (pc := 55) g (shf_10 k0 hk0) fl_X6_15 rfl dX6_tellsTracks_55 ?_
              refine x_iload_n (pc := 58) g rfl 1 rfl dX6_tellsTracks_58 ?_
              refine x_iconst (pc := 59) (v := (2 : Int32)) g (by decide) dX6_tellsTracks_59 ?_
              refine x_iadd (pc := 60) g dX6_tellsTracks_60 ?_
              refine x_lald (pc := 61) g (shf_16 k0 hk0) (by decide) dX6_tellsTracks_61 (fun z3 => ?_)
              refine x_bipush (pc := 62) (v := (31 : Int32)) g (by decide) dX6_tellsTracks_62 ?_
              refine x_callSI (pc := 64) (As := [.long z3, .int (31 : Int32)]) g (mc_X6_isWithin z3 (31 : Int32)) cw_X6_isWithin lk_X6_41 rfl ⟨Nat.le_of_ble_eq_true rfl, Nat.le_of_ble_eq_true rfl⟩ rfl (Nat.le_of_ble_eq_true rfl) dX6_tellsTracks_64 (fun v3 σ6 => ?_)
              refine x_if_eq (pc := 67) (tgt := 74) g (by decide) dX6_tellsTracks_67 ?_ ?_
              · exact hj74 σ6
              · refine x_iconst (pc := 70) (v := (1 : Int32)) g (by decide) dX6_tellsTracks_70 ?_
                refine x_goto (pc := 71) (tgt := 75) g (by decide) dX6_tellsTracks_71 ?_
                exact hj75 (1 : Int32) σ6
  · refine x_iconst (pc := 9) (v := (0 : Int32)) g (by decide) dX6_tellsTracks_9 ?_
    exact x_zreturn (pc := 10) g hrt (by decide) dX6_tellsTracks_10
def F_X6_clear (k0 : Nat) (σ0 : Sx) : Option (Unit × Sx) := pIx (10 + k0) 0 (-1 : Int32) σ0 (fun σ1 => pIx (10 + k0) 1 (0 : Int32) σ1 (fun σ2 => some ((), σ2)))
set_option maxRecDepth 100000 in
set_option maxHeartbeats 4000000 in
theorem mc_X6_clear {D : va_G} {al : Nat → Nat} {cA : Nat → ClassId} {ba : Nat} (k0 : Nat) (hk0 : k0 < 6) : MCx D al cA ba yX6_clear cX6_clear 1 none 0 0 rvU [.ref (al (10 + k0))] (F_X6_clear k0) := by
  refine MCx_of (by decide +kernel) (Nat.le_of_ble_eq_true rfl) ?_
  intro p l e s m args below meth c σ0 g hrt
  unfold F_X6_clear
  refine x_lv (lv' := [(0, .ref (al (10 + k0)))]) [0] rfl ?_
  refine x_aload_n (pc := 0) g rfl 0 rfl dX6_clear_0 ?_
  refine x_iconst (pc := 1) (v := (-1 : Int32)) g (by decide) dX6_clear_1 ?_
  refine x_putI (pc := 2) g (shf_10 k0 hk0) fl_X6_11 rfl dX6_clear_2 (fun σ1 => ?_)
  refine x_aload_n (pc := 5) g rfl 0 rfl dX6_clear_5 ?_
  refine x_iconst (pc := 6) (v := (0 : Int32)) g (by decide) dX6_clear_6 ?_
  refine x_putI (pc := 7) g (shf_10 k0 hk0) fl_X6_19 rfl dX6_clear_7 (fun σ2 => ?_)
  exact x_return (pc := 10) g hrt dX6_clear_10
def F_X6_holdBody (k0 : Nat) (a0 : Int32) (σ0 : Sx) : Option (Unit × Sx) := pIx (10 + k0) 0 (5 : Int32) σ0 (fun σ1 => pIx (10 + k0) 1 (0 : Int32) σ1 (fun σ2 => pIx (10 + k0) 2 a0 σ2 (fun σ3 => some ((), σ3))))
set_option maxRecDepth 100000 in
set_option maxHeartbeats 4000000 in
theorem mc_X6_holdBody {D : va_G} {al : Nat → Nat} {cA : Nat → ClassId} {ba : Nat} (k0 : Nat) (hk0 : k0 < 6) (a0 : Int32) : MCx D al cA ba yX6_holdBody cX6_holdBody 2 none 0 0 rvU [.ref (al (10 + k0)), .int a0] (F_X6_holdBody k0 a0) := by
  refine MCx_of (by decide +kernel) (Nat.le_of_ble_eq_true rfl) ?_
  intro p l e s m args below meth c σ0 g hrt
  unfold F_X6_holdBody
  refine x_lv (lv' := [(0, .ref (al (10 + k0))), (1, .int a0)]) [0, 1] rfl ?_
  refine x_aload_n (pc := 0) g rfl 0 rfl dX6_holdBody_0 ?_
  refine x_iconst (pc := 1) (v := (5 : Int32)) g (by decide) dX6_holdBody_1 ?_
  refine x_putI (pc := 2) g (shf_10 k0 hk0) fl_X6_11 rfl dX6_holdBody_2 (fun σ1 => ?_)
  refine x_aload_n (pc := 5) g rfl 0 rfl dX6_holdBody_5 ?_
  refine x_iconst (pc := 6) (v := (0 : Int32)) g (by decide) dX6_holdBody_6 ?_
  refine x_putI (pc := 7) g (shf_10 k0 hk0) fl_X6_19 rfl dX6_holdBody_7 (fun σ2 => ?_)
  refine x_aload_n (pc := 10) g rfl 0 rfl dX6_holdBody_10 ?_
  refine x_iload_n (pc := 11) g rfl 1 rfl dX6_holdBody_11 ?_
  refine x_putI (pc := 12) g (shf_10 k0 hk0) fl_X6_22 rfl dX6_holdBody_12 (fun σ3 => ?_)
  exact x_return (pc := 15) g hrt dX6_holdBody_15
def F_X6_holdRow (N : Nat) (k0 : Nat) (a0 : Int32) (a1 : Int32) (σ0 : Sx) : Option (Unit × Sx) := pIx (10 + k0) 0 a0 σ0 (fun σ1 => pIx (10 + k0) 1 a1 σ1 (fun σ2 => clx (F_J7_fill_d0a16 N (16 + k0) 60 (0 : Int64) σ2) (fun _ σ3 => some ((), σ3))))
set_option maxRecDepth 100000 in
set_option maxHeartbeats 4000000 in
theorem mc_X6_holdRow {D : va_G} {al : Nat → Nat} {cA : Nat → ClassId} {ba : Nat} (N : Nat) (k0 : Nat) (hk0 : k0 < 6) (a0 : Int32) (a1 : Int32) : MCx D al cA ba yX6_holdRow cX6_holdRow 3 none 1 24 rvU [.ref (al (10 + k0)), .int a0, .int a1] (F_X6_holdRow N k0 a0 a1) := by
  refine MCx_of (by decide +kernel) (Nat.le_of_ble_eq_true rfl) ?_
  intro p l e s m args below meth c σ0 g hrt
  unfold F_X6_holdRow
  refine x_lv (lv' := [(0, .ref (al (10 + k0))), (1, .int a0), (2, .int a1)]) [0, 1, 2] rfl ?_
  refine x_aload_n (pc := 0) g rfl 0 rfl dX6_holdRow_0 ?_
  refine x_iload_n (pc := 1) g rfl 1 rfl dX6_holdRow_1 ?_
  refine x_putI (pc := 2) g (shf_10 k0 hk0) fl_X6_11 rfl dX6_holdRow_2 (fun σ1 => ?_)
  refine x_aload_n (pc := 5) g rfl 0 rfl dX6_holdRow_5 ?_
  refine x_iload_n (pc := 6) g rfl 2 rfl dX6_holdRow_6 ?_
  refine x_putI (pc := 7) g (shf_10 k0 hk0) fl_X6_19 rfl dX6_holdRow_7 (fun σ2 => ?_)
  refine x_aload_n (pc := 10) g rfl 0 rfl dX6_holdRow_10 ?_
  refine x_getR (pc := 11) g (shf_10 k0 hk0) fl_X6_15 rfl dX6_holdRow_11 ?_
  refine x_lconst (pc := 14) (v := (0 : Int64)) g (by decide) dX6_holdRow_14 ?_
  refine x_callSU (pc := 15) (As := [.ref (al (16 + k0)), .long (0 : Int64)]) g (mc_J7_fill_d0a16 N (16 + k0) 60 (shf_16 k0 hk0) (by decide) (0 : Int64)) cw_J7_fill_d0a16 lk_X6_25 rfl ⟨Nat.le_of_ble_eq_true rfl, Nat.le_of_ble_eq_true rfl⟩ rfl (Nat.le_of_ble_eq_true rfl) dX6_holdRow_15 (fun _ σ3 => ?_)
  exact x_return (pc := 18) g hrt dX6_holdRow_18
def F_X6_refusalOfRow (k0 : Nat) (σ0 : Sx) : Option (Int32 × Sx) := (if (siI σ0 (10 + k0) 0) = (-1 : Int32) then some ((-11 : Int32), σ0) else (if (siI σ0 (10 + k0) 0) = (5 : Int32) then some ((-12 : Int32), σ0) else some ((0 : Int32), σ0)))
set_option maxRecDepth 100000 in
set_option maxHeartbeats 4000000 in
theorem mc_X6_refusalOfRow {D : va_G} {al : Nat → Nat} {cA : Nat → ClassId} {ba : Nat} (k0 : Nat) (hk0 : k0 < 6) : MCx D al cA ba yX6_refusalOfRow cX6_refusalOfRow 1 (some .int) 0 0 rvI [.ref (al (10 + k0))] (F_X6_refusalOfRow k0) := by
  refine MCx_of (by decide +kernel) (Nat.le_of_ble_eq_true rfl) ?_
  intro p l e s m args below meth c σ0 g hrt
  unfold F_X6_refusalOfRow
  refine x_lv (lv' := [(0, .ref (al (10 + k0)))]) [0] rfl ?_
  refine x_aload_n (pc := 0) g rfl 0 rfl dX6_refusalOfRow_0 ?_
  refine x_getI (pc := 1) g (shf_10 k0 hk0) fl_X6_11 rfl dX6_refusalOfRow_1 ?_
  refine x_iconst (pc := 4) (v := (-1 : Int32)) g (by decide) dX6_refusalOfRow_4 ?_
  refine x_icmp_ne (pc := 5) (tgt := 11) g (by decide) dX6_refusalOfRow_5 ?_ ?_
  · refine x_aload_n (pc := 11) g rfl 0 rfl dX6_refusalOfRow_11 ?_
    refine x_getI (pc := 12) g (shf_10 k0 hk0) fl_X6_11 rfl dX6_refusalOfRow_12 ?_
    refine x_iconst (pc := 15) (v := (5 : Int32)) g (by decide) dX6_refusalOfRow_15 ?_
    refine x_icmp_ne (pc := 16) (tgt := 24) g (by decide) dX6_refusalOfRow_16 ?_ ?_
    · refine x_iconst (pc := 24) (v := (0 : Int32)) g (by decide) dX6_refusalOfRow_24 ?_
      exact x_ireturn (pc := 25) g hrt dX6_refusalOfRow_25
    · refine x_bipush (pc := 19) (v := (-12 : Int32)) g (by decide) dX6_refusalOfRow_19 ?_
      refine x_goto (pc := 21) (tgt := 25) g (by decide) dX6_refusalOfRow_21 ?_
      exact x_ireturn (pc := 25) g hrt dX6_refusalOfRow_25
  · refine x_bipush (pc := 8) (v := (-11 : Int32)) g (by decide) dX6_refusalOfRow_8 ?_
    exact x_ireturn (pc := 10) g hrt dX6_refusalOfRow_10
def F_X6_hasPlaces (k0 : Nat) (a0 : Int32) (a1 : Int32) (σ0 : Sx) : Option (Int32 × Sx) := (if a0 < 0 then some ((0 : Int32), σ0) else (if a1 < 0 then some ((0 : Int32), σ0) else (if (siI σ0 (10 + k0) 1) < a0 then some ((0 : Int32), σ0) else (if ((siI σ0 (10 + k0) 1) - a0) < a1 then some ((0 : Int32), σ0) else some ((1 : Int32), σ0)))))
set_option maxRecDepth 100000 in
set_option maxHeartbeats 4000000 in
theorem mc_X6_hasPlaces {D : va_G} {al : Nat → Nat} {cA : Nat → ClassId} {ba : Nat} (k0 : Nat) (hk0 : k0 < 6) (a0 : Int32) (a1 : Int32) : MCx D al cA ba yX6_hasPlaces cX6_hasPlaces 3 (some .boolean) 0 0 rvI [.ref (al (10 + k0)), .int a0, .int a1] (F_X6_hasPlaces k0 a0 a1) := by
  refine MCx_of (by decide +kernel) (Nat.le_of_ble_eq_true rfl) ?_
  intro p l e s m args below meth c σ0 g hrt
  unfold F_X6_hasPlaces
  refine x_lv (lv' := [(0, .ref (al (10 + k0))), (1, .int a0), (2, .int a1)]) [0, 1, 2] rfl ?_
  refine x_iload_n (pc := 0) g rfl 1 rfl dX6_hasPlaces_0 ?_
  refine x_if_lt (pc := 1) (tgt := 30) g (by decide) dX6_hasPlaces_1 ?_ ?_
  · refine x_iconst (pc := 30) (v := (0 : Int32)) g (by decide) dX6_hasPlaces_30 ?_
    exact x_zreturn (pc := 31) g hrt (by decide) dX6_hasPlaces_31
  · refine x_iload_n (pc := 4) g rfl 2 rfl dX6_hasPlaces_4 ?_
    refine x_if_lt (pc := 5) (tgt := 30) g (by decide) dX6_hasPlaces_5 ?_ ?_
    · refine x_iconst (pc := 30) (v := (0 : Int32)) g (by decide) dX6_hasPlaces_30 ?_
      exact x_zreturn (pc := 31) g hrt (by decide) dX6_hasPlaces_31
    · refine x_iload_n (pc := 8) g rfl 1 rfl dX6_hasPlaces_8 ?_
      refine x_aload_n (pc := 9) g rfl 0 rfl dX6_hasPlaces_9 ?_
      refine x_getI (pc := 10) g (shf_10 k0 hk0) fl_X6_19 rfl dX6_hasPlaces_10 ?_
      refine x_icmp_gt (pc := 13) (tgt := 30) g (by decide) dX6_hasPlaces_13 ?_ ?_
      · refine x_iconst (pc := 30) (v := (0 : Int32)) g (by decide) dX6_hasPlaces_30 ?_
        exact x_zreturn (pc := 31) g hrt (by decide) dX6_hasPlaces_31
      · refine x_iload_n (pc := 16) g rfl 2 rfl dX6_hasPlaces_16 ?_
        refine x_aload_n (pc := 17) g rfl 0 rfl dX6_hasPlaces_17 ?_
        refine x_getI (pc := 18) g (shf_10 k0 hk0) fl_X6_19 rfl dX6_hasPlaces_18 ?_
        refine x_iload_n (pc := 21) g rfl 1 rfl dX6_hasPlaces_21 ?_
        refine x_isub (pc := 22) g dX6_hasPlaces_22 ?_
        refine x_icmp_gt (pc := 23) (tgt := 30) g (by decide) dX6_hasPlaces_23 ?_ ?_
        · refine x_iconst (pc := 30) (v := (0 : Int32)) g (by decide) dX6_hasPlaces_30 ?_
          exact x_zreturn (pc := 31) g hrt (by decide) dX6_hasPlaces_31
        · refine x_iconst (pc := 26) (v := (1 : Int32)) g (by decide) dX6_hasPlaces_26 ?_
          refine x_goto (pc := 27) (tgt := 31) g (by decide) dX6_hasPlaces_27 ?_
          exact x_zreturn (pc := 31) g hrt (by decide) dX6_hasPlaces_31
def F_X6_trimmed (k0 : Nat) (a0 : Int64) (σ0 : Sx) : Option (Int64 × Sx) := nmx (fun (σ1 : Sx) => some (a0, σ1)) (fun (j66 : Sx → Option (Int64 × Sx)) => nmx ((siI σ0 (10 + k0) 0)) (fun v1 => (if v1 = (0 : Int32) then some (a0.toInt32.toInt8.toInt32.toInt64, σ0) else (if v1 = (1 : Int32) then some (a0.toInt32.toInt16.toInt32.toInt64, σ0) else (if v1 = (2 : Int32) then some (a0.toInt32.toInt64, σ0) else (if v1 = (3 : Int32) then j66 σ0 else (if v1 = (4 : Int32) then (if (lg_cmp a0 (0 : Int64)) = 0 then some ((0 : Int64), σ0) else some ((1 : Int64), σ0)) else j66 σ0)))))))
set_option maxRecDepth 100000 in
set_option maxHeartbeats 4000000 in
theorem mc_X6_trimmed {D : va_G} {al : Nat → Nat} {cA : Nat → ClassId} {ba : Nat} (k0 : Nat) (hk0 : k0 < 6) (a0 : Int64) : MCx D al cA ba yX6_trimmed cX6_trimmed 3 (some .long) 0 0 rvL [.ref (al (10 + k0)), .long a0] (F_X6_trimmed k0 a0) := by
  refine MCx_of (by decide +kernel) (Nat.le_of_ble_eq_true rfl) ?_
  intro p l e s m args below meth c σ0 g hrt
  unfold F_X6_trimmed
  refine x_lv (lv' := [(0, .ref (al (10 + k0))), (1, .long a0)]) [0, 1] rfl ?_
  refine x_aload_n (pc := 0) g rfl 0 rfl dX6_trimmed_0 ?_
  refine x_getI (pc := 1) g (shf_10 k0 hk0) fl_X6_11 rfl dX6_trimmed_1 ?_
  refine x_jn (fun (j66 : Sx → Option (Int64 × Sx)) => ∀ (σ1 : Sx), XTx p l e { frames := 0, cells := 0, slots := 0, locals := 0 } s m args below meth c D al cA ba 3 (MQx rvL D al cA ba below args s) 0 0 66 [(1, .long a0)] [] σ1 (j66 σ1)) (fun σ1 => ?_) (fun j66 hj66 => ?_)
  · refine x_lload_n (pc := 66) g rfl 0 rfl dX6_trimmed_66 ?_
    exact x_lreturn (pc := 67) g hrt dX6_trimmed_67
  · refine x_nm (fun v1 => ?_)
    refine x_eqs ?_ (fun hs1 => ?_)
    · refine x_tabIn (pc := 4) (tgt := 40) (off := 36) g (by decide) (by decide) dX6_trimmed_4 ?_
      refine x_lload_n (pc := 40) g rfl 1 rfl dX6_trimmed_40 ?_
      refine x_l2i (pc := 41) g dX6_trimmed_41 ?_
      refine x_i2b (pc := 42) g dX6_trimmed_42 ?_
      refine x_i2l (pc := 43) g dX6_trimmed_43 ?_
      exact x_lreturn (pc := 44) g hrt dX6_trimmed_44
    refine x_eqs ?_ (fun hs2 => ?_)
    · refine x_tabIn (pc := 4) (tgt := 45) (off := 41) g (by decide) (by decide) dX6_trimmed_4 ?_
      refine x_lload_n (pc := 45) g rfl 1 rfl dX6_trimmed_45 ?_
      refine x_l2i (pc := 46) g dX6_trimmed_46 ?_
      refine x_i2s (pc := 47) g dX6_trimmed_47 ?_
      refine x_i2l (pc := 48) g dX6_trimmed_48 ?_
      exact x_lreturn (pc := 49) g hrt dX6_trimmed_49
    refine x_eqs ?_ (fun hs3 => ?_)
    · refine x_tabIn (pc := 4) (tgt := 50) (off := 46) g (by decide) (by decide) dX6_trimmed_4 ?_
      refine x_lload_n (pc := 50) g rfl 1 rfl dX6_trimmed_50 ?_
      refine x_l2i (pc := 51) g dX6_trimmed_51 ?_
      refine x_i2l (pc := 52) g dX6_trimmed_52 ?_
      exact x_lreturn (pc := 53) g hrt dX6_trimmed_53
    refine x_eqs ?_ (fun hs4 => ?_)
    · refine x_tabIn (pc := 4) (tgt := 66) (off := 62) g (by decide) (by decide) dX6_trimmed_4 ?_
      refine x_lv [1] rfl ?_
      exact hj66 σ0
    refine x_eqs ?_ (fun hs5 => ?_)
    · refine x_tabIn (pc := 4) (tgt := 54) (off := 50) g (by decide) (by decide) dX6_trimmed_4 ?_
      refine x_lload_n (pc := 54) g rfl 1 rfl dX6_trimmed_54 ?_
      refine x_lconst (pc := 55) (v := (0 : Int64)) g (by decide) dX6_trimmed_55 ?_
      refine x_lcmp (pc := 56) g dX6_trimmed_56 ?_
      refine x_if_eq (pc := 57) (tgt := 64) g (by decide) dX6_trimmed_57 ?_ ?_
      · refine x_lconst (pc := 64) (v := (0 : Int64)) g (by decide) dX6_trimmed_64 ?_
        exact x_lreturn (pc := 65) g hrt dX6_trimmed_65
      · refine x_lconst (pc := 60) (v := (1 : Int64)) g (by decide) dX6_trimmed_60 ?_
        refine x_goto (pc := 61) (tgt := 65) g (by decide) dX6_trimmed_61 ?_
        exact x_lreturn (pc := 65) g hrt dX6_trimmed_65
    refine x_tabOut (pc := 4) (tgt := 66) g (fun i h1 h2 => ?_) (by decide) dX6_trimmed_4 ?_
    · rcases (show i = 0 ∨ i = 1 ∨ i = 2 ∨ i = 3 ∨ i = 4 by omega) with rfl | rfl | rfl | rfl | rfl
      · exact hs1
      · exact hs2
      · exact hs3
      · exact hs4
      · exact hs5
    · refine x_lv [1] rfl ?_
      exact hj66 σ0
def F_X6_set (k0 : Nat) (a0 : Int32) (a1 : Int64) (σ0 : Sx) : Option (Unit × Sx) := clx (F_X6_trimmed k0 a1 σ0) (fun z1 σ1 => sLx (16 + k0) 60 a0 z1 σ1 (fun σ2 => some ((), σ2)))
set_option maxRecDepth 100000 in
set_option maxHeartbeats 4000000 in
theorem mc_X6_set {D : va_G} {al : Nat → Nat} {cA : Nat → ClassId} {ba : Nat} (k0 : Nat) (hk0 : k0 < 6) (a0 : Int32) (a1 : Int64) : MCx D al cA ba yX6_set cX6_set 4 none 1 22 rvU [.ref (al (10 + k0)), .int a0, .long a1] (F_X6_set k0 a0 a1) := by
  refine MCx_of (by decide +kernel) (Nat.le_of_ble_eq_true rfl) ?_
  intro p l e s m args below meth c σ0 g hrt
  unfold F_X6_set
  refine x_lv (lv' := [(0, .ref (al (10 + k0))), (1, .int a0), (2, .long a1)]) [0, 1, 2] rfl ?_
  refine x_aload_n (pc := 0) g rfl 0 rfl dX6_set_0 ?_
  refine x_getR (pc := 1) g (shf_10 k0 hk0) fl_X6_15 rfl dX6_set_1 ?_
  refine x_iload_n (pc := 4) g rfl 1 rfl dX6_set_4 ?_
  refine x_aload_n (pc := 5) g rfl 0 rfl dX6_set_5 ?_
  refine x_lload_n (pc := 6) g rfl 2 rfl dX6_set_6 ?_
  refine x_callVL (pc := 7) (As := [.long a1]) g (shf_10 k0 hk0) (mc_X6_trimmed k0 hk0 a1) cw_X6_trimmed lk_X6_31 rfl ⟨Nat.le_of_ble_eq_true rfl, Nat.le_of_ble_eq_true rfl⟩ rfl (Nat.le_of_ble_eq_true rfl) dX6_set_7 (fun z1 σ1 => ?_)
  refine x_last (pc := 10) g (shf_16 k0 hk0) (by decide) dX6_set_10 (fun σ2 => ?_)
  exact x_return (pc := 11) g hrt dX6_set_11
def B_X6_tellsPlaces_L13 (N : Nat) (k0 : Nat) (a0 : Int32) (a1 : Int32) (r13 : Int32 → Sx → Option (Int32 × Sx)) (x1 : Int32) (σ2 : Sx) : Option (Int32 × Sx) := (if (a0 + a1) ≤ x1 then some ((1 : Int32), σ2) else aLx (16 + k0) 60 x1 σ2 (fun z1 => (if (lg_cmp z1 (0 : Int64)) < 0 then some ((0 : Int32), σ2) else aLx (16 + k0) 60 x1 σ2 (fun z2 => (if (lg_cmp z2 (8 : Int64)) < 0 then r13 (x1 + (1 : Int32)) σ2 else some ((0 : Int32), σ2))))))
def F_X6_tellsPlaces (N : Nat) (k0 : Nat) (a0 : Int32) (a1 : Int32) (σ0 : Sx) : Option (Int32 × Sx) := clx (F_X6_hasPlaces k0 a0 a1 σ0) (fun v1 σ1 => (if v1 = 0 then some ((0 : Int32), σ1) else lpx1 (B_X6_tellsPlaces_L13 N k0 a0 a1) N a0 σ1))
set_option maxRecDepth 100000 in
set_option maxHeartbeats 4000000 in
theorem mc_X6_tellsPlaces {D : va_G} {al : Nat → Nat} {cA : Nat → ClassId} {ba : Nat} (N : Nat) (k0 : Nat) (hk0 : k0 < 6) (a0 : Int32) (a1 : Int32) : MCx D al cA ba yX6_tellsPlaces cX6_tellsPlaces 4 (some .boolean) 1 22 rvI [.ref (al (10 + k0)), .int a0, .int a1] (F_X6_tellsPlaces N k0 a0 a1) := by
  refine MCx_of (by decide +kernel) (Nat.le_of_ble_eq_true rfl) ?_
  intro p l e s m args below meth c σ0 g hrt
  unfold F_X6_tellsPlaces
  refine x_lv (lv' := [(0, .ref (al (10 + k0))), (1, .int a0), (2, .int a1)]) [0, 1, 2] rfl ?_
  refine x_aload_n (pc := 0) g rfl 0 rfl dX6_tellsPlaces_0 ?_
  refine x_iload_n (pc := 1) g rfl 1 rfl dX6_tellsPlaces_1 ?_
  refine x_iload_n (pc := 2) g rfl 2 rfl dX6_tellsPlaces_2 ?_
  refine x_callVI (pc := 3) (As := [.int a0, .int a1]) g (shf_10 k0 hk0) (mc_X6_hasPlaces k0 hk0 a0 a1) cw_X6_hasPlaces lk_X6_35 rfl ⟨Nat.le_of_ble_eq_true rfl, Nat.le_of_ble_eq_true rfl⟩ rfl (Nat.le_of_ble_eq_true rfl) dX6_tellsPlaces_3 (fun v1 σ1 => ?_)
  refine x_if_ne (pc := 6) (tgt := 11) g (by decide) dX6_tellsPlaces_6 ?_ ?_
  · refine x_iload_n (pc := 11) g rfl 1 rfl dX6_tellsPlaces_11 ?_
    refine x_istore_n (pc := 12) (lv' := [(3, .int a0), (0, .ref (al (10 + k0))), (1, .int a0), (2, .int a1)]) g rfl (by decide) rfl dX6_tellsPlaces_12 ?_
    refine x_lv [1, 2, 3, 0] rfl ?_
    refine lpx1_ind (fun (x1 : Int32) (σ2 : Sx) (K : Option (Int32 × Sx)) => XTx p l e { frames := 1, cells := 0, slots := 0, locals := 22 } s m args below meth c D al cA ba 4 (MQx rvI D al cA ba below args s) 0 0 13 [(0, .ref (al (10 + k0))), (1, .int a0), (2, .int a1), (3, .int x1)] [] σ2 (K)) (fun _ _ => x_no) (fun r13 hr13 x1 σ2 => ?_) N a0 σ1
    show XTx p l e { frames := 1, cells := 0, slots := 0, locals := 22 } s m args below meth c D al cA ba 4 (MQx rvI D al cA ba below args s) 0 0 13 [(0, .ref (al (10 + k0))), (1, .int a0), (2, .int a1), (3, .int x1)] [] σ2 (B_X6_tellsPlaces_L13 N k0 a0 a1 r13 x1 σ2)
    unfold B_X6_tellsPlaces_L13
    refine x_iload_n (pc := 13) g rfl 3 rfl dX6_tellsPlaces_13 ?_
    refine x_iload_n (pc := 14) g rfl 1 rfl dX6_tellsPlaces_14 ?_
    refine x_iload_n (pc := 15) g rfl 2 rfl dX6_tellsPlaces_15 ?_
    refine x_iadd (pc := 16) g dX6_tellsPlaces_16 ?_
    refine x_icmp_ge (pc := 17) (tgt := 52) g (by decide) dX6_tellsPlaces_17 ?_ ?_
    · refine x_iconst (pc := 52) (v := (1 : Int32)) g (by decide) dX6_tellsPlaces_52 ?_
      exact x_zreturn (pc := 53) g hrt (by decide) dX6_tellsPlaces_53
    · refine x_aload_n (pc := 20) g rfl 0 rfl dX6_tellsPlaces_20 ?_
      refine x_getR (pc := 21) g (shf_10 k0 hk0) fl_X6_15 rfl dX6_tellsPlaces_21 ?_
      refine x_iload_n (pc := 24) g rfl 3 rfl dX6_tellsPlaces_24 ?_
      refine x_lald (pc := 25) g (shf_16 k0 hk0) (by decide) dX6_tellsPlaces_25 (fun z1 => ?_)
      refine x_lconst (pc := 26) (v := (0 : Int64)) g (by decide) dX6_tellsPlaces_26 ?_
      refine x_lcmp (pc := 27) g dX6_tellsPlaces_27 ?_
      refine x_if_lt (pc := 28) (tgt := 44) g (by decide) dX6_tellsPlaces_28 ?_ ?_
      · refine x_iconst (pc := 44) (v := (0 : Int32)) g (by decide) dX6_tellsPlaces_44 ?_
        exact x_zreturn (pc := 45) g hrt (by decide) dX6_tellsPlaces_45
      · refine x_aload_n (pc := 31) g rfl 0 rfl dX6_tellsPlaces_31 ?_
        refine x_getR (pc := 32) g (shf_10 k0 hk0) fl_X6_15 rfl dX6_tellsPlaces_32 ?_
        refine x_iload_n (pc := 35) g rfl 3 rfl dX6_tellsPlaces_35 ?_
        refine x_lald (pc := 36) g (shf_16 k0 hk0) (by decide) dX6_tellsPlaces_36 (fun z2 => ?_)
        refine x_ldc2 (pc := 37) (v := (8 : Int64)) g ct_X6_39 dX6_tellsPlaces_37 ?_
        refine x_lcmp (pc := 40) g dX6_tellsPlaces_40 ?_
        refine x_if_lt (pc := 41) (tgt := 46) g (by decide) dX6_tellsPlaces_41 ?_ ?_
        · refine x_iinc (pc := 46) (v := (x1 + (1 : Int32))) (lv' := [(3, .int (x1 + (1 : Int32))), (0, .ref (al (10 + k0))), (1, .int a0), (2, .int a1)]) g 3 rfl (by rfl) (by decide) rfl dX6_tellsPlaces_46 ?_
          refine x_goto (pc := 49) (tgt := 13) g (by decide) dX6_tellsPlaces_49 ?_
          refine x_lv [1, 2, 3, 0] rfl ?_
          exact hr13 (x1 + (1 : Int32)) σ2
        · refine x_iconst (pc := 44) (v := (0 : Int32)) g (by decide) dX6_tellsPlaces_44 ?_
          exact x_zreturn (pc := 45) g hrt (by decide) dX6_tellsPlaces_45
  · refine x_iconst (pc := 9) (v := (0 : Int32)) g (by decide) dX6_tellsPlaces_9 ?_
    exact x_zreturn (pc := 10) g hrt (by decide) dX6_tellsPlaces_10
