def B_X5_surePlace_L37 (N : Nat) (a0 : Int32) (a1 : Int32) (v3 : Int32) (j83 : Sx → Option (Int32 × Sx)) (r37 : Int32 → Sx → Option (Int32 × Sx)) (x1 : Int32) (σ5 : Sx) : Option (Int32 × Sx) := (if (siI σ5 3 10) ≤ x1 then j83 σ5 else clx (F_X2_heldDay x1 σ5) (fun v4 σ6 => clx (F_X8_wayOn v4 a0 σ6) (fun v5 σ7 => clx (F_X8_placeAt N v5 a1 σ7) (fun v6 σ8 => (if v6 = v3 then r37 (x1 + (1 : Int32)) σ8 else some ((-3 : Int32), σ8))))))
def F_X5_surePlace (N : Nat) (a0 : Int32) (a1 : Int32) (σ0 : Sx) : Option (Int32 × Sx) := (if (siI σ0 3 10) = 0 then some ((-2 : Int32), σ0) else clx (F_X2_heldDay (0 : Int32) σ0) (fun v1 σ1 => clx (F_X8_wayOn v1 a0 σ1) (fun v2 σ2 => clx (F_X8_placeAt N v2 a1 σ2) (fun v3 σ3 => nmx (fun (σ4 : Sx) => (if v3 = (-2 : Int32) then some ((-3 : Int32), σ4) else some (v3, σ4))) (fun (j83 : Sx → Option (Int32 × Sx)) => lpx1 (B_X5_surePlace_L37 N a0 a1 v3 j83) N (1 : Int32) σ3)))))
set_option maxRecDepth 100000 in
set_option maxHeartbeats 4000000 in
theorem mc_X5_surePlace {D : va_G} {al : Nat → Nat} {cA : Nat → ClassId} {ba : Nat} (N : Nat) (a0 : Int32) (a1 : Int32) : MCx D al cA ba yX5_surePlace cX5_surePlace 5 (some .int) 2 42 rvI [.ref (al 4), .int a0, .int a1] (F_X5_surePlace N a0 a1) := by
  refine MCx_of (by decide +kernel) (Nat.le_of_ble_eq_true rfl) ?_
  intro p l e s m args below meth c σ0 g hrt
  unfold F_X5_surePlace
  refine x_lv (lv' := [(0, .ref (al 4)), (1, .int a0), (2, .int a1)]) [0, 1, 2] rfl ?_
  refine x_aload_n (pc := 0) g rfl 0 rfl dX5_surePlace_0 ?_
  refine x_getR (pc := 1) g sh_4 fl_X5_25 rfl dX5_surePlace_1 ?_
  refine x_getI (pc := 4) g sh_3 fl_X5_29 rfl dX5_surePlace_4 ?_
  refine x_if_ne (pc := 7) (tgt := 13) g (by decide) dX5_surePlace_7 ?_ ?_
  · refine x_aload_n (pc := 13) g rfl 0 rfl dX5_surePlace_13 ?_
    refine x_getR (pc := 14) g sh_4 fl_X5_21 rfl dX5_surePlace_14 ?_
    refine x_aload_n (pc := 17) g rfl 0 rfl dX5_surePlace_17 ?_
    refine x_getR (pc := 18) g sh_4 fl_X5_25 rfl dX5_surePlace_18 ?_
    refine x_iconst (pc := 21) (v := (0 : Int32)) g (by decide) dX5_surePlace_21 ?_
    refine x_callVI (pc := 22) (As := [.int (0 : Int32)]) g sh_3 (mc_X2_heldDay (0 : Int32)) cw_X2_heldDay lk_X5_35 rfl ⟨Nat.le_of_ble_eq_true rfl, Nat.le_of_ble_eq_true rfl⟩ rfl (Nat.le_of_ble_eq_true rfl) dX5_surePlace_22 (fun v1 σ1 => ?_)
    refine x_iload_n (pc := 25) g rfl 1 rfl dX5_surePlace_25 ?_
    refine x_callSI (pc := 26) (As := [.int v1, .int a0]) g (mc_X8_wayOn v1 a0) cw_X8_wayOn lk_X5_39 rfl ⟨Nat.le_of_ble_eq_true rfl, Nat.le_of_ble_eq_true rfl⟩ rfl (Nat.le_of_ble_eq_true rfl) dX5_surePlace_26 (fun v2 σ2 => ?_)
    refine x_iload_n (pc := 29) g rfl 2 rfl dX5_surePlace_29 ?_
    refine x_callVI (pc := 30) (As := [.int v2, .int a1]) g sh_1 (mc_X8_placeAt N v2 a1) cw_X8_placeAt lk_X5_45 rfl ⟨Nat.le_of_ble_eq_true rfl, Nat.le_of_ble_eq_true rfl⟩ rfl (Nat.le_of_ble_eq_true rfl) dX5_surePlace_30 (fun v3 σ3 => ?_)
    refine x_istore_n (pc := 33) (lv' := [(3, .int v3), (0, .ref (al 4)), (1, .int a0), (2, .int a1)]) g rfl (by decide) rfl dX5_surePlace_33 ?_
    refine x_iconst (pc := 34) (v := (1 : Int32)) g (by decide) dX5_surePlace_34 ?_
    refine x_istore (pc := 35) (lv' := [(4, .int (1 : Int32)), (3, .int v3), (0, .ref (al 4)), (1, .int a0), (2, .int a1)]) g (by decide) rfl dX5_surePlace_35 ?_
    refine x_jn (fun (j83 : Sx → Option (Int32 × Sx)) => ∀ (σ4 : Sx), XTx p l e { frames := 2, cells := 0, slots := 0, locals := 42 } s m args below meth c D al cA ba 5 (MQx rvI D al cA ba below args s) 0 0 83 [(3, .int v3)] [] σ4 (j83 σ4)) (fun σ4 => ?_) (fun j83 hj83 => ?_)
    · refine x_iload_n (pc := 83) g rfl 0 rfl dX5_surePlace_83 ?_
      refine x_bipush (pc := 84) (v := (-2 : Int32)) g (by decide) dX5_surePlace_84 ?_
      refine x_icmp_ne (pc := 86) (tgt := 94) g (by decide) dX5_surePlace_86 ?_ ?_
      · refine x_iload_n (pc := 94) g rfl 0 rfl dX5_surePlace_94 ?_
        exact x_ireturn (pc := 95) g hrt dX5_surePlace_95
      · refine x_bipush (pc := 89) (v := (-3 : Int32)) g (by decide) dX5_surePlace_89 ?_
        refine x_goto (pc := 91) (tgt := 95) g (by decide) dX5_surePlace_91 ?_
        exact x_ireturn (pc := 95) g hrt dX5_surePlace_95
    · refine x_lv [2, 3, 4, 1, 0] rfl ?_
      refine lpx1_ind (fun (x1 : Int32) (σ5 : Sx) (K : Option (Int32 × Sx)) => XTx p l e { frames := 2, cells := 0, slots := 0, locals := 42 } s m args below meth c D al cA ba 5 (MQx rvI D al cA ba below args s) 0 0 37 [(0, .ref (al 4)), (1, .int a0), (2, .int a1), (3, .int v3), (4, .int x1)] [] σ5 (K)) (fun _ _ => x_no) (fun r37 hr37 x1 σ5 => ?_) N (1 : Int32) σ3
      show XTx p l e { frames := 2, cells := 0, slots := 0, locals := 42 } s m args below meth c D al cA ba 5 (MQx rvI D al cA ba below args s) 0 0 37 [(0, .ref (al 4)), (1, .int a0), (2, .int a1), (3, .int v3), (4, .int x1)] [] σ5 (B_X5_surePlace_L37 N a0 a1 v3 j83 r37 x1 σ5)
      unfold B_X5_surePlace_L37
      refine x_iload (pc := 37) g 4 rfl dX5_surePlace_37 ?_
      refine x_aload_n (pc := 39) g rfl 0 rfl dX5_surePlace_39 ?_
      refine x_getR (pc := 40) g sh_4 fl_X5_25 rfl dX5_surePlace_40 ?_
      refine x_getI (pc := 43) g sh_3 fl_X5_29 rfl dX5_surePlace_43 ?_
      refine x_icmp_ge (pc := 46) (tgt := 83) g (by decide) dX5_surePlace_46 ?_ ?_
      · refine x_lv [3] rfl ?_
        exact hj83 σ5
      · refine x_aload_n (pc := 49) g rfl 0 rfl dX5_surePlace_49 ?_
        refine x_getR (pc := 50) g sh_4 fl_X5_21 rfl dX5_surePlace_50 ?_
        refine x_aload_n (pc := 53) g rfl 0 rfl dX5_surePlace_53 ?_
        refine x_getR (pc := 54) g sh_4 fl_X5_25 rfl dX5_surePlace_54 ?_
        refine x_iload (pc := 57) g 4 rfl dX5_surePlace_57 ?_
        refine x_callVI (pc := 59) (As := [.int x1]) g sh_3 (mc_X2_heldDay x1) cw_X2_heldDay lk_X5_35 rfl ⟨Nat.le_of_ble_eq_true rfl, Nat.le_of_ble_eq_true rfl⟩ rfl (Nat.le_of_ble_eq_true rfl) dX5_surePlace_59 (fun v4 σ6 => ?_)
        refine x_iload_n (pc := 62) g rfl 1 rfl dX5_surePlace_62 ?_
        refine x_callSI (pc := 63) (As := [.int v4, .int a0]) g (mc_X8_wayOn v4 a0) cw_X8_wayOn lk_X5_39 rfl ⟨Nat.le_of_ble_eq_true rfl, Nat.le_of_ble_eq_true rfl⟩ rfl (Nat.le_of_ble_eq_true rfl) dX5_surePlace_63 (fun v5 σ7 => ?_)
        refine x_iload_n (pc := 66) g rfl 2 rfl dX5_surePlace_66 ?_
        refine x_callVI (pc := 67) (As := [.int v5, .int a1]) g sh_1 (mc_X8_placeAt N v5 a1) cw_X8_placeAt lk_X5_45 rfl ⟨Nat.le_of_ble_eq_true rfl, Nat.le_of_ble_eq_true rfl⟩ rfl (Nat.le_of_ble_eq_true rfl) dX5_surePlace_67 (fun v6 σ8 => ?_)
        refine x_iload_n (pc := 70) g rfl 3 rfl dX5_surePlace_70 ?_
        refine x_icmp_eq (pc := 71) (tgt := 77) g (by decide) dX5_surePlace_71 ?_ ?_
        · refine x_iinc (pc := 77) (v := (x1 + (1 : Int32))) (lv' := [(4, .int (x1 + (1 : Int32))), (0, .ref (al 4)), (1, .int a0), (2, .int a1), (3, .int v3)]) g 4 rfl (by rfl) (by decide) rfl dX5_surePlace_77 ?_
          refine x_goto (pc := 80) (tgt := 37) g (by decide) dX5_surePlace_80 ?_
          refine x_lv [1, 2, 3, 4, 0] rfl ?_
          exact hr37 (x1 + (1 : Int32)) σ8
        · refine x_bipush (pc := 74) (v := (-3 : Int32)) g (by decide) dX5_surePlace_74 ?_
          exact x_ireturn (pc := 76) g hrt dX5_surePlace_76
  · refine x_bipush (pc := 10) (v := (-2 : Int32)) g (by decide) dX5_surePlace_10 ?_
    exact x_ireturn (pc := 12) g hrt dX5_surePlace_12
def B_X5_keepAlike_L17 (N : Nat) (a2 : Int32) (v1 : Int32) (j74 : Int32 → Sx → Option (Unit × Sx)) (r17 : Int32 → Int32 → Sx → Option (Unit × Sx)) (x2 : Int32) (x3 : Int32) (σ4 : Sx) : Option (Unit × Sx) := (if (siI σ4 4 3) ≤ x3 then j74 x2 σ4 else aIx 90 1024 x3 σ4 (fun v2 => aIx 84 1024 v2 σ4 (fun v3 => clx (F_X8_walkersOf (v1 &&& v3) σ4) (fun v4 σ5 => nmx (fun (x4 : Int32) (σ6 : Sx) => r17 x4 (x3 + (1 : Int32)) σ6) (fun (j68 : Int32 → Sx → Option (Unit × Sx)) => (if v4 = a2 then aIx 90 1024 x3 σ5 (fun v5 => sIx 90 1024 x2 v5 σ5 (fun σ7 => j68 (x2 + (1 : Int32)) σ7)) else j68 x2 σ5))))))
def F_X5_keepAlike (N : Nat) (a0 : Int32) (a1 : Int32) (a2 : Int32) (σ0 : Sx) : Option (Unit × Sx) := clx (F_X8_tracks N a0 a1 σ0) (fun v1 σ1 => nmx (fun (x1 : Int32) (σ2 : Sx) => pIx 4 3 x1 σ2 (fun σ3 => some ((), σ3))) (fun (j74 : Int32 → Sx → Option (Unit × Sx)) => lpx2 (B_X5_keepAlike_L17 N a2 v1 j74) N (0 : Int32) (0 : Int32) σ1))
set_option maxRecDepth 100000 in
set_option maxHeartbeats 4000000 in
theorem mc_X5_keepAlike {D : va_G} {al : Nat → Nat} {cA : Nat → ClassId} {ba : Nat} (N : Nat) (a0 : Int32) (a1 : Int32) (a2 : Int32) : MCx D al cA ba yX5_keepAlike cX5_keepAlike 7 none 3 71 rvU [.ref (al 4), .int a0, .int a1, .int a2] (F_X5_keepAlike N a0 a1 a2) := by
  refine MCx_of (by decide +kernel) (Nat.le_of_ble_eq_true rfl) ?_
  intro p l e s m args below meth c σ0 g hrt
  unfold F_X5_keepAlike
  refine x_lv (lv' := [(0, .ref (al 4)), (1, .int a0), (2, .int a1), (3, .int a2)]) [0, 1, 2, 3] rfl ?_
  refine x_aload_n (pc := 0) g rfl 0 rfl dX5_keepAlike_0 ?_
  refine x_getR (pc := 1) g sh_4 fl_X5_21 rfl dX5_keepAlike_1 ?_
  refine x_iload_n (pc := 4) g rfl 1 rfl dX5_keepAlike_4 ?_
  refine x_iload_n (pc := 5) g rfl 2 rfl dX5_keepAlike_5 ?_
  refine x_callVI (pc := 6) (As := [.int a0, .int a1]) g sh_1 (mc_X8_tracks N a0 a1) cw_X8_tracks lk_X5_80 rfl ⟨Nat.le_of_ble_eq_true rfl, Nat.le_of_ble_eq_true rfl⟩ rfl (Nat.le_of_ble_eq_true rfl) dX5_keepAlike_6 (fun v1 σ1 => ?_)
  refine x_istore (pc := 9) (lv' := [(4, .int v1), (0, .ref (al 4)), (1, .int a0), (2, .int a1), (3, .int a2)]) g (by decide) rfl dX5_keepAlike_9 ?_
  refine x_iconst (pc := 11) (v := (0 : Int32)) g (by decide) dX5_keepAlike_11 ?_
  refine x_istore (pc := 12) (lv' := [(5, .int (0 : Int32)), (4, .int v1), (0, .ref (al 4)), (1, .int a0), (2, .int a1), (3, .int a2)]) g (by decide) rfl dX5_keepAlike_12 ?_
  refine x_iconst (pc := 14) (v := (0 : Int32)) g (by decide) dX5_keepAlike_14 ?_
  refine x_istore (pc := 15) (lv' := [(6, .int (0 : Int32)), (5, .int (0 : Int32)), (4, .int v1), (0, .ref (al 4)), (1, .int a0), (2, .int a1), (3, .int a2)]) g (by decide) rfl dX5_keepAlike_15 ?_
  refine x_jn (fun (j74 : Int32 → Sx → Option (Unit × Sx)) => ∀ (x1 : Int32) (σ2 : Sx), XTx p l e { frames := 3, cells := 0, slots := 0, locals := 71 } s m args below meth c D al cA ba 7 (MQx rvU D al cA ba below args s) 0 0 74 [(0, .ref (al 4)), (5, .int x1)] [] σ2 (j74 x1 σ2)) (fun x1 σ2 => ?_) (fun j74 hj74 => ?_)
  · refine x_aload_n (pc := 74) g rfl 0 rfl dX5_keepAlike_74 ?_
    refine x_iload (pc := 75) g 1 rfl dX5_keepAlike_75 ?_
    refine x_putI (pc := 77) g sh_4 fl_X5_57 rfl dX5_keepAlike_77 (fun σ3 => ?_)
    exact x_return (pc := 80) g hrt dX5_keepAlike_80
  · refine x_lv [3, 6, 2, 1, 0] rfl ?_
    refine lpx2_ind (fun (x2 : Int32) (x3 : Int32) (σ4 : Sx) (K : Option (Unit × Sx)) => XTx p l e { frames := 3, cells := 0, slots := 0, locals := 71 } s m args below meth c D al cA ba 7 (MQx rvU D al cA ba below args s) 0 0 17 [(0, .ref (al 4)), (3, .int a2), (4, .int v1), (5, .int x2), (6, .int x3)] [] σ4 (K)) (fun _ _ _ => x_no) (fun r17 hr17 x2 x3 σ4 => ?_) N (0 : Int32) (0 : Int32) σ1
    show XTx p l e { frames := 3, cells := 0, slots := 0, locals := 71 } s m args below meth c D al cA ba 7 (MQx rvU D al cA ba below args s) 0 0 17 [(0, .ref (al 4)), (3, .int a2), (4, .int v1), (5, .int x2), (6, .int x3)] [] σ4 (B_X5_keepAlike_L17 N a2 v1 j74 r17 x2 x3 σ4)
    unfold B_X5_keepAlike_L17
    refine x_iload (pc := 17) g 4 rfl dX5_keepAlike_17 ?_
    refine x_aload_n (pc := 19) g rfl 0 rfl dX5_keepAlike_19 ?_
    refine x_getI (pc := 20) g sh_4 fl_X5_57 rfl dX5_keepAlike_20 ?_
    refine x_icmp_ge (pc := 23) (tgt := 74) g (by decide) dX5_keepAlike_23 ?_ ?_
    · refine x_lv [0, 3] rfl ?_
      exact hj74 x2 σ4
    · refine x_iload (pc := 26) g 2 rfl dX5_keepAlike_26 ?_
      refine x_aload_n (pc := 28) g rfl 0 rfl dX5_keepAlike_28 ?_
      refine x_getR (pc := 29) g sh_4 fl_X5_25 rfl dX5_keepAlike_29 ?_
      refine x_getR (pc := 32) g sh_3 fl_X5_83 rfl dX5_keepAlike_32 ?_
      refine x_aload_n (pc := 35) g rfl 0 rfl dX5_keepAlike_35 ?_
      refine x_getR (pc := 36) g sh_4 fl_X5_9 rfl dX5_keepAlike_36 ?_
      refine x_iload (pc := 39) g 4 rfl dX5_keepAlike_39 ?_
      refine x_iald (pc := 41) g sh_90 (by decide) dX5_keepAlike_41 (fun v2 => ?_)
      refine x_iald (pc := 42) g sh_84 (by decide) dX5_keepAlike_42 (fun v3 => ?_)
      refine x_iand (pc := 43) g dX5_keepAlike_43 ?_
      refine x_callSI (pc := 44) (As := [.int (v1 &&& v3)]) g (mc_X8_walkersOf (v1 &&& v3)) cw_X8_walkersOf lk_X5_86 rfl ⟨Nat.le_of_ble_eq_true rfl, Nat.le_of_ble_eq_true rfl⟩ rfl (Nat.le_of_ble_eq_true rfl) dX5_keepAlike_44 (fun v4 σ5 => ?_)
      refine x_iload_n (pc := 47) g rfl 1 rfl dX5_keepAlike_47 ?_
      refine x_jn (fun (j68 : Int32 → Sx → Option (Unit × Sx)) => ∀ (x4 : Int32) (σ6 : Sx), XTx p l e { frames := 3, cells := 0, slots := 0, locals := 71 } s m args below meth c D al cA ba 7 (MQx rvU D al cA ba below args s) 0 0 68 [(0, .ref (al 4)), (3, .int a2), (4, .int v1), (5, .int x4), (6, .int x3)] [] σ6 (j68 x4 σ6)) (fun x4 σ6 => ?_) (fun j68 hj68 => ?_)
      · refine x_iinc (pc := 68) (v := (x3 + (1 : Int32))) (lv' := [(6, .int (x3 + (1 : Int32))), (0, .ref (al 4)), (3, .int a2), (4, .int v1), (5, .int x4)]) g 4 rfl (by rfl) (by decide) rfl dX5_keepAlike_68 ?_
        refine x_goto (pc := 71) (tgt := 17) g (by decide) dX5_keepAlike_71 ?_
        refine x_lv [1, 2, 3, 4, 0] rfl ?_
        exact hr17 x4 (x3 + (1 : Int32)) σ6
      · refine x_icmp_ne (pc := 48) (tgt := 68) g (by decide) dX5_keepAlike_48 ?_ ?_
        · exact hj68 x2 σ5
        · refine x_aload_n (pc := 51) g rfl 0 rfl dX5_keepAlike_51 ?_
          refine x_getR (pc := 52) g sh_4 fl_X5_9 rfl dX5_keepAlike_52 ?_
          refine x_iload (pc := 55) g 3 rfl dX5_keepAlike_55 ?_
          refine x_aload_n (pc := 57) g rfl 0 rfl dX5_keepAlike_57 ?_
          refine x_getR (pc := 58) g sh_4 fl_X5_9 rfl dX5_keepAlike_58 ?_
          refine x_iload (pc := 61) g 4 rfl dX5_keepAlike_61 ?_
          refine x_iald (pc := 63) g sh_90 (by decide) dX5_keepAlike_63 (fun v5 => ?_)
          refine x_iast (pc := 64) g sh_90 (by decide) dX5_keepAlike_64 (fun σ7 => ?_)
          refine x_iinc (pc := 65) (v := (x2 + (1 : Int32))) (lv' := [(5, .int (x2 + (1 : Int32))), (0, .ref (al 4)), (3, .int a2), (4, .int v1), (6, .int x3)]) g 3 rfl (by rfl) (by decide) rfl dX5_keepAlike_65 ?_
          refine x_lv [1, 2, 3, 0, 4] rfl ?_
          exact hj68 (x2 + (1 : Int32)) σ7
def B_X5_narrowBy_L55 (N : Nat) (k1 : Nat) (r55 : Int32 → Sx → Option (Int32 × Sx)) (x1 : Int32) (σ5 : Sx) : Option (Int32 × Sx) := (if (siI σ5 (10 + k1) 1) ≤ (x1 + (2 : Int32)) then some ((0 : Int32), σ5) else aLx (16 + k1) 60 x1 σ5 (fun z1 => aLx (16 + k1) 60 (x1 + (1 : Int32)) σ5 (fun z2 => aLx (16 + k1) 60 (x1 + (2 : Int32)) σ5 (fun z3 => clx (F_X5_keepAlike N z1.toInt32 z2.toInt32 z3.toInt32 σ5) (fun _ σ6 => r55 (x1 + (3 : Int32)) σ6)))))
def F_X5_narrowBy (N : Nat) (k1 : Nat) (σ0 : Sx) : Option (Int32 × Sx) := clx (F_X6_refusalOfSort k1 (1 : Int32) σ0) (fun v1 σ1 => (if v1 = 0 then clx (F_X6_tellsTracks N k1 σ1) (fun v2 σ2 => (if v2 = 0 then some ((-5 : Int32), σ2) else pIx 4 3 (siI σ2 3 10) σ2 (fun σ3 => cIx 88 1024 (0 : Int32) 90 1024 (0 : Int32) (siI σ3 4 3) σ3 (fun σ4 => lpx1 (B_X5_narrowBy_L55 N k1) N (0 : Int32) σ4)))) else some (v1, σ1)))
set_option maxRecDepth 100000 in
set_option maxHeartbeats 4000000 in
theorem mc_X5_narrowBy {D : va_G} {al : Nat → Nat} {cA : Nat → ClassId} {ba : Nat} (N : Nat) (k1 : Nat) (hk1 : k1 < 6) : MCx D al cA ba yX5_narrowBy cX5_narrowBy 4 (some .int) 4 97 rvI [.ref (al 4), .ref (al (10 + k1))] (F_X5_narrowBy N k1) := by
  refine MCx_of (by decide +kernel) (Nat.le_of_ble_eq_true rfl) ?_
  intro p l e s m args below meth c σ0 g hrt
  unfold F_X5_narrowBy
  refine x_lv (lv' := [(0, .ref (al 4)), (1, .ref (al (10 + k1)))]) [0, 1] rfl ?_
  refine x_aload_n (pc := 0) g rfl 1 rfl dX5_narrowBy_0 ?_
  refine x_iconst (pc := 1) (v := (1 : Int32)) g (by decide) dX5_narrowBy_1 ?_
  refine x_callVI (pc := 2) (As := [.int (1 : Int32)]) g (shf_10 k1 hk1) (mc_X6_refusalOfSort k1 hk1 (1 : Int32)) cw_X6_refusalOfSort lk_X5_50 rfl ⟨Nat.le_of_ble_eq_true rfl, Nat.le_of_ble_eq_true rfl⟩ rfl (Nat.le_of_ble_eq_true rfl) dX5_narrowBy_2 (fun v1 σ1 => ?_)
  refine x_istore_n (pc := 5) (lv' := [(2, .int v1), (0, .ref (al 4)), (1, .ref (al (10 + k1)))]) g rfl (by decide) rfl dX5_narrowBy_5 ?_
  refine x_iload_n (pc := 6) g rfl 0 rfl dX5_narrowBy_6 ?_
  refine x_if_eq (pc := 7) (tgt := 12) g (by decide) dX5_narrowBy_7 ?_ ?_
  · refine x_aload_n (pc := 12) g rfl 2 rfl dX5_narrowBy_12 ?_
    refine x_callVI (pc := 13) (As := []) g (shf_10 k1 hk1) (mc_X6_tellsTracks N k1 hk1) cw_X6_tellsTracks lk_X5_53 rfl ⟨Nat.le_of_ble_eq_true rfl, Nat.le_of_ble_eq_true rfl⟩ rfl (Nat.le_of_ble_eq_true rfl) dX5_narrowBy_13 (fun v2 σ2 => ?_)
    refine x_if_ne (pc := 16) (tgt := 22) g (by decide) dX5_narrowBy_16 ?_ ?_
    · refine x_aload_n (pc := 22) g rfl 1 rfl dX5_narrowBy_22 ?_
      refine x_aload_n (pc := 23) g rfl 1 rfl dX5_narrowBy_23 ?_
      refine x_getR (pc := 24) g sh_4 fl_X5_25 rfl dX5_narrowBy_24 ?_
      refine x_getI (pc := 27) g sh_3 fl_X5_29 rfl dX5_narrowBy_27 ?_
      refine x_putI (pc := 30) g sh_4 fl_X5_57 rfl dX5_narrowBy_30 (fun σ3 => ?_)
      refine x_aload_n (pc := 33) g rfl 1 rfl dX5_narrowBy_33 ?_
      refine x_getR (pc := 34) g sh_4 fl_X5_25 rfl dX5_narrowBy_34 ?_
      refine x_getR (pc := 37) g sh_3 fl_X5_60 rfl dX5_narrowBy_37 ?_
      refine x_iconst (pc := 40) (v := (0 : Int32)) g (by decide) dX5_narrowBy_40 ?_
      refine x_aload_n (pc := 41) g rfl 1 rfl dX5_narrowBy_41 ?_
      refine x_getR (pc := 42) g sh_4 fl_X5_9 rfl dX5_narrowBy_42 ?_
      refine x_iconst (pc := 45) (v := (0 : Int32)) g (by decide) dX5_narrowBy_45 ?_
      refine x_aload_n (pc := 46) g rfl 1 rfl dX5_narrowBy_46 ?_
      refine x_getI (pc := 47) g sh_4 fl_X5_57 rfl dX5_narrowBy_47 ?_
      refine x_copyI (pc := 50) g sh_88 sh_90 (by decide) (by decide) lk_X5_63 (Nat.le_of_ble_eq_true rfl) (Nat.le_of_ble_eq_true rfl) dX5_narrowBy_50 (Nat.le_of_ble_eq_true rfl) (fun σ4 => ?_)
      refine x_iconst (pc := 53) (v := (0 : Int32)) g (by decide) dX5_narrowBy_53 ?_
      refine x_istore_n (pc := 54) (lv' := [(3, .int (0 : Int32)), (2, .int v1), (0, .ref (al 4)), (1, .ref (al (10 + k1)))]) g rfl (by decide) rfl dX5_narrowBy_54 ?_
      refine x_lv [2, 3, 0] rfl ?_
      refine lpx1_ind (fun (x1 : Int32) (σ5 : Sx) (K : Option (Int32 × Sx)) => XTx p l e { frames := 4, cells := 0, slots := 0, locals := 97 } s m args below meth c D al cA ba 4 (MQx rvI D al cA ba below args s) 0 0 55 [(0, .ref (al 4)), (1, .ref (al (10 + k1))), (3, .int x1)] [] σ5 (K)) (fun _ _ => x_no) (fun r55 hr55 x1 σ5 => ?_) N (0 : Int32) σ4
      show XTx p l e { frames := 4, cells := 0, slots := 0, locals := 97 } s m args below meth c D al cA ba 4 (MQx rvI D al cA ba below args s) 0 0 55 [(0, .ref (al 4)), (1, .ref (al (10 + k1))), (3, .int x1)] [] σ5 (B_X5_narrowBy_L55 N k1 r55 x1 σ5)
      unfold B_X5_narrowBy_L55
      refine x_iload_n (pc := 55) g rfl 2 rfl dX5_narrowBy_55 ?_
      refine x_iconst (pc := 56) (v := (2 : Int32)) g (by decide) dX5_narrowBy_56 ?_
      refine x_iadd (pc := 57) g dX5_narrowBy_57 ?_
      refine x_aload_n (pc := 58) g rfl 1 rfl dX5_narrowBy_58 ?_
      refine x_getI (pc := 59) g (shf_10 k1 hk1) fl_X5_69 rfl dX5_narrowBy_59 ?_
      refine x_icmp_ge (pc := 62) (tgt := 100) g (by decide) dX5_narrowBy_62 ?_ ?_
      · refine x_iconst (pc := 100) (v := (0 : Int32)) g (by decide) dX5_narrowBy_100 ?_
        exact x_ireturn (pc := 101) g hrt dX5_narrowBy_101
      · refine x_aload_n (pc := 65) g rfl 0 rfl dX5_narrowBy_65 ?_
        refine x_aload_n (pc := 66) g rfl 1 rfl dX5_narrowBy_66 ?_
        refine x_getR (pc := 67) g (shf_10 k1 hk1) fl_X5_72 rfl dX5_narrowBy_67 ?_
        refine x_iload_n (pc := 70) g rfl 2 rfl dX5_narrowBy_70 ?_
        refine x_lald (pc := 71) g (shf_16 k1 hk1) (by decide) dX5_narrowBy_71 (fun z1 => ?_)
        refine x_l2i (pc := 72) g dX5_narrowBy_72 ?_
        refine x_aload_n (pc := 73) g rfl 1 rfl dX5_narrowBy_73 ?_
        refine x_getR (pc := 74) g (shf_10 k1 hk1) fl_X5_72 rfl dX5_narrowBy_74 ?_
        refine x_iload_n (pc := 77) g rfl 2 rfl dX5_narrowBy_77 ?_
        refine x_iconst (pc := 78) (v := (1 : Int32)) g (by decide) dX5_narrowBy_78 ?_
        refine x_iadd (pc := 79) g dX5_narrowBy_79 ?_
        refine x_lald (pc := 80) g (shf_16 k1 hk1) (by decide) dX5_narrowBy_80 (fun z2 => ?_)
        refine x_l2i (pc := 81) g dX5_narrowBy_81 ?_
        refine x_aload_n (pc := 82) g rfl 1 rfl dX5_narrowBy_82 ?_
        refine x_getR (pc := 83) g (shf_10 k1 hk1) fl_X5_72 rfl dX5_narrowBy_83 ?_
        refine x_iload_n (pc := 86) g rfl 2 rfl dX5_narrowBy_86 ?_
        refine x_iconst (pc := 87) (v := (2 : Int32)) g (by decide) dX5_narrowBy_87 ?_
        refine x_iadd (pc := 88) g dX5_narrowBy_88 ?_
        refine x_lald (pc := 89) g (shf_16 k1 hk1) (by decide) dX5_narrowBy_89 (fun z3 => ?_)
        refine x_l2i (pc := 90) g dX5_narrowBy_90 ?_
        refine x_callVU (pc := 91) (As := [.int z1.toInt32, .int z2.toInt32, .int z3.toInt32]) g sh_4 (mc_X5_keepAlike N z1.toInt32 z2.toInt32 z3.toInt32) cw_X5_keepAlike lk_X5_76 rfl ⟨Nat.le_of_ble_eq_true rfl, Nat.le_of_ble_eq_true rfl⟩ rfl (Nat.le_of_ble_eq_true rfl) dX5_narrowBy_91 (fun _ σ6 => ?_)
        refine x_iinc (pc := 94) (v := (x1 + (3 : Int32))) (lv' := [(3, .int (x1 + (3 : Int32))), (0, .ref (al 4)), (1, .ref (al (10 + k1)))]) g 2 rfl (by rfl) (by decide) rfl dX5_narrowBy_94 ?_
        refine x_goto (pc := 97) (tgt := 55) g (by decide) dX5_narrowBy_97 ?_
        refine x_lv [1, 2, 0] rfl ?_
        exact hr55 (x1 + (3 : Int32)) σ6
    · refine x_bipush (pc := 19) (v := (-5 : Int32)) g (by decide) dX5_narrowBy_19 ?_
      exact x_ireturn (pc := 21) g hrt dX5_narrowBy_21
  · refine x_iload_n (pc := 10) g rfl 0 rfl dX5_narrowBy_10 ?_
    exact x_ireturn (pc := 11) g hrt dX5_narrowBy_11
def F_X5_firstFitting (σ0 : Sx) : Option (Int32 × Sx) := (if (siI σ0 4 3) = 0 then some ((-2 : Int32), σ0) else aIx 90 1024 (0 : Int32) σ0 (fun v1 => aIx 83 1024 v1 σ0 (fun v2 => some (v2, σ0))))
set_option maxRecDepth 100000 in
set_option maxHeartbeats 4000000 in
theorem mc_X5_firstFitting {D : va_G} {al : Nat → Nat} {cA : Nat → ClassId} {ba : Nat}  : MCx D al cA ba yX5_firstFitting cX5_firstFitting 1 (some .int) 0 0 rvI [.ref (al 4)] (F_X5_firstFitting ) := by
  refine MCx_of (by decide +kernel) (Nat.le_of_ble_eq_true rfl) ?_
  intro p l e s m args below meth c σ0 g hrt
  unfold F_X5_firstFitting
  refine x_lv (lv' := [(0, .ref (al 4))]) [0] rfl ?_
  refine x_aload_n (pc := 0) g rfl 0 rfl dX5_firstFitting_0 ?_
  refine x_getI (pc := 1) g sh_4 fl_X5_57 rfl dX5_firstFitting_1 ?_
  refine x_if_ne (pc := 4) (tgt := 12) g (by decide) dX5_firstFitting_4 ?_ ?_
  · refine x_aload_n (pc := 12) g rfl 0 rfl dX5_firstFitting_12 ?_
    refine x_getR (pc := 13) g sh_4 fl_X5_25 rfl dX5_firstFitting_13 ?_
    refine x_getR (pc := 16) g sh_3 fl_X5_89 rfl dX5_firstFitting_16 ?_
    refine x_aload_n (pc := 19) g rfl 0 rfl dX5_firstFitting_19 ?_
    refine x_getR (pc := 20) g sh_4 fl_X5_9 rfl dX5_firstFitting_20 ?_
    refine x_iconst (pc := 23) (v := (0 : Int32)) g (by decide) dX5_firstFitting_23 ?_
    refine x_iald (pc := 24) g sh_90 (by decide) dX5_firstFitting_24 (fun v1 => ?_)
    refine x_iald (pc := 25) g sh_83 (by decide) dX5_firstFitting_25 (fun v2 => ?_)
    exact x_ireturn (pc := 26) g hrt dX5_firstFitting_26
  · refine x_bipush (pc := 7) (v := (-2 : Int32)) g (by decide) dX5_firstFitting_7 ?_
    refine x_goto (pc := 9) (tgt := 26) g (by decide) dX5_firstFitting_9 ?_
    exact x_ireturn (pc := 26) g hrt dX5_firstFitting_26
def B_X5_alikeWalkers_L13 (N : Nat) (j44 : Int32 → Sx → Option (Int32 × Sx)) (r13 : Int32 → Int32 → Sx → Option (Int32 × Sx)) (x2 : Int32) (x3 : Int32) (σ3 : Sx) : Option (Int32 × Sx) := (if (siI σ3 4 3) ≤ x3 then j44 x2 σ3 else aIx 90 1024 x3 σ3 (fun v2 => aIx 84 1024 v2 σ3 (fun v3 => nmx ((x2 &&& v3)) (fun v4 => r13 v4 (x3 + (1 : Int32)) σ3))))
def F_X5_alikeWalkers (N : Nat) (σ0 : Sx) : Option (Int32 × Sx) := (if (siI σ0 4 3) = 0 then some ((0 : Int32), σ0) else nmx (fun (x1 : Int32) (σ1 : Sx) => clx (F_X8_walkersOf x1 σ1) (fun v1 σ2 => some (v1, σ2))) (fun (j44 : Int32 → Sx → Option (Int32 × Sx)) => lpx2 (B_X5_alikeWalkers_L13 N j44) N (-1 : Int32) (0 : Int32) σ0))
set_option maxRecDepth 100000 in
set_option maxHeartbeats 4000000 in
theorem mc_X5_alikeWalkers {D : va_G} {al : Nat → Nat} {cA : Nat → ClassId} {ba : Nat} (N : Nat)  : MCx D al cA ba yX5_alikeWalkers cX5_alikeWalkers 3 (some .int) 1 21 rvI [.ref (al 4)] (F_X5_alikeWalkers N) := by
  refine MCx_of (by decide +kernel) (Nat.le_of_ble_eq_true rfl) ?_
  intro p l e s m args below meth c σ0 g hrt
  unfold F_X5_alikeWalkers
  refine x_lv (lv' := [(0, .ref (al 4))]) [0] rfl ?_
  refine x_aload_n (pc := 0) g rfl 0 rfl dX5_alikeWalkers_0 ?_
  refine x_getI (pc := 1) g sh_4 fl_X5_57 rfl dX5_alikeWalkers_1 ?_
  refine x_if_ne (pc := 4) (tgt := 9) g (by decide) dX5_alikeWalkers_4 ?_ ?_
  · refine x_iconst (pc := 9) (v := (-1 : Int32)) g (by decide) dX5_alikeWalkers_9 ?_
    refine x_istore_n (pc := 10) (lv' := [(1, .int (-1 : Int32)), (0, .ref (al 4))]) g rfl (by decide) rfl dX5_alikeWalkers_10 ?_
    refine x_iconst (pc := 11) (v := (0 : Int32)) g (by decide) dX5_alikeWalkers_11 ?_
    refine x_istore_n (pc := 12) (lv' := [(2, .int (0 : Int32)), (1, .int (-1 : Int32)), (0, .ref (al 4))]) g rfl (by decide) rfl dX5_alikeWalkers_12 ?_
    refine x_jn (fun (j44 : Int32 → Sx → Option (Int32 × Sx)) => ∀ (x1 : Int32) (σ1 : Sx), XTx p l e { frames := 1, cells := 0, slots := 0, locals := 21 } s m args below meth c D al cA ba 3 (MQx rvI D al cA ba below args s) 0 0 44 [(1, .int x1)] [] σ1 (j44 x1 σ1)) (fun x1 σ1 => ?_) (fun j44 hj44 => ?_)
    · refine x_iload_n (pc := 44) g rfl 0 rfl dX5_alikeWalkers_44 ?_
      refine x_callSI (pc := 45) (As := [.int x1]) g (mc_X8_walkersOf x1) cw_X8_walkersOf lk_X5_86 rfl ⟨Nat.le_of_ble_eq_true rfl, Nat.le_of_ble_eq_true rfl⟩ rfl (Nat.le_of_ble_eq_true rfl) dX5_alikeWalkers_45 (fun v1 σ2 => ?_)
      exact x_ireturn (pc := 48) g hrt dX5_alikeWalkers_48
    · refine x_lv [2, 1, 0] rfl ?_
      refine lpx2_ind (fun (x2 : Int32) (x3 : Int32) (σ3 : Sx) (K : Option (Int32 × Sx)) => XTx p l e { frames := 1, cells := 0, slots := 0, locals := 21 } s m args below meth c D al cA ba 3 (MQx rvI D al cA ba below args s) 0 0 13 [(0, .ref (al 4)), (1, .int x2), (2, .int x3)] [] σ3 (K)) (fun _ _ _ => x_no) (fun r13 hr13 x2 x3 σ3 => ?_) N (-1 : Int32) (0 : Int32) σ0
      show XTx p l e { frames := 1, cells := 0, slots := 0, locals := 21 } s m args below meth c D al cA ba 3 (MQx rvI D al cA ba below args s) 0 0 13 [(0, .ref (al 4)), (1, .int x2), (2, .int x3)] [] σ3 (B_X5_alikeWalkers_L13 N j44 r13 x2 x3 σ3)
      unfold B_X5_alikeWalkers_L13
      refine x_iload_n (pc := 13) g rfl 2 rfl dX5_alikeWalkers_13 ?_
      refine x_aload_n (pc := 14) g rfl 0 rfl dX5_alikeWalkers_14 ?_
      refine x_getI (pc := 15) g sh_4 fl_X5_57 rfl dX5_alikeWalkers_15 ?_
      refine x_icmp_ge (pc := 18) (tgt := 44) g (by decide) dX5_alikeWalkers_18 ?_ ?_
      · refine x_lv [1] rfl ?_
        exact hj44 x2 σ3
      · refine x_iload_n (pc := 21) g rfl 1 rfl dX5_alikeWalkers_21 ?_
        refine x_aload_n (pc := 22) g rfl 0 rfl dX5_alikeWalkers_22 ?_
        refine x_getR (pc := 23) g sh_4 fl_X5_25 rfl dX5_alikeWalkers_23 ?_
        refine x_getR (pc := 26) g sh_3 fl_X5_83 rfl dX5_alikeWalkers_26 ?_
        refine x_aload_n (pc := 29) g rfl 0 rfl dX5_alikeWalkers_29 ?_
        refine x_getR (pc := 30) g sh_4 fl_X5_9 rfl dX5_alikeWalkers_30 ?_
        refine x_iload_n (pc := 33) g rfl 2 rfl dX5_alikeWalkers_33 ?_
        refine x_iald (pc := 34) g sh_90 (by decide) dX5_alikeWalkers_34 (fun v2 => ?_)
        refine x_iald (pc := 35) g sh_84 (by decide) dX5_alikeWalkers_35 (fun v3 => ?_)
        refine x_iand (pc := 36) g dX5_alikeWalkers_36 ?_
        refine x_nm (fun v4 => ?_)
        refine x_istore_n (pc := 37) (lv' := [(1, .int v4), (0, .ref (al 4)), (2, .int x3)]) g rfl (by decide) rfl dX5_alikeWalkers_37 ?_
        refine x_iinc (pc := 38) (v := (x3 + (1 : Int32))) (lv' := [(2, .int (x3 + (1 : Int32))), (1, .int v4), (0, .ref (al 4))]) g 2 rfl (by rfl) (by decide) rfl dX5_alikeWalkers_38 ?_
        refine x_goto (pc := 41) (tgt := 13) g (by decide) dX5_alikeWalkers_41 ?_
        refine x_lv [2, 1, 0] rfl ?_
        exact hr13 v4 (x3 + (1 : Int32)) σ3
  · refine x_iconst (pc := 7) (v := (0 : Int32)) g (by decide) dX5_alikeWalkers_7 ?_
    exact x_ireturn (pc := 8) g hrt dX5_alikeWalkers_8
def B_X5_markTracks_L60 (N : Nat) (a0 : Int32) (x1 : Int32) (v4 : Int32) (j101 : Sx → Option (Unit × Sx)) (r60 : Int32 → Sx → Option (Unit × Sx)) (x2 : Int32) (σ6 : Sx) : Option (Unit × Sx) := (if v4 < x2 then j101 σ6 else aRx 20 a0 (fun k12 => aIx (38 + k12) 8 x1 σ6 (fun v6 => aIx 92 3208 ((x2 * (8 : Int32)) + v6) σ6 (fun v7 => sIx 92 3208 ((x2 * (8 : Int32)) + v6) (v7 ||| (jshl (1 : Int32) a0)) σ6 (fun σ7 => r60 (x2 + (1 : Int32)) σ7)))))
def B_X5_markTracks_L13 (N : Nat) (a0 : Int32) (v1 : Int32) (r13 : Int32 → Sx → Option (Unit × Sx)) (x1 : Int32) (σ2 : Sx) : Option (Unit × Sx) := aIx 36 20 a0 σ2 (fun v2 => (if v2 ≤ x1 then some ((), σ2) else aRx 20 a0 (fun k11 => aIx (59 + k11) 8 x1 σ2 (fun v3 => clx (F_J9_min_7cf53 (v3 - (1 : Int32)) (60 : Int32) σ2) (fun v4 σ3 => clx (F_J9_max_7cf53 (v3 - v1) (0 : Int32) σ3) (fun v5 σ4 => nmx (fun (σ5 : Sx) => r13 (x1 + (1 : Int32)) σ5) (fun (j101 : Sx → Option (Unit × Sx)) => lpx1 (B_X5_markTracks_L60 N a0 x1 v4 j101) N v5 σ4)))))))
def F_X5_markTracks (N : Nat) (a0 : Int32) (σ0 : Sx) : Option (Unit × Sx) := clx (F_X8_lead (a0 / (4 : Int32)) σ0) (fun v1 σ1 => lpx1 (B_X5_markTracks_L13 N a0 v1) N (0 : Int32) σ1)
set_option maxRecDepth 100000 in
set_option maxHeartbeats 4000000 in
theorem mc_X5_markTracks {D : va_G} {al : Nat → Nat} {cA : Nat → ClassId} {ba : Nat} (N : Nat) (a0 : Int32) : MCx D al cA ba yX5_markTracks cX5_markTracks 7 none 1 21 rvU [.ref (al 4), .int a0] (F_X5_markTracks N a0) := by
  refine MCx_of (by decide +kernel) (Nat.le_of_ble_eq_true rfl) ?_
  intro p l e s m args below meth c σ0 g hrt
  unfold F_X5_markTracks
  refine x_lv (lv' := [(0, .ref (al 4)), (1, .int a0)]) [0, 1] rfl ?_
  refine x_aload_n (pc := 0) g rfl 0 rfl dX5_markTracks_0 ?_
  refine x_getR (pc := 1) g sh_4 fl_X5_21 rfl dX5_markTracks_1 ?_
  refine x_iload_n (pc := 4) g rfl 1 rfl dX5_markTracks_4 ?_
  refine x_iconst (pc := 5) (v := (4 : Int32)) g (by decide) dX5_markTracks_5 ?_
  refine x_idiv (pc := 6) g (by decide) dX5_markTracks_6 ?_
  refine x_callVI (pc := 7) (As := [.int (a0 / (4 : Int32))]) g sh_1 (mc_X8_lead (a0 / (4 : Int32))) cw_X8_lead lk_X5_108 rfl ⟨Nat.le_of_ble_eq_true rfl, Nat.le_of_ble_eq_true rfl⟩ rfl (Nat.le_of_ble_eq_true rfl) dX5_markTracks_7 (fun v1 σ1 => ?_)
  refine x_istore_n (pc := 10) (lv' := [(2, .int v1), (0, .ref (al 4)), (1, .int a0)]) g rfl (by decide) rfl dX5_markTracks_10 ?_
  refine x_iconst (pc := 11) (v := (0 : Int32)) g (by decide) dX5_markTracks_11 ?_
  refine x_istore_n (pc := 12) (lv' := [(3, .int (0 : Int32)), (2, .int v1), (0, .ref (al 4)), (1, .int a0)]) g rfl (by decide) rfl dX5_markTracks_12 ?_
  refine x_lv [2, 3, 1, 0] rfl ?_
  refine lpx1_ind (fun (x1 : Int32) (σ2 : Sx) (K : Option (Unit × Sx)) => XTx p l e { frames := 1, cells := 0, slots := 0, locals := 21 } s m args below meth c D al cA ba 7 (MQx rvU D al cA ba below args s) 0 0 13 [(0, .ref (al 4)), (1, .int a0), (2, .int v1), (3, .int x1)] [] σ2 (K)) (fun _ _ => x_no) (fun r13 hr13 x1 σ2 => ?_) N (0 : Int32) σ1
  show XTx p l e { frames := 1, cells := 0, slots := 0, locals := 21 } s m args below meth c D al cA ba 7 (MQx rvU D al cA ba below args s) 0 0 13 [(0, .ref (al 4)), (1, .int a0), (2, .int v1), (3, .int x1)] [] σ2 (B_X5_markTracks_L13 N a0 v1 r13 x1 σ2)
  unfold B_X5_markTracks_L13
  refine x_iload_n (pc := 13) g rfl 3 rfl dX5_markTracks_13 ?_
  refine x_aload_n (pc := 14) g rfl 0 rfl dX5_markTracks_14 ?_
  refine x_getR (pc := 15) g sh_4 fl_X5_21 rfl dX5_markTracks_15 ?_
  refine x_getR (pc := 18) g sh_1 fl_X5_111 rfl dX5_markTracks_18 ?_
  refine x_iload_n (pc := 21) g rfl 1 rfl dX5_markTracks_21 ?_
  refine x_iald (pc := 22) g sh_36 (by decide) dX5_markTracks_22 (fun v2 => ?_)
  refine x_icmp_ge (pc := 23) (tgt := 107) g (by decide) dX5_markTracks_23 ?_ ?_
  · exact x_return (pc := 107) g hrt dX5_markTracks_107
  · refine x_aload_n (pc := 26) g rfl 0 rfl dX5_markTracks_26 ?_
    refine x_getR (pc := 27) g sh_4 fl_X5_21 rfl dX5_markTracks_27 ?_
    refine x_getR (pc := 30) g sh_1 fl_X5_114 rfl dX5_markTracks_30 ?_
    refine x_iload_n (pc := 33) g rfl 1 rfl dX5_markTracks_33 ?_
    refine x_aaldR (pc := 34) g sh_58 (by decide) dX5_markTracks_34 (fun k11 hk11 => ?_)
    refine x_iload_n (pc := 35) g rfl 3 rfl dX5_markTracks_35 ?_
    refine x_iald (pc := 36) g (shf_59 k11 hk11) (by decide) dX5_markTracks_36 (fun v3 => ?_)
    refine x_istore (pc := 37) (lv' := [(4, .int v3), (0, .ref (al 4)), (1, .int a0), (2, .int v1), (3, .int x1)]) g (by decide) rfl dX5_markTracks_37 ?_
    refine x_iload (pc := 39) g 0 rfl dX5_markTracks_39 ?_
    refine x_iconst (pc := 41) (v := (1 : Int32)) g (by decide) dX5_markTracks_41 ?_
    refine x_isub (pc := 42) g dX5_markTracks_42 ?_
    refine x_bipush (pc := 43) (v := (60 : Int32)) g (by decide) dX5_markTracks_43 ?_
    refine x_callSI (pc := 45) (As := [.int (v3 - (1 : Int32)), .int (60 : Int32)]) g (mc_J9_min_7cf53 (v3 - (1 : Int32)) (60 : Int32)) cw_J9_min_7cf53 lk_X5_118 rfl ⟨Nat.le_of_ble_eq_true rfl, Nat.le_of_ble_eq_true rfl⟩ rfl (Nat.le_of_ble_eq_true rfl) dX5_markTracks_45 (fun v4 σ3 => ?_)
    refine x_istore (pc := 48) (lv' := [(5, .int v4), (4, .int v3), (0, .ref (al 4)), (1, .int a0), (2, .int v1), (3, .int x1)]) g (by decide) rfl dX5_markTracks_48 ?_
    refine x_iload (pc := 50) g 1 rfl dX5_markTracks_50 ?_
    refine x_iload_n (pc := 52) g rfl 4 rfl dX5_markTracks_52 ?_
    refine x_isub (pc := 53) g dX5_markTracks_53 ?_
    refine x_iconst (pc := 54) (v := (0 : Int32)) g (by decide) dX5_markTracks_54 ?_
    refine x_callSI (pc := 55) (As := [.int (v3 - v1), .int (0 : Int32)]) g (mc_J9_max_7cf53 (v3 - v1) (0 : Int32)) cw_J9_max_7cf53 lk_X5_123 rfl ⟨Nat.le_of_ble_eq_true rfl, Nat.le_of_ble_eq_true rfl⟩ rfl (Nat.le_of_ble_eq_true rfl) dX5_markTracks_55 (fun v5 σ4 => ?_)
    refine x_istore (pc := 58) (lv' := [(6, .int v5), (5, .int v4), (4, .int v3), (0, .ref (al 4)), (1, .int a0), (2, .int v1), (3, .int x1)]) g (by decide) rfl dX5_markTracks_58 ?_
    refine x_jn (fun (j101 : Sx → Option (Unit × Sx)) => ∀ (σ5 : Sx), XTx p l e { frames := 1, cells := 0, slots := 0, locals := 21 } s m args below meth c D al cA ba 7 (MQx rvU D al cA ba below args s) 0 0 101 [(0, .ref (al 4)), (1, .int a0), (2, .int v1), (3, .int x1)] [] σ5 (j101 σ5)) (fun σ5 => ?_) (fun j101 hj101 => ?_)
    · refine x_iinc (pc := 101) (v := (x1 + (1 : Int32))) (lv' := [(3, .int (x1 + (1 : Int32))), (0, .ref (al 4)), (1, .int a0), (2, .int v1)]) g 3 rfl (by rfl) (by decide) rfl dX5_markTracks_101 ?_
      refine x_goto (pc := 104) (tgt := 13) g (by decide) dX5_markTracks_104 ?_
      refine x_lv [1, 2, 3, 0] rfl ?_
      exact hr13 (x1 + (1 : Int32)) σ5
    · refine x_lv [3, 4, 5, 6, 1, 0] rfl ?_
      refine lpx1_ind (fun (x2 : Int32) (σ6 : Sx) (K : Option (Unit × Sx)) => XTx p l e { frames := 1, cells := 0, slots := 0, locals := 21 } s m args below meth c D al cA ba 7 (MQx rvU D al cA ba below args s) 0 0 60 [(0, .ref (al 4)), (1, .int a0), (2, .int v1), (3, .int x1), (5, .int v4), (6, .int x2)] [] σ6 (K)) (fun _ _ => x_no) (fun r60 hr60 x2 σ6 => ?_) N v5 σ4
      show XTx p l e { frames := 1, cells := 0, slots := 0, locals := 21 } s m args below meth c D al cA ba 7 (MQx rvU D al cA ba below args s) 0 0 60 [(0, .ref (al 4)), (1, .int a0), (2, .int v1), (3, .int x1), (5, .int v4), (6, .int x2)] [] σ6 (B_X5_markTracks_L60 N a0 x1 v4 j101 r60 x2 σ6)
      unfold B_X5_markTracks_L60
      refine x_iload (pc := 60) g 5 rfl dX5_markTracks_60 ?_
      refine x_iload (pc := 62) g 4 rfl dX5_markTracks_62 ?_
      refine x_icmp_gt (pc := 64) (tgt := 101) g (by decide) dX5_markTracks_64 ?_ ?_
      · refine x_lv [0, 1, 2, 3] rfl ?_
        exact hj101 σ6
      · refine x_aload_n (pc := 67) g rfl 0 rfl dX5_markTracks_67 ?_
        refine x_getR (pc := 68) g sh_4 fl_X5_18 rfl dX5_markTracks_68 ?_
        refine x_iload (pc := 71) g 5 rfl dX5_markTracks_71 ?_
        refine x_bipush (pc := 73) (v := (8 : Int32)) g (by decide) dX5_markTracks_73 ?_
        refine x_imul (pc := 75) g dX5_markTracks_75 ?_
        refine x_aload_n (pc := 76) g rfl 0 rfl dX5_markTracks_76 ?_
        refine x_getR (pc := 77) g sh_4 fl_X5_21 rfl dX5_markTracks_77 ?_
        refine x_getR (pc := 80) g sh_1 fl_X5_126 rfl dX5_markTracks_80 ?_
        refine x_iload_n (pc := 83) g rfl 1 rfl dX5_markTracks_83 ?_
        refine x_aaldR (pc := 84) g sh_37 (by decide) dX5_markTracks_84 (fun k12 hk12 => ?_)
        refine x_iload_n (pc := 85) g rfl 3 rfl dX5_markTracks_85 ?_
        refine x_iald (pc := 86) g (shf_38 k12 hk12) (by decide) dX5_markTracks_86 (fun v6 => ?_)
        refine x_iadd (pc := 87) g dX5_markTracks_87 ?_
        refine x_dup2 (pc := 88) g rfl rfl dX5_markTracks_88 ?_
        refine x_iald (pc := 89) g sh_92 (by decide) dX5_markTracks_89 (fun v7 => ?_)
        refine x_iconst (pc := 90) (v := (1 : Int32)) g (by decide) dX5_markTracks_90 ?_
        refine x_iload_n (pc := 91) g rfl 1 rfl dX5_markTracks_91 ?_
        refine x_ishl (pc := 92) g dX5_markTracks_92 ?_
        refine x_ior (pc := 93) g dX5_markTracks_93 ?_
        refine x_iast (pc := 94) g sh_92 (by decide) dX5_markTracks_94 (fun σ7 => ?_)
        refine x_iinc (pc := 95) (v := (x2 + (1 : Int32))) (lv' := [(6, .int (x2 + (1 : Int32))), (0, .ref (al 4)), (1, .int a0), (2, .int v1), (3, .int x1), (5, .int v4)]) g 5 rfl (by rfl) (by decide) rfl dX5_markTracks_95 ?_
        refine x_goto (pc := 98) (tgt := 60) g (by decide) dX5_markTracks_98 ?_
        refine x_lv [1, 2, 3, 4, 5, 0] rfl ?_
        exact hr60 (x2 + (1 : Int32)) σ7
def B_X5_greatestPart_L12 (N : Nat) (a0 : Int32) (r12 : Int32 → Int32 → Sx → Option (Int32 × Sx)) (x1 : Int32) (x2 : Int32) (σ2 : Sx) : Option (Int32 × Sx) := (if (siI σ2 4 3) ≤ x2 then some (x1, σ2) else aIx 90 1024 x2 σ2 (fun v1 => aIx 84 1024 v1 σ2 (fun v2 => clx (F_X8_walkersOf (a0 &&& v2) σ2) (fun v3 σ3 => aIx 91 32 v3 σ3 (fun v4 => sIx 91 32 v3 (v4 + (1 : Int32)) σ3 (fun σ4 => aIx 91 32 v3 σ4 (fun v5 => clx (F_J9_max_7cf53 x1 v5 σ4) (fun v6 σ5 => r12 v6 (x2 + (1 : Int32)) σ5))))))))
def F_X5_greatestPart (N : Nat) (a0 : Int32) (σ0 : Sx) : Option (Int32 × Sx) := clx (F_J7_fill_53178 N 91 32 (0 : Int32) σ0) (fun _ σ1 => lpx2 (B_X5_greatestPart_L12 N a0) N (0 : Int32) (0 : Int32) σ1)
set_option maxRecDepth 100000 in
set_option maxHeartbeats 4000000 in
theorem mc_X5_greatestPart {D : va_G} {al : Nat → Nat} {cA : Nat → ClassId} {ba : Nat} (N : Nat) (a0 : Int32) : MCx D al cA ba yX5_greatestPart cX5_greatestPart 5 (some .int) 1 23 rvI [.ref (al 4), .int a0] (F_X5_greatestPart N a0) := by
  refine MCx_of (by decide +kernel) (Nat.le_of_ble_eq_true rfl) ?_
  intro p l e s m args below meth c σ0 g hrt
  unfold F_X5_greatestPart
  refine x_lv (lv' := [(0, .ref (al 4)), (1, .int a0)]) [0, 1] rfl ?_
  refine x_aload_n (pc := 0) g rfl 0 rfl dX5_greatestPart_0 ?_
  refine x_getR (pc := 1) g sh_4 fl_X5_15 rfl dX5_greatestPart_1 ?_
  refine x_iconst (pc := 4) (v := (0 : Int32)) g (by decide) dX5_greatestPart_4 ?_
  refine x_callSU (pc := 5) (As := [.ref (al 91), .int (0 : Int32)]) g (mc_J7_fill_53178 N 91 32 sh_91 (by decide) (0 : Int32)) cw_J7_fill_53178 lk_X5_92 rfl ⟨Nat.le_of_ble_eq_true rfl, Nat.le_of_ble_eq_true rfl⟩ rfl (Nat.le_of_ble_eq_true rfl) dX5_greatestPart_5 (fun _ σ1 => ?_)
  refine x_iconst (pc := 8) (v := (0 : Int32)) g (by decide) dX5_greatestPart_8 ?_
  refine x_istore_n (pc := 9) (lv' := [(2, .int (0 : Int32)), (0, .ref (al 4)), (1, .int a0)]) g rfl (by decide) rfl dX5_greatestPart_9 ?_
  refine x_iconst (pc := 10) (v := (0 : Int32)) g (by decide) dX5_greatestPart_10 ?_
  refine x_istore_n (pc := 11) (lv' := [(3, .int (0 : Int32)), (2, .int (0 : Int32)), (0, .ref (al 4)), (1, .int a0)]) g rfl (by decide) rfl dX5_greatestPart_11 ?_
  refine x_lv [2, 3, 1, 0] rfl ?_
  refine lpx2_ind (fun (x1 : Int32) (x2 : Int32) (σ2 : Sx) (K : Option (Int32 × Sx)) => XTx p l e { frames := 1, cells := 0, slots := 0, locals := 23 } s m args below meth c D al cA ba 5 (MQx rvI D al cA ba below args s) 0 0 12 [(0, .ref (al 4)), (1, .int a0), (2, .int x1), (3, .int x2)] [] σ2 (K)) (fun _ _ _ => x_no) (fun r12 hr12 x1 x2 σ2 => ?_) N (0 : Int32) (0 : Int32) σ1
  show XTx p l e { frames := 1, cells := 0, slots := 0, locals := 23 } s m args below meth c D al cA ba 5 (MQx rvI D al cA ba below args s) 0 0 12 [(0, .ref (al 4)), (1, .int a0), (2, .int x1), (3, .int x2)] [] σ2 (B_X5_greatestPart_L12 N a0 r12 x1 x2 σ2)
  unfold B_X5_greatestPart_L12
  refine x_iload_n (pc := 12) g rfl 3 rfl dX5_greatestPart_12 ?_
  refine x_aload_n (pc := 13) g rfl 0 rfl dX5_greatestPart_13 ?_
  refine x_getI (pc := 14) g sh_4 fl_X5_57 rfl dX5_greatestPart_14 ?_
  refine x_icmp_ge (pc := 17) (tgt := 70) g (by decide) dX5_greatestPart_17 ?_ ?_
  · refine x_iload_n (pc := 70) g rfl 2 rfl dX5_greatestPart_70 ?_
    exact x_ireturn (pc := 71) g hrt dX5_greatestPart_71
  · refine x_iload_n (pc := 20) g rfl 1 rfl dX5_greatestPart_20 ?_
    refine x_aload_n (pc := 21) g rfl 0 rfl dX5_greatestPart_21 ?_
    refine x_getR (pc := 22) g sh_4 fl_X5_25 rfl dX5_greatestPart_22 ?_
    refine x_getR (pc := 25) g sh_3 fl_X5_83 rfl dX5_greatestPart_25 ?_
    refine x_aload_n (pc := 28) g rfl 0 rfl dX5_greatestPart_28 ?_
    refine x_getR (pc := 29) g sh_4 fl_X5_9 rfl dX5_greatestPart_29 ?_
    refine x_iload_n (pc := 32) g rfl 3 rfl dX5_greatestPart_32 ?_
    refine x_iald (pc := 33) g sh_90 (by decide) dX5_greatestPart_33 (fun v1 => ?_)
    refine x_iald (pc := 34) g sh_84 (by decide) dX5_greatestPart_34 (fun v2 => ?_)
    refine x_iand (pc := 35) g dX5_greatestPart_35 ?_
    refine x_callSI (pc := 36) (As := [.int (a0 &&& v2)]) g (mc_X8_walkersOf (a0 &&& v2)) cw_X8_walkersOf lk_X5_86 rfl ⟨Nat.le_of_ble_eq_true rfl, Nat.le_of_ble_eq_true rfl⟩ rfl (Nat.le_of_ble_eq_true rfl) dX5_greatestPart_36 (fun v3 σ3 => ?_)
    refine x_istore (pc := 39) (lv' := [(4, .int v3), (0, .ref (al 4)), (1, .int a0), (2, .int x1), (3, .int x2)]) g (by decide) rfl dX5_greatestPart_39 ?_
    refine x_aload_n (pc := 41) g rfl 1 rfl dX5_greatestPart_41 ?_
    refine x_getR (pc := 42) g sh_4 fl_X5_15 rfl dX5_greatestPart_42 ?_
    refine x_iload (pc := 45) g 0 rfl dX5_greatestPart_45 ?_
    refine x_dup2 (pc := 47) g rfl rfl dX5_greatestPart_47 ?_
    refine x_iald (pc := 48) g sh_91 (by decide) dX5_greatestPart_48 (fun v4 => ?_)
    refine x_iconst (pc := 49) (v := (1 : Int32)) g (by decide) dX5_greatestPart_49 ?_
    refine x_iadd (pc := 50) g dX5_greatestPart_50 ?_
    refine x_iast (pc := 51) g sh_91 (by decide) dX5_greatestPart_51 (fun σ4 => ?_)
    refine x_iload_n (pc := 52) g rfl 3 rfl dX5_greatestPart_52 ?_
    refine x_aload_n (pc := 53) g rfl 1 rfl dX5_greatestPart_53 ?_
    refine x_getR (pc := 54) g sh_4 fl_X5_15 rfl dX5_greatestPart_54 ?_
    refine x_iload (pc := 57) g 0 rfl dX5_greatestPart_57 ?_
    refine x_iald (pc := 59) g sh_91 (by decide) dX5_greatestPart_59 (fun v5 => ?_)
    refine x_callSI (pc := 60) (As := [.int x1, .int v5]) g (mc_J9_max_7cf53 x1 v5) cw_J9_max_7cf53 lk_X5_123 rfl ⟨Nat.le_of_ble_eq_true rfl, Nat.le_of_ble_eq_true rfl⟩ rfl (Nat.le_of_ble_eq_true rfl) dX5_greatestPart_60 (fun v6 σ5 => ?_)
    refine x_istore_n (pc := 63) (lv' := [(2, .int v6), (4, .int v3), (0, .ref (al 4)), (1, .int a0), (3, .int x2)]) g rfl (by decide) rfl dX5_greatestPart_63 ?_
    refine x_iinc (pc := 64) (v := (x2 + (1 : Int32))) (lv' := [(3, .int (x2 + (1 : Int32))), (2, .int v6), (4, .int v3), (0, .ref (al 4)), (1, .int a0)]) g 4 rfl (by rfl) (by decide) rfl dX5_greatestPart_64 ?_
    refine x_goto (pc := 67) (tgt := 12) g (by decide) dX5_greatestPart_67 ?_
    refine x_lv [3, 4, 1, 0] rfl ?_
    exact hr12 v6 (x2 + (1 : Int32)) σ5
def B_X5_bestLook_L43 (N : Nat) (j88 : Int32 → Sx → Option (Int32 × Sx)) (r43 : Int32 → Int32 → Int32 → Sx → Option (Int32 × Sx)) (x2 : Int32) (x3 : Int32) (x4 : Int32) (σ4 : Sx) : Option (Int32 × Sx) := (if (488 : Int32) ≤ x4 then j88 x2 σ4 else aIx 92 3208 x4 σ4 (fun v2 => nmx (fun (x5 : Int32) (x6 : Int32) (σ5 : Sx) => r43 x5 x6 (x4 + (1 : Int32)) σ5) (fun (j82 : Int32 → Int32 → Sx → Option (Int32 × Sx)) => (if v2 = 0 then j82 x2 x3 σ4 else aIx 92 3208 x4 σ4 (fun v3 => clx (F_X5_greatestPart N v3 σ4) (fun v4 σ6 => (if x3 ≤ v4 then j82 x2 x3 σ6 else j82 x4 v4 σ6)))))))
def B_X5_bestLook_L10 (N : Nat) (j34 : Sx → Option (Int32 × Sx)) (r10 : Int32 → Sx → Option (Int32 × Sx)) (x7 : Int32) (σ7 : Sx) : Option (Int32 × Sx) := (if ((siI σ7 1 0) * (4 : Int32)) ≤ x7 then j34 σ7 else clx (F_X5_markTracks N x7 σ7) (fun _ σ8 => r10 (x7 + (1 : Int32)) σ8))
def F_X5_bestLook (N : Nat) (σ0 : Sx) : Option (Int32 × Sx) := clx (F_J7_fill_53178 N 92 3208 (0 : Int32) σ0) (fun _ σ1 => nmx (fun (σ2 : Sx) => nmx ((siI σ2 4 3)) (fun v1 => nmx (fun (x1 : Int32) (σ3 : Sx) => some ((((x1 / (8 : Int32)) * (10 : Int32)) + (jrem x1 (8 : Int32))), σ3)) (fun (j88 : Int32 → Sx → Option (Int32 × Sx)) => lpx3 (B_X5_bestLook_L43 N j88) N (0 : Int32) v1 (0 : Int32) σ2))) (fun (j34 : Sx → Option (Int32 × Sx)) => lpx1 (B_X5_bestLook_L10 N j34) N (0 : Int32) σ1))
set_option maxRecDepth 100000 in
set_option maxHeartbeats 4000000 in
theorem mc_X5_bestLook {D : va_G} {al : Nat → Nat} {cA : Nat → ClassId} {ba : Nat} (N : Nat)  : MCx D al cA ba yX5_bestLook cX5_bestLook 5 (some .int) 2 47 rvI [.ref (al 4)] (F_X5_bestLook N) := by
  refine MCx_of (by decide +kernel) (Nat.le_of_ble_eq_true rfl) ?_
  intro p l e s m args below meth c σ0 g hrt
  unfold F_X5_bestLook
  refine x_lv (lv' := [(0, .ref (al 4))]) [0] rfl ?_
  refine x_aload_n (pc := 0) g rfl 0 rfl dX5_bestLook_0 ?_
  refine x_getR (pc := 1) g sh_4 fl_X5_18 rfl dX5_bestLook_1 ?_
  refine x_iconst (pc := 4) (v := (0 : Int32)) g (by decide) dX5_bestLook_4 ?_
  refine x_callSU (pc := 5) (As := [.ref (al 92), .int (0 : Int32)]) g (mc_J7_fill_53178 N 92 3208 sh_92 (by decide) (0 : Int32)) cw_J7_fill_53178 lk_X5_92 rfl ⟨Nat.le_of_ble_eq_true rfl, Nat.le_of_ble_eq_true rfl⟩ rfl (Nat.le_of_ble_eq_true rfl) dX5_bestLook_5 (fun _ σ1 => ?_)
  refine x_iconst (pc := 8) (v := (0 : Int32)) g (by decide) dX5_bestLook_8 ?_
  refine x_istore_n (pc := 9) (lv' := [(1, .int (0 : Int32)), (0, .ref (al 4))]) g rfl (by decide) rfl dX5_bestLook_9 ?_
  refine x_jn (fun (j34 : Sx → Option (Int32 × Sx)) => ∀ (σ2 : Sx), XTx p l e { frames := 2, cells := 0, slots := 0, locals := 47 } s m args below meth c D al cA ba 5 (MQx rvI D al cA ba below args s) 0 0 34 [(0, .ref (al 4))] [] σ2 (j34 σ2)) (fun σ2 => ?_) (fun j34 hj34 => ?_)
  · refine x_iconst (pc := 34) (v := (0 : Int32)) g (by decide) dX5_bestLook_34 ?_
    refine x_istore_n (pc := 35) (lv' := [(1, .int (0 : Int32)), (0, .ref (al 4))]) g rfl (by decide) rfl dX5_bestLook_35 ?_
    refine x_aload_n (pc := 36) g rfl 1 rfl dX5_bestLook_36 ?_
    refine x_getI (pc := 37) g sh_4 fl_X5_57 rfl dX5_bestLook_37 ?_
    refine x_nm (fun v1 => ?_)
    refine x_istore_n (pc := 40) (lv' := [(2, .int v1), (1, .int (0 : Int32)), (0, .ref (al 4))]) g rfl (by decide) rfl dX5_bestLook_40 ?_
    refine x_iconst (pc := 41) (v := (0 : Int32)) g (by decide) dX5_bestLook_41 ?_
    refine x_istore_n (pc := 42) (lv' := [(3, .int (0 : Int32)), (2, .int v1), (1, .int (0 : Int32)), (0, .ref (al 4))]) g rfl (by decide) rfl dX5_bestLook_42 ?_
    refine x_jn (fun (j88 : Int32 → Sx → Option (Int32 × Sx)) => ∀ (x1 : Int32) (σ3 : Sx), XTx p l e { frames := 2, cells := 0, slots := 0, locals := 47 } s m args below meth c D al cA ba 5 (MQx rvI D al cA ba below args s) 0 0 88 [(1, .int x1)] [] σ3 (j88 x1 σ3)) (fun x1 σ3 => ?_) (fun j88 hj88 => ?_)
    · refine x_iload_n (pc := 88) g rfl 0 rfl dX5_bestLook_88 ?_
      refine x_bipush (pc := 89) (v := (8 : Int32)) g (by decide) dX5_bestLook_89 ?_
      refine x_idiv (pc := 91) g (by decide) dX5_bestLook_91 ?_
      refine x_bipush (pc := 92) (v := (10 : Int32)) g (by decide) dX5_bestLook_92 ?_
      refine x_imul (pc := 94) g dX5_bestLook_94 ?_
      refine x_iload_n (pc := 95) g rfl 0 rfl dX5_bestLook_95 ?_
      refine x_bipush (pc := 96) (v := (8 : Int32)) g (by decide) dX5_bestLook_96 ?_
      refine x_irem (pc := 98) g (by decide) dX5_bestLook_98 ?_
      refine x_iadd (pc := 99) g dX5_bestLook_99 ?_
      exact x_ireturn (pc := 100) g hrt dX5_bestLook_100
    · refine x_lv [3, 2, 1, 0] rfl ?_
      refine lpx3_ind (fun (x2 : Int32) (x3 : Int32) (x4 : Int32) (σ4 : Sx) (K : Option (Int32 × Sx)) => XTx p l e { frames := 2, cells := 0, slots := 0, locals := 47 } s m args below meth c D al cA ba 5 (MQx rvI D al cA ba below args s) 0 0 43 [(0, .ref (al 4)), (1, .int x2), (2, .int x3), (3, .int x4)] [] σ4 (K)) (fun _ _ _ _ => x_no) (fun r43 hr43 x2 x3 x4 σ4 => ?_) N (0 : Int32) v1 (0 : Int32) σ2
      show XTx p l e { frames := 2, cells := 0, slots := 0, locals := 47 } s m args below meth c D al cA ba 5 (MQx rvI D al cA ba below args s) 0 0 43 [(0, .ref (al 4)), (1, .int x2), (2, .int x3), (3, .int x4)] [] σ4 (B_X5_bestLook_L43 N j88 r43 x2 x3 x4 σ4)
      unfold B_X5_bestLook_L43
      refine x_iload_n (pc := 43) g rfl 3 rfl dX5_bestLook_43 ?_
      refine x_sipush (pc := 44) (v := (488 : Int32)) g (by decide) dX5_bestLook_44 ?_
      refine x_icmp_ge (pc := 47) (tgt := 88) g (by decide) dX5_bestLook_47 ?_ ?_
      · refine x_lv [1] rfl ?_
        exact hj88 x2 σ4
      · refine x_aload_n (pc := 50) g rfl 0 rfl dX5_bestLook_50 ?_
        refine x_getR (pc := 51) g sh_4 fl_X5_18 rfl dX5_bestLook_51 ?_
        refine x_iload_n (pc := 54) g rfl 3 rfl dX5_bestLook_54 ?_
        refine x_iald (pc := 55) g sh_92 (by decide) dX5_bestLook_55 (fun v2 => ?_)
        refine x_jn (fun (j82 : Int32 → Int32 → Sx → Option (Int32 × Sx)) => ∀ (x5 : Int32) (x6 : Int32) (σ5 : Sx), XTx p l e { frames := 2, cells := 0, slots := 0, locals := 47 } s m args below meth c D al cA ba 5 (MQx rvI D al cA ba below args s) 0 0 82 [(0, .ref (al 4)), (1, .int x5), (2, .int x6), (3, .int x4)] [] σ5 (j82 x5 x6 σ5)) (fun x5 x6 σ5 => ?_) (fun j82 hj82 => ?_)
        · refine x_iinc (pc := 82) (v := (x4 + (1 : Int32))) (lv' := [(3, .int (x4 + (1 : Int32))), (0, .ref (al 4)), (1, .int x5), (2, .int x6)]) g 3 rfl (by rfl) (by decide) rfl dX5_bestLook_82 ?_
          refine x_goto (pc := 85) (tgt := 43) g (by decide) dX5_bestLook_85 ?_
          refine x_lv [1, 2, 3, 0] rfl ?_
          exact hr43 x5 x6 (x4 + (1 : Int32)) σ5
        · refine x_if_eq (pc := 56) (tgt := 82) g (by decide) dX5_bestLook_56 ?_ ?_
          · exact hj82 x2 x3 σ4
          · refine x_aload_n (pc := 59) g rfl 0 rfl dX5_bestLook_59 ?_
            refine x_aload_n (pc := 60) g rfl 0 rfl dX5_bestLook_60 ?_
            refine x_getR (pc := 61) g sh_4 fl_X5_18 rfl dX5_bestLook_61 ?_
            refine x_iload_n (pc := 64) g rfl 3 rfl dX5_bestLook_64 ?_
            refine x_iald (pc := 65) g sh_92 (by decide) dX5_bestLook_65 (fun v3 => ?_)
            refine x_callVI (pc := 66) (As := [.int v3]) g sh_4 (mc_X5_greatestPart N v3) cw_X5_greatestPart lk_X5_105 rfl ⟨Nat.le_of_ble_eq_true rfl, Nat.le_of_ble_eq_true rfl⟩ rfl (Nat.le_of_ble_eq_true rfl) dX5_bestLook_66 (fun v4 σ6 => ?_)
            refine x_istore (pc := 69) (lv' := [(4, .int v4), (0, .ref (al 4)), (1, .int x2), (2, .int x3), (3, .int x4)]) g (by decide) rfl dX5_bestLook_69 ?_
            refine x_iload (pc := 71) g 0 rfl dX5_bestLook_71 ?_
            refine x_iload_n (pc := 73) g rfl 3 rfl dX5_bestLook_73 ?_
            refine x_icmp_ge (pc := 74) (tgt := 82) g (by decide) dX5_bestLook_74 ?_ ?_
            · refine x_lv [1, 2, 3, 4] rfl ?_
              exact hj82 x2 x3 σ6
            · refine x_iload (pc := 77) g 0 rfl dX5_bestLook_77 ?_
              refine x_istore_n (pc := 79) (lv' := [(2, .int v4), (4, .int v4), (0, .ref (al 4)), (1, .int x2), (3, .int x4)]) g rfl (by decide) rfl dX5_bestLook_79 ?_
              refine x_iload_n (pc := 80) g rfl 4 rfl dX5_bestLook_80 ?_
              refine x_istore_n (pc := 81) (lv' := [(1, .int x4), (2, .int v4), (4, .int v4), (0, .ref (al 4)), (3, .int x4)]) g rfl (by decide) rfl dX5_bestLook_81 ?_
              refine x_lv [3, 0, 1, 4] rfl ?_
              exact hj82 x4 v4 σ6
  · refine x_lv [1, 0] rfl ?_
    refine lpx1_ind (fun (x7 : Int32) (σ7 : Sx) (K : Option (Int32 × Sx)) => XTx p l e { frames := 2, cells := 0, slots := 0, locals := 47 } s m args below meth c D al cA ba 5 (MQx rvI D al cA ba below args s) 0 0 10 [(0, .ref (al 4)), (1, .int x7)] [] σ7 (K)) (fun _ _ => x_no) (fun r10 hr10 x7 σ7 => ?_) N (0 : Int32) σ1
    show XTx p l e { frames := 2, cells := 0, slots := 0, locals := 47 } s m args below meth c D al cA ba 5 (MQx rvI D al cA ba below args s) 0 0 10 [(0, .ref (al 4)), (1, .int x7)] [] σ7 (B_X5_bestLook_L10 N j34 r10 x7 σ7)
    unfold B_X5_bestLook_L10
    refine x_iload_n (pc := 10) g rfl 1 rfl dX5_bestLook_10 ?_
    refine x_aload_n (pc := 11) g rfl 0 rfl dX5_bestLook_11 ?_
    refine x_getR (pc := 12) g sh_4 fl_X5_21 rfl dX5_bestLook_12 ?_
    refine x_getI (pc := 15) g sh_1 fl_X5_98 rfl dX5_bestLook_15 ?_
    refine x_iconst (pc := 18) (v := (4 : Int32)) g (by decide) dX5_bestLook_18 ?_
    refine x_imul (pc := 19) g dX5_bestLook_19 ?_
    refine x_icmp_ge (pc := 20) (tgt := 34) g (by decide) dX5_bestLook_20 ?_ ?_
    · refine x_lv [0] rfl ?_
      exact hj34 σ7
    · refine x_aload_n (pc := 23) g rfl 0 rfl dX5_bestLook_23 ?_
      refine x_iload_n (pc := 24) g rfl 1 rfl dX5_bestLook_24 ?_
      refine x_callVU (pc := 25) (As := [.int x7]) g sh_4 (mc_X5_markTracks N x7) cw_X5_markTracks lk_X5_101 rfl ⟨Nat.le_of_ble_eq_true rfl, Nat.le_of_ble_eq_true rfl⟩ rfl (Nat.le_of_ble_eq_true rfl) dX5_bestLook_25 (fun _ σ8 => ?_)
      refine x_iinc (pc := 28) (v := (x7 + (1 : Int32))) (lv' := [(1, .int (x7 + (1 : Int32))), (0, .ref (al 4))]) g 1 rfl (by rfl) (by decide) rfl dX5_bestLook_28 ?_
      refine x_goto (pc := 31) (tgt := 10) g (by decide) dX5_bestLook_31 ?_
      refine x_lv [1, 0] rfl ?_
      exact hr10 (x7 + (1 : Int32)) σ8
def B_X5_cheapestWithout_L11 (N : Nat) (a0 : Int32) (a1 : Int32) (j101 : Int32 → Int32 → Sx → Option (Int32 × Sx)) (r11 : Int32 → Int32 → Int32 → Sx → Option (Int32 × Sx)) (x3 : Int32) (x4 : Int32) (x5 : Int32) (σ2 : Sx) : Option (Int32 × Sx) := (if (siI σ2 3 5) ≤ x5 then j101 x3 x4 σ2 else aIx 83 1024 x5 σ2 (fun v1 => clx (F_X8_wayOn v1 a0 σ2) (fun v2 σ3 => clx (F_X8_goesBy N v2 a1 σ3) (fun v3 σ4 => nmx (fun (x6 : Int32) (x7 : Int32) (σ5 : Sx) => r11 x6 x7 (x5 + (1 : Int32)) σ5) (fun (j95 : Int32 → Int32 → Sx → Option (Int32 × Sx)) => (if v3 = 0 then aIx 84 1024 x5 σ4 (fun v4 => clx (F_X2_costOf N v1 v4 σ4) (fun v5 σ6 => nmx (fun (σ7 : Sx) => j95 v5 v1 σ7) (fun (j87 : Sx → Option (Int32 × Sx)) => (if x3 = (-2 : Int32) then j87 σ6 else (if x3 ≤ v5 then j95 x3 x4 σ6 else j87 σ6))))) else j95 x3 x4 σ4))))))
def F_X5_cheapestWithout (N : Nat) (a0 : Int32) (a1 : Int32) (a2 : Int32) (σ0 : Sx) : Option (Int32 × Sx) := nmx (fun (x1 : Int32) (x2 : Int32) (σ1 : Sx) => (if a2 = 0 then some (x1, σ1) else some (x2, σ1))) (fun (j101 : Int32 → Int32 → Sx → Option (Int32 × Sx)) => lpx3 (B_X5_cheapestWithout_L11 N a0 a1 j101) N (-2 : Int32) (-2 : Int32) (0 : Int32) σ0)
set_option maxRecDepth 100000 in
set_option maxHeartbeats 4000000 in
theorem mc_X5_cheapestWithout {D : va_G} {al : Nat → Nat} {cA : Nat → ClassId} {ba : Nat} (N : Nat) (a0 : Int32) (a1 : Int32) (a2 : Int32) : MCx D al cA ba yX5_cheapestWithout cX5_cheapestWithout 9 (some .int) 4 104 rvI [.ref (al 4), .int a0, .int a1, .int a2] (F_X5_cheapestWithout N a0 a1 a2) := by
  refine MCx_of (by decide +kernel) (Nat.le_of_ble_eq_true rfl) ?_
  intro p l e s m args below meth c σ0 g hrt
  unfold F_X5_cheapestWithout
  refine x_lv (lv' := [(0, .ref (al 4)), (1, .int a0), (2, .int a1), (3, .int a2)]) [0, 1, 2, 3] rfl ?_
  refine x_bipush (pc := 0) (v := (-2 : Int32)) g (by decide) dX5_cheapestWithout_0 ?_
  refine x_istore (pc := 2) (lv' := [(4, .int (-2 : Int32)), (0, .ref (al 4)), (1, .int a0), (2, .int a1), (3, .int a2)]) g (by decide) rfl dX5_cheapestWithout_2 ?_
  refine x_bipush (pc := 4) (v := (-2 : Int32)) g (by decide) dX5_cheapestWithout_4 ?_
  refine x_istore (pc := 6) (lv' := [(5, .int (-2 : Int32)), (4, .int (-2 : Int32)), (0, .ref (al 4)), (1, .int a0), (2, .int a1), (3, .int a2)]) g (by decide) rfl dX5_cheapestWithout_6 ?_
  refine x_iconst (pc := 8) (v := (0 : Int32)) g (by decide) dX5_cheapestWithout_8 ?_
  refine x_istore (pc := 9) (lv' := [(6, .int (0 : Int32)), (5, .int (-2 : Int32)), (4, .int (-2 : Int32)), (0, .ref (al 4)), (1, .int a0), (2, .int a1), (3, .int a2)]) g (by decide) rfl dX5_cheapestWithout_9 ?_
  refine x_jn (fun (j101 : Int32 → Int32 → Sx → Option (Int32 × Sx)) => ∀ (x1 : Int32) (x2 : Int32) (σ1 : Sx), XTx p l e { frames := 4, cells := 0, slots := 0, locals := 104 } s m args below meth c D al cA ba 9 (MQx rvI D al cA ba below args s) 0 0 101 [(3, .int a2), (4, .int x1), (5, .int x2)] [] σ1 (j101 x1 x2 σ1)) (fun x1 x2 σ1 => ?_) (fun j101 hj101 => ?_)
  · refine x_iload_n (pc := 101) g rfl 0 rfl dX5_cheapestWithout_101 ?_
    refine x_if_ne (pc := 102) (tgt := 110) g (by decide) dX5_cheapestWithout_102 ?_ ?_
    · refine x_iload (pc := 110) g 2 rfl dX5_cheapestWithout_110 ?_
      exact x_ireturn (pc := 112) g hrt dX5_cheapestWithout_112
    · refine x_iload (pc := 105) g 1 rfl dX5_cheapestWithout_105 ?_
      refine x_goto (pc := 107) (tgt := 112) g (by decide) dX5_cheapestWithout_107 ?_
      exact x_ireturn (pc := 112) g hrt dX5_cheapestWithout_112
  · refine x_lv [3, 4, 5, 6, 2, 1, 0] rfl ?_
    refine lpx3_ind (fun (x3 : Int32) (x4 : Int32) (x5 : Int32) (σ2 : Sx) (K : Option (Int32 × Sx)) => XTx p l e { frames := 4, cells := 0, slots := 0, locals := 104 } s m args below meth c D al cA ba 9 (MQx rvI D al cA ba below args s) 0 0 11 [(0, .ref (al 4)), (1, .int a0), (2, .int a1), (3, .int a2), (4, .int x3), (5, .int x4), (6, .int x5)] [] σ2 (K)) (fun _ _ _ _ => x_no) (fun r11 hr11 x3 x4 x5 σ2 => ?_) N (-2 : Int32) (-2 : Int32) (0 : Int32) σ0
    show XTx p l e { frames := 4, cells := 0, slots := 0, locals := 104 } s m args below meth c D al cA ba 9 (MQx rvI D al cA ba below args s) 0 0 11 [(0, .ref (al 4)), (1, .int a0), (2, .int a1), (3, .int a2), (4, .int x3), (5, .int x4), (6, .int x5)] [] σ2 (B_X5_cheapestWithout_L11 N a0 a1 j101 r11 x3 x4 x5 σ2)
    unfold B_X5_cheapestWithout_L11
    refine x_iload (pc := 11) g 6 rfl dX5_cheapestWithout_11 ?_
    refine x_aload_n (pc := 13) g rfl 0 rfl dX5_cheapestWithout_13 ?_
    refine x_getR (pc := 14) g sh_4 fl_X5_25 rfl dX5_cheapestWithout_14 ?_
    refine x_getI (pc := 17) g sh_3 fl_X5_129 rfl dX5_cheapestWithout_17 ?_
    refine x_icmp_ge (pc := 20) (tgt := 101) g (by decide) dX5_cheapestWithout_20 ?_ ?_
    · refine x_lv [3, 4, 5] rfl ?_
      exact hj101 x3 x4 σ2
    · refine x_aload_n (pc := 23) g rfl 0 rfl dX5_cheapestWithout_23 ?_
      refine x_getR (pc := 24) g sh_4 fl_X5_25 rfl dX5_cheapestWithout_24 ?_
      refine x_getR (pc := 27) g sh_3 fl_X5_89 rfl dX5_cheapestWithout_27 ?_
      refine x_iload (pc := 30) g 6 rfl dX5_cheapestWithout_30 ?_
      refine x_iald (pc := 32) g sh_83 (by decide) dX5_cheapestWithout_32 (fun v1 => ?_)
      refine x_istore (pc := 33) (lv' := [(7, .int v1), (0, .ref (al 4)), (1, .int a0), (2, .int a1), (3, .int a2), (4, .int x3), (5, .int x4), (6, .int x5)]) g (by decide) rfl dX5_cheapestWithout_33 ?_
      refine x_aload_n (pc := 35) g rfl 1 rfl dX5_cheapestWithout_35 ?_
      refine x_getR (pc := 36) g sh_4 fl_X5_21 rfl dX5_cheapestWithout_36 ?_
      refine x_iload (pc := 39) g 0 rfl dX5_cheapestWithout_39 ?_
      refine x_iload_n (pc := 41) g rfl 2 rfl dX5_cheapestWithout_41 ?_
      refine x_callSI (pc := 42) (As := [.int v1, .int a0]) g (mc_X8_wayOn v1 a0) cw_X8_wayOn lk_X5_39 rfl ⟨Nat.le_of_ble_eq_true rfl, Nat.le_of_ble_eq_true rfl⟩ rfl (Nat.le_of_ble_eq_true rfl) dX5_cheapestWithout_42 (fun v2 σ3 => ?_)
      refine x_iload_n (pc := 45) g rfl 3 rfl dX5_cheapestWithout_45 ?_
      refine x_callVI (pc := 46) (As := [.int v2, .int a1]) g sh_1 (mc_X8_goesBy N v2 a1) cw_X8_goesBy lk_X5_130 rfl ⟨Nat.le_of_ble_eq_true rfl, Nat.le_of_ble_eq_true rfl⟩ rfl (Nat.le_of_ble_eq_true rfl) dX5_cheapestWithout_46 (fun v3 σ4 => ?_)
      refine x_jn (fun (j95 : Int32 → Int32 → Sx → Option (Int32 × Sx)) => ∀ (x6 : Int32) (x7 : Int32) (σ5 : Sx), XTx p l e { frames := 4, cells := 0, slots := 0, locals := 104 } s m args below meth c D al cA ba 9 (MQx rvI D al cA ba below args s) 0 0 95 [(0, .ref (al 4)), (1, .int a0), (2, .int a1), (3, .int a2), (4, .int x6), (5, .int x7), (6, .int x5)] [] σ5 (j95 x6 x7 σ5)) (fun x6 x7 σ5 => ?_) (fun j95 hj95 => ?_)
      · refine x_iinc (pc := 95) (v := (x5 + (1 : Int32))) (lv' := [(6, .int (x5 + (1 : Int32))), (0, .ref (al 4)), (1, .int a0), (2, .int a1), (3, .int a2), (4, .int x6), (5, .int x7)]) g 6 rfl (by rfl) (by decide) rfl dX5_cheapestWithout_95 ?_
        refine x_goto (pc := 98) (tgt := 11) g (by decide) dX5_cheapestWithout_98 ?_
        refine x_lv [1, 2, 3, 4, 5, 6, 0] rfl ?_
        exact hr11 x6 x7 (x5 + (1 : Int32)) σ5
      · refine x_if_ne (pc := 49) (tgt := 95) g (by decide) dX5_cheapestWithout_49 ?_ ?_
        · refine x_lv [1, 2, 3, 4, 5, 6, 7] rfl ?_
          exact hj95 x3 x4 σ4
        · refine x_aload_n (pc := 52) g rfl 1 rfl dX5_cheapestWithout_52 ?_
          refine x_getR (pc := 53) g sh_4 fl_X5_25 rfl dX5_cheapestWithout_53 ?_
          refine x_iload (pc := 56) g 0 rfl dX5_cheapestWithout_56 ?_
          refine x_aload_n (pc := 58) g rfl 1 rfl dX5_cheapestWithout_58 ?_
          refine x_getR (pc := 59) g sh_4 fl_X5_25 rfl dX5_cheapestWithout_59 ?_
          refine x_getR (pc := 62) g sh_3 fl_X5_83 rfl dX5_cheapestWithout_62 ?_
          refine x_iload (pc := 65) g 7 rfl dX5_cheapestWithout_65 ?_
          refine x_iald (pc := 67) g sh_84 (by decide) dX5_cheapestWithout_67 (fun v4 => ?_)
          refine x_callVI (pc := 68) (As := [.int v1, .int v4]) g sh_3 (mc_X2_costOf N v1 v4) cw_X2_costOf lk_X5_134 rfl ⟨Nat.le_of_ble_eq_true rfl, Nat.le_of_ble_eq_true rfl⟩ rfl (Nat.le_of_ble_eq_true rfl) dX5_cheapestWithout_68 (fun v5 σ6 => ?_)
          refine x_istore (pc := 71) (lv' := [(8, .int v5), (7, .int v1), (0, .ref (al 4)), (1, .int a0), (2, .int a1), (3, .int a2), (4, .int x3), (5, .int x4), (6, .int x5)]) g (by decide) rfl dX5_cheapestWithout_71 ?_
          refine x_iload (pc := 73) g 6 rfl dX5_cheapestWithout_73 ?_
          refine x_bipush (pc := 75) (v := (-2 : Int32)) g (by decide) dX5_cheapestWithout_75 ?_
          refine x_jn (fun (j87 : Sx → Option (Int32 × Sx)) => ∀ (σ7 : Sx), XTx p l e { frames := 4, cells := 0, slots := 0, locals := 104 } s m args below meth c D al cA ba 9 (MQx rvI D al cA ba below args s) 0 0 87 [(0, .ref (al 4)), (1, .int a0), (2, .int a1), (3, .int a2), (6, .int x5), (7, .int v1), (8, .int v5)] [] σ7 (j87 σ7)) (fun σ7 => ?_) (fun j87 hj87 => ?_)
          · refine x_iload (pc := 87) g 6 rfl dX5_cheapestWithout_87 ?_
            refine x_istore (pc := 89) (lv' := [(4, .int v5), (0, .ref (al 4)), (1, .int a0), (2, .int a1), (3, .int a2), (6, .int x5), (7, .int v1), (8, .int v5)]) g (by decide) rfl dX5_cheapestWithout_89 ?_
            refine x_iload (pc := 91) g 6 rfl dX5_cheapestWithout_91 ?_
            refine x_istore (pc := 93) (lv' := [(5, .int v1), (4, .int v5), (0, .ref (al 4)), (1, .int a0), (2, .int a1), (3, .int a2), (6, .int x5), (7, .int v1), (8, .int v5)]) g (by decide) rfl dX5_cheapestWithout_93 ?_
            refine x_lv [2, 3, 4, 5, 1, 0, 6] rfl ?_
            exact hj95 v5 v1 σ7
          · refine x_icmp_eq (pc := 77) (tgt := 87) g (by decide) dX5_cheapestWithout_77 ?_ ?_
            · refine x_lv [2, 3, 4, 5, 8, 1, 0] rfl ?_
              exact hj87 σ6
            · refine x_iload (pc := 80) g 0 rfl dX5_cheapestWithout_80 ?_
              refine x_iload (pc := 82) g 6 rfl dX5_cheapestWithout_82 ?_
              refine x_icmp_ge (pc := 84) (tgt := 95) g (by decide) dX5_cheapestWithout_84 ?_ ?_
              · refine x_lv [2, 3, 4, 5, 6, 7, 8] rfl ?_
                exact hj95 x3 x4 σ6
              · refine x_lv [2, 3, 4, 5, 8, 1, 0] rfl ?_
                exact hj87 σ6
def B_X5_markVisits_L2 (N : Nat) (a0 : Int32) (r2 : Int32 → Sx → Option (Unit × Sx)) (x1 : Int32) (σ1 : Sx) : Option (Unit × Sx) := aIx 36 20 a0 σ1 (fun v1 => (if v1 ≤ x1 then some ((), σ1) else aRx 20 a0 (fun k11 => aIx (59 + k11) 8 x1 σ1 (fun v2 => nmx (fun (σ2 : Sx) => r2 (x1 + (1 : Int32)) σ2) (fun (j65 : Sx → Option (Unit × Sx)) => (if v2 < 0 then j65 σ1 else (if (400 : Int32) < v2 then j65 σ1 else aRx 20 a0 (fun k12 => aIx (38 + k12) 8 x1 σ1 (fun v3 => aIx 92 3208 ((v2 * (8 : Int32)) + v3) σ1 (fun v4 => sIx 92 3208 ((v2 * (8 : Int32)) + v3) (v4 ||| (jshl (1 : Int32) a0)) σ1 (fun σ3 => j65 σ3)))))))))))
def F_X5_markVisits (N : Nat) (a0 : Int32) (σ0 : Sx) : Option (Unit × Sx) := lpx1 (B_X5_markVisits_L2 N a0) N (0 : Int32) σ0
set_option maxRecDepth 100000 in
set_option maxHeartbeats 4000000 in
theorem mc_X5_markVisits {D : va_G} {al : Nat → Nat} {cA : Nat → ClassId} {ba : Nat} (N : Nat) (a0 : Int32) : MCx D al cA ba yX5_markVisits cX5_markVisits 4 none 0 0 rvU [.ref (al 4), .int a0] (F_X5_markVisits N a0) := by
  refine MCx_of (by decide +kernel) (Nat.le_of_ble_eq_true rfl) ?_
  intro p l e s m args below meth c σ0 g hrt
  unfold F_X5_markVisits
  refine x_lv (lv' := [(0, .ref (al 4)), (1, .int a0)]) [0, 1] rfl ?_
  refine x_iconst (pc := 0) (v := (0 : Int32)) g (by decide) dX5_markVisits_0 ?_
  refine x_istore_n (pc := 1) (lv' := [(2, .int (0 : Int32)), (0, .ref (al 4)), (1, .int a0)]) g rfl (by decide) rfl dX5_markVisits_1 ?_
  refine x_lv [1, 2, 0] rfl ?_
  refine lpx1_ind (fun (x1 : Int32) (σ1 : Sx) (K : Option (Unit × Sx)) => XTx p l e { frames := 0, cells := 0, slots := 0, locals := 0 } s m args below meth c D al cA ba 4 (MQx rvU D al cA ba below args s) 0 0 2 [(0, .ref (al 4)), (1, .int a0), (2, .int x1)] [] σ1 (K)) (fun _ _ => x_no) (fun r2 hr2 x1 σ1 => ?_) N (0 : Int32) σ0
  show XTx p l e { frames := 0, cells := 0, slots := 0, locals := 0 } s m args below meth c D al cA ba 4 (MQx rvU D al cA ba below args s) 0 0 2 [(0, .ref (al 4)), (1, .int a0), (2, .int x1)] [] σ1 (B_X5_markVisits_L2 N a0 r2 x1 σ1)
  unfold B_X5_markVisits_L2
  refine x_iload_n (pc := 2) g rfl 2 rfl dX5_markVisits_2 ?_
  refine x_aload_n (pc := 3) g rfl 0 rfl dX5_markVisits_3 ?_
  refine x_getR (pc := 4) g sh_4 fl_X5_21 rfl dX5_markVisits_4 ?_
  refine x_getR (pc := 7) g sh_1 fl_X5_111 rfl dX5_markVisits_7 ?_
  refine x_iload_n (pc := 10) g rfl 1 rfl dX5_markVisits_10 ?_
  refine x_iald (pc := 11) g sh_36 (by decide) dX5_markVisits_11 (fun v1 => ?_)
  refine x_icmp_ge (pc := 12) (tgt := 71) g (by decide) dX5_markVisits_12 ?_ ?_
  · exact x_return (pc := 71) g hrt dX5_markVisits_71
  · refine x_aload_n (pc := 15) g rfl 0 rfl dX5_markVisits_15 ?_
    refine x_getR (pc := 16) g sh_4 fl_X5_21 rfl dX5_markVisits_16 ?_
    refine x_getR (pc := 19) g sh_1 fl_X5_114 rfl dX5_markVisits_19 ?_
    refine x_iload_n (pc := 22) g rfl 1 rfl dX5_markVisits_22 ?_
    refine x_aaldR (pc := 23) g sh_58 (by decide) dX5_markVisits_23 (fun k11 hk11 => ?_)
    refine x_iload_n (pc := 24) g rfl 2 rfl dX5_markVisits_24 ?_
    refine x_iald (pc := 25) g (shf_59 k11 hk11) (by decide) dX5_markVisits_25 (fun v2 => ?_)
    refine x_istore_n (pc := 26) (lv' := [(3, .int v2), (0, .ref (al 4)), (1, .int a0), (2, .int x1)]) g rfl (by decide) rfl dX5_markVisits_26 ?_
    refine x_iload_n (pc := 27) g rfl 0 rfl dX5_markVisits_27 ?_
    refine x_jn (fun (j65 : Sx → Option (Unit × Sx)) => ∀ (σ2 : Sx), XTx p l e { frames := 0, cells := 0, slots := 0, locals := 0 } s m args below meth c D al cA ba 4 (MQx rvU D al cA ba below args s) 0 0 65 [(0, .ref (al 4)), (1, .int a0), (2, .int x1)] [] σ2 (j65 σ2)) (fun σ2 => ?_) (fun j65 hj65 => ?_)
    · refine x_iinc (pc := 65) (v := (x1 + (1 : Int32))) (lv' := [(2, .int (x1 + (1 : Int32))), (0, .ref (al 4)), (1, .int a0)]) g 2 rfl (by rfl) (by decide) rfl dX5_markVisits_65 ?_
      refine x_goto (pc := 68) (tgt := 2) g (by decide) dX5_markVisits_68 ?_
      refine x_lv [1, 2, 0] rfl ?_
      exact hr2 (x1 + (1 : Int32)) σ2
    · refine x_if_lt (pc := 28) (tgt := 65) g (by decide) dX5_markVisits_28 ?_ ?_
      · refine x_lv [1, 2, 3] rfl ?_
        exact hj65 σ1
      · refine x_iload_n (pc := 31) g rfl 0 rfl dX5_markVisits_31 ?_
        refine x_sipush (pc := 32) (v := (400 : Int32)) g (by decide) dX5_markVisits_32 ?_
        refine x_icmp_gt (pc := 35) (tgt := 65) g (by decide) dX5_markVisits_35 ?_ ?_
        · refine x_lv [1, 2, 3] rfl ?_
          exact hj65 σ1
        · refine x_aload_n (pc := 38) g rfl 1 rfl dX5_markVisits_38 ?_
          refine x_getR (pc := 39) g sh_4 fl_X5_18 rfl dX5_markVisits_39 ?_
          refine x_iload_n (pc := 42) g rfl 0 rfl dX5_markVisits_42 ?_
          refine x_bipush (pc := 43) (v := (8 : Int32)) g (by decide) dX5_markVisits_43 ?_
          refine x_imul (pc := 45) g dX5_markVisits_45 ?_
          refine x_aload_n (pc := 46) g rfl 1 rfl dX5_markVisits_46 ?_
          refine x_getR (pc := 47) g sh_4 fl_X5_21 rfl dX5_markVisits_47 ?_
          refine x_getR (pc := 50) g sh_1 fl_X5_126 rfl dX5_markVisits_50 ?_
          refine x_iload_n (pc := 53) g rfl 2 rfl dX5_markVisits_53 ?_
          refine x_aaldR (pc := 54) g sh_37 (by decide) dX5_markVisits_54 (fun k12 hk12 => ?_)
          refine x_iload_n (pc := 55) g rfl 3 rfl dX5_markVisits_55 ?_
          refine x_iald (pc := 56) g (shf_38 k12 hk12) (by decide) dX5_markVisits_56 (fun v3 => ?_)
          refine x_iadd (pc := 57) g dX5_markVisits_57 ?_
          refine x_dup2 (pc := 58) g rfl rfl dX5_markVisits_58 ?_
          refine x_iald (pc := 59) g sh_92 (by decide) dX5_markVisits_59 (fun v4 => ?_)
          refine x_iconst (pc := 60) (v := (1 : Int32)) g (by decide) dX5_markVisits_60 ?_
          refine x_iload_n (pc := 61) g rfl 2 rfl dX5_markVisits_61 ?_
          refine x_ishl (pc := 62) g dX5_markVisits_62 ?_
          refine x_ior (pc := 63) g dX5_markVisits_63 ?_
          refine x_iast (pc := 64) g sh_92 (by decide) dX5_markVisits_64 (fun σ3 => ?_)
          refine x_lv [1, 2, 3] rfl ?_
          exact hj65 σ3
def B_X5_daysWithAny_L4 (N : Nat) (a0 : Int32) (r4 : Int32 → Int32 → Sx → Option (Int32 × Sx)) (x1 : Int32) (x2 : Int32) (σ1 : Sx) : Option (Int32 × Sx) := (if (siI σ1 3 10) ≤ x2 then some (x1, σ1) else aIx 88 1024 x2 σ1 (fun v1 => aIx 84 1024 v1 σ1 (fun v2 => nmx (fun (x3 : Int32) (σ2 : Sx) => r4 x3 (x2 + (1 : Int32)) σ2) (fun (j40 : Int32 → Sx → Option (Int32 × Sx)) => (if (v2 &&& a0) = 0 then j40 x1 σ1 else j40 (x1 + (1 : Int32)) σ1)))))
def F_X5_daysWithAny (N : Nat) (a0 : Int32) (σ0 : Sx) : Option (Int32 × Sx) := lpx2 (B_X5_daysWithAny_L4 N a0) N (0 : Int32) (0 : Int32) σ0
set_option maxRecDepth 100000 in
set_option maxHeartbeats 4000000 in
theorem mc_X5_daysWithAny {D : va_G} {al : Nat → Nat} {cA : Nat → ClassId} {ba : Nat} (N : Nat) (a0 : Int32) : MCx D al cA ba yX5_daysWithAny cX5_daysWithAny 4 (some .int) 0 0 rvI [.ref (al 4), .int a0] (F_X5_daysWithAny N a0) := by
  refine MCx_of (by decide +kernel) (Nat.le_of_ble_eq_true rfl) ?_
  intro p l e s m args below meth c σ0 g hrt
  unfold F_X5_daysWithAny
  refine x_lv (lv' := [(0, .ref (al 4)), (1, .int a0)]) [0, 1] rfl ?_
  refine x_iconst (pc := 0) (v := (0 : Int32)) g (by decide) dX5_daysWithAny_0 ?_
  refine x_istore_n (pc := 1) (lv' := [(2, .int (0 : Int32)), (0, .ref (al 4)), (1, .int a0)]) g rfl (by decide) rfl dX5_daysWithAny_1 ?_
  refine x_iconst (pc := 2) (v := (0 : Int32)) g (by decide) dX5_daysWithAny_2 ?_
  refine x_istore_n (pc := 3) (lv' := [(3, .int (0 : Int32)), (2, .int (0 : Int32)), (0, .ref (al 4)), (1, .int a0)]) g rfl (by decide) rfl dX5_daysWithAny_3 ?_
  refine x_lv [2, 3, 1, 0] rfl ?_
  refine lpx2_ind (fun (x1 : Int32) (x2 : Int32) (σ1 : Sx) (K : Option (Int32 × Sx)) => XTx p l e { frames := 0, cells := 0, slots := 0, locals := 0 } s m args below meth c D al cA ba 4 (MQx rvI D al cA ba below args s) 0 0 4 [(0, .ref (al 4)), (1, .int a0), (2, .int x1), (3, .int x2)] [] σ1 (K)) (fun _ _ _ => x_no) (fun r4 hr4 x1 x2 σ1 => ?_) N (0 : Int32) (0 : Int32) σ0
  show XTx p l e { frames := 0, cells := 0, slots := 0, locals := 0 } s m args below meth c D al cA ba 4 (MQx rvI D al cA ba below args s) 0 0 4 [(0, .ref (al 4)), (1, .int a0), (2, .int x1), (3, .int x2)] [] σ1 (B_X5_daysWithAny_L4 N a0 r4 x1 x2 σ1)
  unfold B_X5_daysWithAny_L4
  refine x_iload_n (pc := 4) g rfl 3 rfl dX5_daysWithAny_4 ?_
  refine x_aload_n (pc := 5) g rfl 0 rfl dX5_daysWithAny_5 ?_
  refine x_getR (pc := 6) g sh_4 fl_X5_25 rfl dX5_daysWithAny_6 ?_
  refine x_getI (pc := 9) g sh_3 fl_X5_29 rfl dX5_daysWithAny_9 ?_
  refine x_icmp_ge (pc := 12) (tgt := 46) g (by decide) dX5_daysWithAny_12 ?_ ?_
  · refine x_iload_n (pc := 46) g rfl 2 rfl dX5_daysWithAny_46 ?_
    exact x_ireturn (pc := 47) g hrt dX5_daysWithAny_47
  · refine x_aload_n (pc := 15) g rfl 0 rfl dX5_daysWithAny_15 ?_
    refine x_getR (pc := 16) g sh_4 fl_X5_25 rfl dX5_daysWithAny_16 ?_
    refine x_getR (pc := 19) g sh_3 fl_X5_83 rfl dX5_daysWithAny_19 ?_
    refine x_aload_n (pc := 22) g rfl 0 rfl dX5_daysWithAny_22 ?_
    refine x_getR (pc := 23) g sh_4 fl_X5_25 rfl dX5_daysWithAny_23 ?_
    refine x_getR (pc := 26) g sh_3 fl_X5_60 rfl dX5_daysWithAny_26 ?_
    refine x_iload_n (pc := 29) g rfl 3 rfl dX5_daysWithAny_29 ?_
    refine x_iald (pc := 30) g sh_88 (by decide) dX5_daysWithAny_30 (fun v1 => ?_)
    refine x_iald (pc := 31) g sh_84 (by decide) dX5_daysWithAny_31 (fun v2 => ?_)
    refine x_iload_n (pc := 32) g rfl 1 rfl dX5_daysWithAny_32 ?_
    refine x_iand (pc := 33) g dX5_daysWithAny_33 ?_
    refine x_jn (fun (j40 : Int32 → Sx → Option (Int32 × Sx)) => ∀ (x3 : Int32) (σ2 : Sx), XTx p l e { frames := 0, cells := 0, slots := 0, locals := 0 } s m args below meth c D al cA ba 4 (MQx rvI D al cA ba below args s) 0 0 40 [(0, .ref (al 4)), (1, .int a0), (2, .int x3), (3, .int x2)] [] σ2 (j40 x3 σ2)) (fun x3 σ2 => ?_) (fun j40 hj40 => ?_)
    · refine x_iinc (pc := 40) (v := (x2 + (1 : Int32))) (lv' := [(3, .int (x2 + (1 : Int32))), (0, .ref (al 4)), (1, .int a0), (2, .int x3)]) g 3 rfl (by rfl) (by decide) rfl dX5_daysWithAny_40 ?_
      refine x_goto (pc := 43) (tgt := 4) g (by decide) dX5_daysWithAny_43 ?_
      refine x_lv [1, 2, 3, 0] rfl ?_
      exact hr4 x3 (x2 + (1 : Int32)) σ2
    · refine x_if_eq (pc := 34) (tgt := 40) g (by decide) dX5_daysWithAny_34 ?_ ?_
      · exact hj40 x1 σ1
      · refine x_iinc (pc := 37) (v := (x1 + (1 : Int32))) (lv' := [(2, .int (x1 + (1 : Int32))), (0, .ref (al 4)), (1, .int a0), (3, .int x2)]) g 2 rfl (by rfl) (by decide) rfl dX5_daysWithAny_37 ?_
        refine x_lv [1, 2, 0, 3] rfl ?_
        exact hj40 (x1 + (1 : Int32)) σ1
def B_X5_bestGuard_L65 (N : Nat) (j118 : Int32 → Int32 → Sx → Option (Int32 × Sx)) (r65 : Int32 → Int32 → Int32 → Sx → Option (Int32 × Sx)) (x3 : Int32) (x4 : Int32) (x5 : Int32) (σ4 : Sx) : Option (Int32 × Sx) := (if (Int32.ofNat 3208) ≤ x5 then j118 x3 x4 σ4 else aIx 92 3208 x5 σ4 (fun v1 => nmx (fun (x6 : Int32) (x7 : Int32) (σ5 : Sx) => r65 x6 x7 (x5 + (1 : Int32)) σ5) (fun (j112 : Int32 → Int32 → Sx → Option (Int32 × Sx)) => (if v1 = 0 then j112 x3 x4 σ4 else aIx 92 3208 x5 σ4 (fun v2 => clx (F_X5_daysWithAny N v2 σ4) (fun v3 σ6 => (if v3 ≤ x4 then j112 x3 x4 σ6 else j112 x5 v3 σ6)))))))
def B_X5_bestGuard_L23 (N : Nat) (a0 : Int32) (j57 : Sx → Option (Int32 × Sx)) (r23 : Int32 → Sx → Option (Int32 × Sx)) (x8 : Int32) (σ7 : Sx) : Option (Int32 × Sx) := (if ((siI σ7 1 0) * (4 : Int32)) ≤ x8 then j57 σ7 else nmx (fun (σ8 : Sx) => r23 (x8 + (1 : Int32)) σ8) (fun (j51 : Sx → Option (Int32 × Sx)) => (if ((jshr a0 (x8 / (4 : Int32))) &&& (1 : Int32)) = 0 then j51 σ7 else clx (F_X5_markVisits N x8 σ7) (fun _ σ9 => j51 σ9))))
def F_X5_bestGuard (N : Nat) (a0 : Int32) (a1 : Int32) (σ0 : Sx) : Option (Int32 × Sx) := (if (siI σ0 3 10) = 0 then some ((-2 : Int32), σ0) else clx (F_J7_fill_53178 N 92 3208 (0 : Int32) σ0) (fun _ σ1 => nmx (fun (σ2 : Sx) => nmx (fun (x1 : Int32) (x2 : Int32) (σ3 : Sx) => (if a1 = 0 then some (x2, σ3) else some ((((x1 / (8 : Int32)) * (10 : Int32)) + (jrem x1 (8 : Int32))), σ3))) (fun (j118 : Int32 → Int32 → Sx → Option (Int32 × Sx)) => lpx3 (B_X5_bestGuard_L65 N j118) N (0 : Int32) (0 : Int32) (0 : Int32) σ2)) (fun (j57 : Sx → Option (Int32 × Sx)) => lpx1 (B_X5_bestGuard_L23 N a0 j57) N (0 : Int32) σ1)))
set_option maxRecDepth 100000 in
set_option maxHeartbeats 4000000 in
theorem mc_X5_bestGuard {D : va_G} {al : Nat → Nat} {cA : Nat → ClassId} {ba : Nat} (N : Nat) (a0 : Int32) (a1 : Int32) : MCx D al cA ba yX5_bestGuard cX5_bestGuard 7 (some .int) 1 23 rvI [.ref (al 4), .int a0, .int a1] (F_X5_bestGuard N a0 a1) := by
  refine MCx_of (by decide +kernel) (Nat.le_of_ble_eq_true rfl) ?_
  intro p l e s m args below meth c σ0 g hrt
  unfold F_X5_bestGuard
  refine x_lv (lv' := [(0, .ref (al 4)), (1, .int a0), (2, .int a1)]) [0, 1, 2] rfl ?_
  refine x_aload_n (pc := 0) g rfl 0 rfl dX5_bestGuard_0 ?_
  refine x_getR (pc := 1) g sh_4 fl_X5_25 rfl dX5_bestGuard_1 ?_
  refine x_getI (pc := 4) g sh_3 fl_X5_29 rfl dX5_bestGuard_4 ?_
  refine x_if_ne (pc := 7) (tgt := 13) g (by decide) dX5_bestGuard_7 ?_ ?_
  · refine x_aload_n (pc := 13) g rfl 0 rfl dX5_bestGuard_13 ?_
    refine x_getR (pc := 14) g sh_4 fl_X5_18 rfl dX5_bestGuard_14 ?_
    refine x_iconst (pc := 17) (v := (0 : Int32)) g (by decide) dX5_bestGuard_17 ?_
    refine x_callSU (pc := 18) (As := [.ref (al 92), .int (0 : Int32)]) g (mc_J7_fill_53178 N 92 3208 sh_92 (by decide) (0 : Int32)) cw_J7_fill_53178 lk_X5_92 rfl ⟨Nat.le_of_ble_eq_true rfl, Nat.le_of_ble_eq_true rfl⟩ rfl (Nat.le_of_ble_eq_true rfl) dX5_bestGuard_18 (fun _ σ1 => ?_)
    refine x_iconst (pc := 21) (v := (0 : Int32)) g (by decide) dX5_bestGuard_21 ?_
    refine x_istore_n (pc := 22) (lv' := [(3, .int (0 : Int32)), (0, .ref (al 4)), (1, .int a0), (2, .int a1)]) g rfl (by decide) rfl dX5_bestGuard_22 ?_
    refine x_jn (fun (j57 : Sx → Option (Int32 × Sx)) => ∀ (σ2 : Sx), XTx p l e { frames := 1, cells := 0, slots := 0, locals := 23 } s m args below meth c D al cA ba 7 (MQx rvI D al cA ba below args s) 0 0 57 [(0, .ref (al 4)), (2, .int a1)] [] σ2 (j57 σ2)) (fun σ2 => ?_) (fun j57 hj57 => ?_)
    · refine x_iconst (pc := 57) (v := (0 : Int32)) g (by decide) dX5_bestGuard_57 ?_
      refine x_istore_n (pc := 58) (lv' := [(3, .int (0 : Int32)), (0, .ref (al 4)), (2, .int a1)]) g rfl (by decide) rfl dX5_bestGuard_58 ?_
      refine x_iconst (pc := 59) (v := (0 : Int32)) g (by decide) dX5_bestGuard_59 ?_
      refine x_istore (pc := 60) (lv' := [(4, .int (0 : Int32)), (3, .int (0 : Int32)), (0, .ref (al 4)), (2, .int a1)]) g (by decide) rfl dX5_bestGuard_60 ?_
      refine x_iconst (pc := 62) (v := (0 : Int32)) g (by decide) dX5_bestGuard_62 ?_
      refine x_istore (pc := 63) (lv' := [(5, .int (0 : Int32)), (4, .int (0 : Int32)), (3, .int (0 : Int32)), (0, .ref (al 4)), (2, .int a1)]) g (by decide) rfl dX5_bestGuard_63 ?_
      refine x_jn (fun (j118 : Int32 → Int32 → Sx → Option (Int32 × Sx)) => ∀ (x1 : Int32) (x2 : Int32) (σ3 : Sx), XTx p l e { frames := 1, cells := 0, slots := 0, locals := 23 } s m args below meth c D al cA ba 7 (MQx rvI D al cA ba below args s) 0 0 118 [(2, .int a1), (3, .int x1), (4, .int x2)] [] σ3 (j118 x1 x2 σ3)) (fun x1 x2 σ3 => ?_) (fun j118 hj118 => ?_)
      · refine x_iload_n (pc := 118) g rfl 0 rfl dX5_bestGuard_118 ?_
        refine x_if_ne (pc := 119) (tgt := 127) g (by decide) dX5_bestGuard_119 ?_ ?_
        · refine x_iload_n (pc := 127) g rfl 1 rfl dX5_bestGuard_127 ?_
          refine x_bipush (pc := 128) (v := (8 : Int32)) g (by decide) dX5_bestGuard_128 ?_
          refine x_idiv (pc := 130) g (by decide) dX5_bestGuard_130 ?_
          refine x_bipush (pc := 131) (v := (10 : Int32)) g (by decide) dX5_bestGuard_131 ?_
          refine x_imul (pc := 133) g dX5_bestGuard_133 ?_
          refine x_iload_n (pc := 134) g rfl 1 rfl dX5_bestGuard_134 ?_
          refine x_bipush (pc := 135) (v := (8 : Int32)) g (by decide) dX5_bestGuard_135 ?_
          refine x_irem (pc := 137) g (by decide) dX5_bestGuard_137 ?_
          refine x_iadd (pc := 138) g dX5_bestGuard_138 ?_
          exact x_ireturn (pc := 139) g hrt dX5_bestGuard_139
        · refine x_iload (pc := 122) g 2 rfl dX5_bestGuard_122 ?_
          refine x_goto (pc := 124) (tgt := 139) g (by decide) dX5_bestGuard_124 ?_
          exact x_ireturn (pc := 139) g hrt dX5_bestGuard_139
      · refine x_lv [3, 4, 2, 1, 0] rfl ?_
        refine lpx3_ind (fun (x3 : Int32) (x4 : Int32) (x5 : Int32) (σ4 : Sx) (K : Option (Int32 × Sx)) => XTx p l e { frames := 1, cells := 0, slots := 0, locals := 23 } s m args below meth c D al cA ba 7 (MQx rvI D al cA ba below args s) 0 0 65 [(0, .ref (al 4)), (2, .int a1), (3, .int x3), (4, .int x4), (5, .int x5)] [] σ4 (K)) (fun _ _ _ _ => x_no) (fun r65 hr65 x3 x4 x5 σ4 => ?_) N (0 : Int32) (0 : Int32) (0 : Int32) σ2
        show XTx p l e { frames := 1, cells := 0, slots := 0, locals := 23 } s m args below meth c D al cA ba 7 (MQx rvI D al cA ba below args s) 0 0 65 [(0, .ref (al 4)), (2, .int a1), (3, .int x3), (4, .int x4), (5, .int x5)] [] σ4 (B_X5_bestGuard_L65 N j118 r65 x3 x4 x5 σ4)
        unfold B_X5_bestGuard_L65
        refine x_iload (pc := 65) g 4 rfl dX5_bestGuard_65 ?_
        refine x_aload_n (pc := 67) g rfl 0 rfl dX5_bestGuard_67 ?_
        refine x_getR (pc := 68) g sh_4 fl_X5_18 rfl dX5_bestGuard_68 ?_
        refine x_alen (pc := 71) (t := 0) g sh_92 (by decide) rfl dX5_bestGuard_71 ?_
        refine x_icmp_ge (pc := 72) (tgt := 118) g (by decide) dX5_bestGuard_72 ?_ ?_
        · refine x_lv [1, 2, 3] rfl ?_
          exact hj118 x3 x4 σ4
        · refine x_aload_n (pc := 75) g rfl 0 rfl dX5_bestGuard_75 ?_
          refine x_getR (pc := 76) g sh_4 fl_X5_18 rfl dX5_bestGuard_76 ?_
          refine x_iload (pc := 79) g 4 rfl dX5_bestGuard_79 ?_
          refine x_iald (pc := 81) g sh_92 (by decide) dX5_bestGuard_81 (fun v1 => ?_)
          refine x_jn (fun (j112 : Int32 → Int32 → Sx → Option (Int32 × Sx)) => ∀ (x6 : Int32) (x7 : Int32) (σ5 : Sx), XTx p l e { frames := 1, cells := 0, slots := 0, locals := 23 } s m args below meth c D al cA ba 7 (MQx rvI D al cA ba below args s) 0 0 112 [(0, .ref (al 4)), (2, .int a1), (3, .int x6), (4, .int x7), (5, .int x5)] [] σ5 (j112 x6 x7 σ5)) (fun x6 x7 σ5 => ?_) (fun j112 hj112 => ?_)
          · refine x_iinc (pc := 112) (v := (x5 + (1 : Int32))) (lv' := [(5, .int (x5 + (1 : Int32))), (0, .ref (al 4)), (2, .int a1), (3, .int x6), (4, .int x7)]) g 4 rfl (by rfl) (by decide) rfl dX5_bestGuard_112 ?_
            refine x_goto (pc := 115) (tgt := 65) g (by decide) dX5_bestGuard_115 ?_
            refine x_lv [1, 2, 3, 4, 0] rfl ?_
            exact hr65 x6 x7 (x5 + (1 : Int32)) σ5
          · refine x_if_eq (pc := 82) (tgt := 112) g (by decide) dX5_bestGuard_82 ?_ ?_
            · exact hj112 x3 x4 σ4
            · refine x_aload_n (pc := 85) g rfl 0 rfl dX5_bestGuard_85 ?_
              refine x_aload_n (pc := 86) g rfl 0 rfl dX5_bestGuard_86 ?_
              refine x_getR (pc := 87) g sh_4 fl_X5_18 rfl dX5_bestGuard_87 ?_
              refine x_iload (pc := 90) g 4 rfl dX5_bestGuard_90 ?_
              refine x_iald (pc := 92) g sh_92 (by decide) dX5_bestGuard_92 (fun v2 => ?_)
              refine x_callVI (pc := 93) (As := [.int v2]) g sh_4 (mc_X5_daysWithAny N v2) cw_X5_daysWithAny lk_X5_140 rfl ⟨Nat.le_of_ble_eq_true rfl, Nat.le_of_ble_eq_true rfl⟩ rfl (Nat.le_of_ble_eq_true rfl) dX5_bestGuard_93 (fun v3 σ6 => ?_)
              refine x_istore (pc := 96) (lv' := [(6, .int v3), (0, .ref (al 4)), (2, .int a1), (3, .int x3), (4, .int x4), (5, .int x5)]) g (by decide) rfl dX5_bestGuard_96 ?_
              refine x_iload (pc := 98) g 0 rfl dX5_bestGuard_98 ?_
              refine x_iload (pc := 100) g 4 rfl dX5_bestGuard_100 ?_
              refine x_icmp_le (pc := 102) (tgt := 112) g (by decide) dX5_bestGuard_102 ?_ ?_
              · refine x_lv [1, 2, 3, 4, 5] rfl ?_
                exact hj112 x3 x4 σ6
              · refine x_iload (pc := 105) g 0 rfl dX5_bestGuard_105 ?_
                refine x_istore (pc := 107) (lv' := [(4, .int v3), (6, .int v3), (0, .ref (al 4)), (2, .int a1), (3, .int x3), (5, .int x5)]) g (by decide) rfl dX5_bestGuard_107 ?_
                refine x_iload (pc := 109) g 5 rfl dX5_bestGuard_109 ?_
                refine x_istore_n (pc := 111) (lv' := [(3, .int x5), (4, .int v3), (6, .int v3), (0, .ref (al 4)), (2, .int a1), (5, .int x5)]) g rfl (by decide) rfl dX5_bestGuard_111 ?_
                refine x_lv [3, 4, 0, 1, 5] rfl ?_
                exact hj112 x5 v3 σ6
    · refine x_lv [1, 2, 3, 0] rfl ?_
      refine lpx1_ind (fun (x8 : Int32) (σ7 : Sx) (K : Option (Int32 × Sx)) => XTx p l e { frames := 1, cells := 0, slots := 0, locals := 23 } s m args below meth c D al cA ba 7 (MQx rvI D al cA ba below args s) 0 0 23 [(0, .ref (al 4)), (1, .int a0), (2, .int a1), (3, .int x8)] [] σ7 (K)) (fun _ _ => x_no) (fun r23 hr23 x8 σ7 => ?_) N (0 : Int32) σ1
      show XTx p l e { frames := 1, cells := 0, slots := 0, locals := 23 } s m args below meth c D al cA ba 7 (MQx rvI D al cA ba below args s) 0 0 23 [(0, .ref (al 4)), (1, .int a0), (2, .int a1), (3, .int x8)] [] σ7 (B_X5_bestGuard_L23 N a0 j57 r23 x8 σ7)
      unfold B_X5_bestGuard_L23
      refine x_iload_n (pc := 23) g rfl 3 rfl dX5_bestGuard_23 ?_
      refine x_aload_n (pc := 24) g rfl 0 rfl dX5_bestGuard_24 ?_
      refine x_getR (pc := 25) g sh_4 fl_X5_21 rfl dX5_bestGuard_25 ?_
      refine x_getI (pc := 28) g sh_1 fl_X5_98 rfl dX5_bestGuard_28 ?_
      refine x_iconst (pc := 31) (v := (4 : Int32)) g (by decide) dX5_bestGuard_31 ?_
      refine x_imul (pc := 32) g dX5_bestGuard_32 ?_
      refine x_icmp_ge (pc := 33) (tgt := 57) g (by decide) dX5_bestGuard_33 ?_ ?_
      · refine x_lv [0, 2] rfl ?_
        exact hj57 σ7
      · refine x_iload_n (pc := 36) g rfl 1 rfl dX5_bestGuard_36 ?_
        refine x_iload_n (pc := 37) g rfl 3 rfl dX5_bestGuard_37 ?_
        refine x_iconst (pc := 38) (v := (4 : Int32)) g (by decide) dX5_bestGuard_38 ?_
        refine x_idiv (pc := 39) g (by decide) dX5_bestGuard_39 ?_
        refine x_ishr (pc := 40) g dX5_bestGuard_40 ?_
        refine x_iconst (pc := 41) (v := (1 : Int32)) g (by decide) dX5_bestGuard_41 ?_
        refine x_iand (pc := 42) g dX5_bestGuard_42 ?_
        refine x_jn (fun (j51 : Sx → Option (Int32 × Sx)) => ∀ (σ8 : Sx), XTx p l e { frames := 1, cells := 0, slots := 0, locals := 23 } s m args below meth c D al cA ba 7 (MQx rvI D al cA ba below args s) 0 0 51 [(0, .ref (al 4)), (1, .int a0), (2, .int a1), (3, .int x8)] [] σ8 (j51 σ8)) (fun σ8 => ?_) (fun j51 hj51 => ?_)
        · refine x_iinc (pc := 51) (v := (x8 + (1 : Int32))) (lv' := [(3, .int (x8 + (1 : Int32))), (0, .ref (al 4)), (1, .int a0), (2, .int a1)]) g 3 rfl (by rfl) (by decide) rfl dX5_bestGuard_51 ?_
          refine x_goto (pc := 54) (tgt := 23) g (by decide) dX5_bestGuard_54 ?_
          refine x_lv [1, 2, 3, 0] rfl ?_
          exact hr23 (x8 + (1 : Int32)) σ8
        · refine x_if_eq (pc := 43) (tgt := 51) g (by decide) dX5_bestGuard_43 ?_ ?_
          · exact hj51 σ7
          · refine x_aload_n (pc := 46) g rfl 0 rfl dX5_bestGuard_46 ?_
            refine x_iload_n (pc := 47) g rfl 3 rfl dX5_bestGuard_47 ?_
            refine x_callVU (pc := 48) (As := [.int x8]) g sh_4 (mc_X5_markVisits N x8) cw_X5_markVisits lk_X5_137 rfl ⟨Nat.le_of_ble_eq_true rfl, Nat.le_of_ble_eq_true rfl⟩ rfl (Nat.le_of_ble_eq_true rfl) dX5_bestGuard_48 (fun _ σ9 => ?_)
            exact hj51 σ9
  · refine x_bipush (pc := 10) (v := (-2 : Int32)) g (by decide) dX5_bestGuard_10 ?_
    exact x_ireturn (pc := 12) g hrt dX5_bestGuard_12
