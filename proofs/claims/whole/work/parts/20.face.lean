def F_X9_wayRefusal (N : Nat) (a0 : Int32) (a1 : Int32) (σ0 : Sx) : Option (Int32 × Sx) := clx (F_X9_isShelf a0 σ0) (fun v1 σ1 => (if v1 = 0 then some ((-1 : Int32), σ1) else (if a1 < 0 then some ((-1 : Int32), σ1) else (if (jrem a1 (10 : Int32)) < (1 : Int32) then some ((-1 : Int32), σ1) else (if (jrem a1 (10 : Int32)) ≤ (8 : Int32) then aRx 6 a0 (fun k11 => clx (F_X6_refusalOfSort k11 (0 : Int32) σ1) (fun v2 σ2 => (if v2 = 0 then aRx 6 a0 (fun k12 => clx (F_X6_tellsPlaces N k12 (a1 / (10 : Int32)) (jrem a1 (10 : Int32)) σ2) (fun v3 σ3 => (if v3 = 0 then some ((-1 : Int32), σ3) else some ((0 : Int32), σ3)))) else some (v2, σ2)))) else some ((-1 : Int32), σ1))))))
set_option maxRecDepth 100000 in
set_option maxHeartbeats 4000000 in
theorem mc_X9_wayRefusal {D : va_G} {al : Nat → Nat} {cA : Nat → ClassId} {ba : Nat} (N : Nat) (a0 : Int32) (a1 : Int32) : MCx D al cA ba yX9_wayRefusal cX9_wayRefusal 4 (some .int) 2 45 rvI [.ref (al 0), .int a0, .int a1] (F_X9_wayRefusal N a0 a1) := by
  refine MCx_of (by decide +kernel) (Nat.le_of_ble_eq_true rfl) ?_
  intro p l e s m args below meth c σ0 g hrt
  unfold F_X9_wayRefusal
  refine x_lv (lv' := [(0, .ref (al 0)), (1, .int a0), (2, .int a1)]) [0, 1, 2] rfl ?_
  refine x_iload_n (pc := 0) g rfl 1 rfl dX9_wayRefusal_0 ?_
  refine x_callSI (pc := 1) (As := [.int a0]) g (mc_X9_isShelf a0) cw_X9_isShelf lk_X9_107 rfl ⟨Nat.le_of_ble_eq_true rfl, Nat.le_of_ble_eq_true rfl⟩ rfl (Nat.le_of_ble_eq_true rfl) dX9_wayRefusal_1 (fun v1 σ1 => ?_)
  refine x_if_eq (pc := 4) (tgt := 28) g (by decide) dX9_wayRefusal_4 ?_ ?_
  · refine x_iconst (pc := 28) (v := (-1 : Int32)) g (by decide) dX9_wayRefusal_28 ?_
    exact x_ireturn (pc := 29) g hrt dX9_wayRefusal_29
  · refine x_iload_n (pc := 7) g rfl 2 rfl dX9_wayRefusal_7 ?_
    refine x_if_lt (pc := 8) (tgt := 28) g (by decide) dX9_wayRefusal_8 ?_ ?_
    · refine x_iconst (pc := 28) (v := (-1 : Int32)) g (by decide) dX9_wayRefusal_28 ?_
      exact x_ireturn (pc := 29) g hrt dX9_wayRefusal_29
    · refine x_iload_n (pc := 11) g rfl 2 rfl dX9_wayRefusal_11 ?_
      refine x_bipush (pc := 12) (v := (10 : Int32)) g (by decide) dX9_wayRefusal_12 ?_
      refine x_irem (pc := 14) g (by decide) dX9_wayRefusal_14 ?_
      refine x_iconst (pc := 15) (v := (1 : Int32)) g (by decide) dX9_wayRefusal_15 ?_
      refine x_icmp_lt (pc := 16) (tgt := 28) g (by decide) dX9_wayRefusal_16 ?_ ?_
      · refine x_iconst (pc := 28) (v := (-1 : Int32)) g (by decide) dX9_wayRefusal_28 ?_
        exact x_ireturn (pc := 29) g hrt dX9_wayRefusal_29
      · refine x_iload_n (pc := 19) g rfl 2 rfl dX9_wayRefusal_19 ?_
        refine x_bipush (pc := 20) (v := (10 : Int32)) g (by decide) dX9_wayRefusal_20 ?_
        refine x_irem (pc := 22) g (by decide) dX9_wayRefusal_22 ?_
        refine x_bipush (pc := 23) (v := (8 : Int32)) g (by decide) dX9_wayRefusal_23 ?_
        refine x_icmp_le (pc := 25) (tgt := 30) g (by decide) dX9_wayRefusal_25 ?_ ?_
        · refine x_aload_n (pc := 30) g rfl 0 rfl dX9_wayRefusal_30 ?_
          refine x_getR (pc := 31) g sh_0 fl_X9_72 rfl dX9_wayRefusal_31 ?_
          refine x_iload_n (pc := 34) g rfl 1 rfl dX9_wayRefusal_34 ?_
          refine x_aaldS (pc := 35) g sh_9 (by decide) dX9_wayRefusal_35 (fun k11 hk11 => ?_)
          refine x_iconst (pc := 36) (v := (0 : Int32)) g (by decide) dX9_wayRefusal_36 ?_
          refine x_callVI (pc := 37) (As := [.int (0 : Int32)]) g (shf_10 k11 hk11) (mc_X6_refusalOfSort k11 hk11 (0 : Int32)) cw_X6_refusalOfSort lk_X9_110 rfl ⟨Nat.le_of_ble_eq_true rfl, Nat.le_of_ble_eq_true rfl⟩ rfl (Nat.le_of_ble_eq_true rfl) dX9_wayRefusal_37 (fun v2 σ2 => ?_)
          refine x_istore_n (pc := 40) (lv' := [(3, .int v2), (0, .ref (al 0)), (1, .int a0), (2, .int a1)]) g rfl (by decide) rfl dX9_wayRefusal_40 ?_
          refine x_iload_n (pc := 41) g rfl 0 rfl dX9_wayRefusal_41 ?_
          refine x_if_eq (pc := 42) (tgt := 47) g (by decide) dX9_wayRefusal_42 ?_ ?_
          · refine x_aload_n (pc := 47) g rfl 1 rfl dX9_wayRefusal_47 ?_
            refine x_getR (pc := 48) g sh_0 fl_X9_72 rfl dX9_wayRefusal_48 ?_
            refine x_iload_n (pc := 51) g rfl 2 rfl dX9_wayRefusal_51 ?_
            refine x_aaldS (pc := 52) g sh_9 (by decide) dX9_wayRefusal_52 (fun k12 hk12 => ?_)
            refine x_iload_n (pc := 53) g rfl 3 rfl dX9_wayRefusal_53 ?_
            refine x_bipush (pc := 54) (v := (10 : Int32)) g (by decide) dX9_wayRefusal_54 ?_
            refine x_idiv (pc := 56) g (by decide) dX9_wayRefusal_56 ?_
            refine x_iload_n (pc := 57) g rfl 3 rfl dX9_wayRefusal_57 ?_
            refine x_bipush (pc := 58) (v := (10 : Int32)) g (by decide) dX9_wayRefusal_58 ?_
            refine x_irem (pc := 60) g (by decide) dX9_wayRefusal_60 ?_
            refine x_callVI (pc := 61) (As := [.int (a1 / (10 : Int32)), .int (jrem a1 (10 : Int32))]) g (shf_10 k12 hk12) (mc_X6_tellsPlaces N k12 hk12 (a1 / (10 : Int32)) (jrem a1 (10 : Int32))) cw_X6_tellsPlaces lk_X9_114 rfl ⟨Nat.le_of_ble_eq_true rfl, Nat.le_of_ble_eq_true rfl⟩ rfl (Nat.le_of_ble_eq_true rfl) dX9_wayRefusal_61 (fun v3 σ3 => ?_)
            refine x_if_eq (pc := 64) (tgt := 71) g (by decide) dX9_wayRefusal_64 ?_ ?_
            · refine x_iconst (pc := 71) (v := (-1 : Int32)) g (by decide) dX9_wayRefusal_71 ?_
              exact x_ireturn (pc := 72) g hrt dX9_wayRefusal_72
            · refine x_iconst (pc := 67) (v := (0 : Int32)) g (by decide) dX9_wayRefusal_67 ?_
              refine x_goto (pc := 68) (tgt := 72) g (by decide) dX9_wayRefusal_68 ?_
              exact x_ireturn (pc := 72) g hrt dX9_wayRefusal_72
          · refine x_iload_n (pc := 45) g rfl 0 rfl dX9_wayRefusal_45 ?_
            exact x_ireturn (pc := 46) g hrt dX9_wayRefusal_46
        · refine x_iconst (pc := 28) (v := (-1 : Int32)) g (by decide) dX9_wayRefusal_28 ?_
          exact x_ireturn (pc := 29) g hrt dX9_wayRefusal_29
def F_X9_walker (N : Nat) (a0 : Int32) (a1 : Int32) (σ0 : Sx) : Option (Int32 × Sx) := clx (F_X9_wayRefusal N a0 a1 σ0) (fun v1 σ1 => (if v1 = 0 then (if (siI σ1 1 0) < (5 : Int32) then clx (F_X8_addWalker  σ1) (fun v2 σ2 => aRx 6 a0 (fun k11 => clx (F_X8_addWay N v2 k11 (a1 / (10 : Int32)) (jrem a1 (10 : Int32)) σ2) (fun v3 σ3 => clx (F_X2_spoil  σ3) (fun _ σ4 => some (v2, σ4))))) else some ((-3 : Int32), σ1)) else some (v1, σ1)))
set_option maxRecDepth 100000 in
set_option maxHeartbeats 4000000 in
theorem mc_X9_walker {D : va_G} {al : Nat → Nat} {cA : Nat → ClassId} {ba : Nat} (N : Nat) (a0 : Int32) (a1 : Int32) : MCx D al cA ba yX9_walker cX9_walker 5 (some .int) 3 72 rvI [.ref (al 0), .int a0, .int a1] (F_X9_walker N a0 a1) := by
  refine MCx_of (by decide +kernel) (Nat.le_of_ble_eq_true rfl) ?_
  intro p l e s m args below meth c σ0 g hrt
  unfold F_X9_walker
  refine x_lv (lv' := [(0, .ref (al 0)), (1, .int a0), (2, .int a1)]) [0, 1, 2] rfl ?_
  refine x_aload_n (pc := 0) g rfl 0 rfl dX9_walker_0 ?_
  refine x_iload_n (pc := 1) g rfl 1 rfl dX9_walker_1 ?_
  refine x_iload_n (pc := 2) g rfl 2 rfl dX9_walker_2 ?_
  refine x_callVI (pc := 3) (As := [.int a0, .int a1]) g sh_0 (mc_X9_wayRefusal N a0 a1) cw_X9_wayRefusal lk_X9_76 rfl ⟨Nat.le_of_ble_eq_true rfl, Nat.le_of_ble_eq_true rfl⟩ rfl (Nat.le_of_ble_eq_true rfl) dX9_walker_3 (fun v1 σ1 => ?_)
  refine x_istore_n (pc := 6) (lv' := [(3, .int v1), (0, .ref (al 0)), (1, .int a0), (2, .int a1)]) g rfl (by decide) rfl dX9_walker_6 ?_
  refine x_iload_n (pc := 7) g rfl 0 rfl dX9_walker_7 ?_
  refine x_if_eq (pc := 8) (tgt := 13) g (by decide) dX9_walker_8 ?_ ?_
  · refine x_aload_n (pc := 13) g rfl 1 rfl dX9_walker_13 ?_
    refine x_getR (pc := 14) g sh_0 fl_X9_18 rfl dX9_walker_14 ?_
    refine x_getI (pc := 17) g sh_1 fl_X9_80 rfl dX9_walker_17 ?_
    refine x_iconst (pc := 20) (v := (5 : Int32)) g (by decide) dX9_walker_20 ?_
    refine x_icmp_lt (pc := 21) (tgt := 27) g (by decide) dX9_walker_21 ?_ ?_
    · refine x_aload_n (pc := 27) g rfl 1 rfl dX9_walker_27 ?_
      refine x_getR (pc := 28) g sh_0 fl_X9_18 rfl dX9_walker_28 ?_
      refine x_callVI (pc := 31) (As := []) g sh_1 (mc_X8_addWalker ) cw_X8_addWalker lk_X9_84 rfl ⟨Nat.le_of_ble_eq_true rfl, Nat.le_of_ble_eq_true rfl⟩ rfl (Nat.le_of_ble_eq_true rfl) dX9_walker_31 (fun v2 σ2 => ?_)
      refine x_istore (pc := 34) (lv' := [(4, .int v2), (3, .int v1), (0, .ref (al 0)), (1, .int a0), (2, .int a1)]) g (by decide) rfl dX9_walker_34 ?_
      refine x_aload_n (pc := 36) g rfl 2 rfl dX9_walker_36 ?_
      refine x_getR (pc := 37) g sh_0 fl_X9_18 rfl dX9_walker_37 ?_
      refine x_iload (pc := 40) g 0 rfl dX9_walker_40 ?_
      refine x_aload_n (pc := 42) g rfl 2 rfl dX9_walker_42 ?_
      refine x_getR (pc := 43) g sh_0 fl_X9_72 rfl dX9_walker_43 ?_
      refine x_iload_n (pc := 46) g rfl 3 rfl dX9_walker_46 ?_
      refine x_aaldS (pc := 47) g sh_9 (by decide) dX9_walker_47 (fun k11 hk11 => ?_)
      refine x_getR (pc := 48) g (shf_10 k11 hk11) fl_X9_88 rfl dX9_walker_48 ?_
      refine x_iload_n (pc := 51) g rfl 4 rfl dX9_walker_51 ?_
      refine x_bipush (pc := 52) (v := (10 : Int32)) g (by decide) dX9_walker_52 ?_
      refine x_idiv (pc := 54) g (by decide) dX9_walker_54 ?_
      refine x_iload_n (pc := 55) g rfl 4 rfl dX9_walker_55 ?_
      refine x_bipush (pc := 56) (v := (10 : Int32)) g (by decide) dX9_walker_56 ?_
      refine x_irem (pc := 58) g (by decide) dX9_walker_58 ?_
      refine x_callVI (pc := 59) (As := [.int v2, .ref (al (16 + k11)), .int (a1 / (10 : Int32)), .int (jrem a1 (10 : Int32))]) g sh_1 (mc_X8_addWay N v2 k11 hk11 (a1 / (10 : Int32)) (jrem a1 (10 : Int32))) cw_X8_addWay lk_X9_92 rfl ⟨Nat.le_of_ble_eq_true rfl, Nat.le_of_ble_eq_true rfl⟩ rfl (Nat.le_of_ble_eq_true rfl) dX9_walker_59 (fun v3 σ3 => ?_)
      refine x_pop (pc := 62) g rfl dX9_walker_62 ?_
      refine x_aload_n (pc := 63) g rfl 2 rfl dX9_walker_63 ?_
      refine x_getR (pc := 64) g sh_0 fl_X9_28 rfl dX9_walker_64 ?_
      refine x_callVU (pc := 67) (As := []) g sh_3 (mc_X2_spoil ) cw_X2_spoil lk_X9_96 rfl ⟨Nat.le_of_ble_eq_true rfl, Nat.le_of_ble_eq_true rfl⟩ rfl (Nat.le_of_ble_eq_true rfl) dX9_walker_67 (fun _ σ4 => ?_)
      refine x_iload (pc := 70) g 0 rfl dX9_walker_70 ?_
      exact x_ireturn (pc := 72) g hrt dX9_walker_72
    · refine x_bipush (pc := 24) (v := (-3 : Int32)) g (by decide) dX9_walker_24 ?_
      exact x_ireturn (pc := 26) g hrt dX9_walker_26
  · refine x_iload_n (pc := 11) g rfl 0 rfl dX9_walker_11 ?_
    exact x_ireturn (pc := 12) g hrt dX9_walker_12
def F_X9_way (N : Nat) (a0 : Int32) (a1 : Int32) (a2 : Int32) (σ0 : Sx) : Option (Int32 × Sx) := clx (F_X8_isWalker a0 σ0) (fun v1 σ1 => (if v1 = 0 then some ((-1 : Int32), σ1) else clx (F_X9_wayRefusal N a1 a2 σ1) (fun v2 σ2 => (if v2 = 0 then aIx 35 5 a0 σ2 (fun v3 => (if v3 < (4 : Int32) then aRx 6 a1 (fun k11 => clx (F_X8_addWay N a0 k11 (a2 / (10 : Int32)) (jrem a2 (10 : Int32)) σ2) (fun v4 σ3 => clx (F_X2_spoil  σ3) (fun _ σ4 => some (v4, σ4)))) else some ((-3 : Int32), σ2))) else some (v2, σ2)))))
set_option maxRecDepth 100000 in
set_option maxHeartbeats 4000000 in
theorem mc_X9_way {D : va_G} {al : Nat → Nat} {cA : Nat → ClassId} {ba : Nat} (N : Nat) (a0 : Int32) (a1 : Int32) (a2 : Int32) : MCx D al cA ba yX9_way cX9_way 6 (some .int) 3 72 rvI [.ref (al 0), .int a0, .int a1, .int a2] (F_X9_way N a0 a1 a2) := by
  refine MCx_of (by decide +kernel) (Nat.le_of_ble_eq_true rfl) ?_
  intro p l e s m args below meth c σ0 g hrt
  unfold F_X9_way
  refine x_lv (lv' := [(0, .ref (al 0)), (1, .int a0), (2, .int a1), (3, .int a2)]) [0, 1, 2, 3] rfl ?_
  refine x_aload_n (pc := 0) g rfl 0 rfl dX9_way_0 ?_
  refine x_getR (pc := 1) g sh_0 fl_X9_18 rfl dX9_way_1 ?_
  refine x_iload_n (pc := 4) g rfl 1 rfl dX9_way_4 ?_
  refine x_callVI (pc := 5) (As := [.int a0]) g sh_1 (mc_X8_isWalker a0) cw_X8_isWalker lk_X9_99 rfl ⟨Nat.le_of_ble_eq_true rfl, Nat.le_of_ble_eq_true rfl⟩ rfl (Nat.le_of_ble_eq_true rfl) dX9_way_5 (fun v1 σ1 => ?_)
  refine x_if_ne (pc := 8) (tgt := 13) g (by decide) dX9_way_8 ?_ ?_
  · refine x_aload_n (pc := 13) g rfl 0 rfl dX9_way_13 ?_
    refine x_iload_n (pc := 14) g rfl 2 rfl dX9_way_14 ?_
    refine x_iload_n (pc := 15) g rfl 3 rfl dX9_way_15 ?_
    refine x_callVI (pc := 16) (As := [.int a1, .int a2]) g sh_0 (mc_X9_wayRefusal N a1 a2) cw_X9_wayRefusal lk_X9_76 rfl ⟨Nat.le_of_ble_eq_true rfl, Nat.le_of_ble_eq_true rfl⟩ rfl (Nat.le_of_ble_eq_true rfl) dX9_way_16 (fun v2 σ2 => ?_)
    refine x_istore (pc := 19) (lv' := [(4, .int v2), (0, .ref (al 0)), (1, .int a0), (2, .int a1), (3, .int a2)]) g (by decide) rfl dX9_way_19 ?_
    refine x_iload (pc := 21) g 0 rfl dX9_way_21 ?_
    refine x_if_eq (pc := 23) (tgt := 29) g (by decide) dX9_way_23 ?_ ?_
    · refine x_aload_n (pc := 29) g rfl 1 rfl dX9_way_29 ?_
      refine x_getR (pc := 30) g sh_0 fl_X9_18 rfl dX9_way_30 ?_
      refine x_getR (pc := 33) g sh_1 fl_X9_103 rfl dX9_way_33 ?_
      refine x_iload_n (pc := 36) g rfl 2 rfl dX9_way_36 ?_
      refine x_iald (pc := 37) g sh_35 (by decide) dX9_way_37 (fun v3 => ?_)
      refine x_iconst (pc := 38) (v := (4 : Int32)) g (by decide) dX9_way_38 ?_
      refine x_icmp_lt (pc := 39) (tgt := 45) g (by decide) dX9_way_39 ?_ ?_
      · refine x_aload_n (pc := 45) g rfl 1 rfl dX9_way_45 ?_
        refine x_getR (pc := 46) g sh_0 fl_X9_18 rfl dX9_way_46 ?_
        refine x_iload_n (pc := 49) g rfl 2 rfl dX9_way_49 ?_
        refine x_aload_n (pc := 50) g rfl 1 rfl dX9_way_50 ?_
        refine x_getR (pc := 51) g sh_0 fl_X9_72 rfl dX9_way_51 ?_
        refine x_iload_n (pc := 54) g rfl 3 rfl dX9_way_54 ?_
        refine x_aaldS (pc := 55) g sh_9 (by decide) dX9_way_55 (fun k11 hk11 => ?_)
        refine x_getR (pc := 56) g (shf_10 k11 hk11) fl_X9_88 rfl dX9_way_56 ?_
        refine x_iload_n (pc := 59) g rfl 4 rfl dX9_way_59 ?_
        refine x_bipush (pc := 60) (v := (10 : Int32)) g (by decide) dX9_way_60 ?_
        refine x_idiv (pc := 62) g (by decide) dX9_way_62 ?_
        refine x_iload_n (pc := 63) g rfl 4 rfl dX9_way_63 ?_
        refine x_bipush (pc := 64) (v := (10 : Int32)) g (by decide) dX9_way_64 ?_
        refine x_irem (pc := 66) g (by decide) dX9_way_66 ?_
        refine x_callVI (pc := 67) (As := [.int a0, .ref (al (16 + k11)), .int (a2 / (10 : Int32)), .int (jrem a2 (10 : Int32))]) g sh_1 (mc_X8_addWay N a0 k11 hk11 (a2 / (10 : Int32)) (jrem a2 (10 : Int32))) cw_X8_addWay lk_X9_92 rfl ⟨Nat.le_of_ble_eq_true rfl, Nat.le_of_ble_eq_true rfl⟩ rfl (Nat.le_of_ble_eq_true rfl) dX9_way_67 (fun v4 σ3 => ?_)
        refine x_istore (pc := 70) (lv' := [(5, .int v4), (4, .int v2), (0, .ref (al 0)), (1, .int a0), (2, .int a1), (3, .int a2)]) g (by decide) rfl dX9_way_70 ?_
        refine x_aload_n (pc := 72) g rfl 2 rfl dX9_way_72 ?_
        refine x_getR (pc := 73) g sh_0 fl_X9_28 rfl dX9_way_73 ?_
        refine x_callVU (pc := 76) (As := []) g sh_3 (mc_X2_spoil ) cw_X2_spoil lk_X9_96 rfl ⟨Nat.le_of_ble_eq_true rfl, Nat.le_of_ble_eq_true rfl⟩ rfl (Nat.le_of_ble_eq_true rfl) dX9_way_76 (fun _ σ4 => ?_)
        refine x_iload (pc := 79) g 0 rfl dX9_way_79 ?_
        exact x_ireturn (pc := 81) g hrt dX9_way_81
      · refine x_bipush (pc := 42) (v := (-3 : Int32)) g (by decide) dX9_way_42 ?_
        exact x_ireturn (pc := 44) g hrt dX9_way_44
    · refine x_iload (pc := 26) g 0 rfl dX9_way_26 ?_
      exact x_ireturn (pc := 28) g hrt dX9_way_28
  · refine x_iconst (pc := 11) (v := (-1 : Int32)) g (by decide) dX9_way_11 ?_
    exact x_ireturn (pc := 12) g hrt dX9_way_12
def F_X9_mend (N : Nat) (a0 : Int32) (a1 : Int32) (a2 : Int32) (σ0 : Sx) : Option (Int32 × Sx) := clx (F_X8_isTold a0 a1 σ0) (fun v1 σ1 => (if v1 = 0 then some ((-1 : Int32), σ1) else clx (F_X8_mayBecome a1 a2 σ1) (fun v2 σ2 => (if v2 = 0 then some ((-1 : Int32), σ2) else clx (F_X8_told a0 a1 σ2) (fun v3 σ3 => (if v3 = a2 then some (v3, σ3) else clx (F_X1_note N a1 a0 v3 a2 σ3) (fun _ σ4 => clx (F_X8_tell N a0 a1 a2 σ4) (fun _ σ5 => clx (F_X2_spoil  σ5) (fun _ σ6 => some (v3, σ6))))))))))
set_option maxRecDepth 100000 in
set_option maxHeartbeats 4000000 in
theorem mc_X9_mend {D : va_G} {al : Nat → Nat} {cA : Nat → ClassId} {ba : Nat} (N : Nat) (a0 : Int32) (a1 : Int32) (a2 : Int32) : MCx D al cA ba yX9_mend cX9_mend 5 (some .int) 4 105 rvI [.ref (al 0), .int a0, .int a1, .int a2] (F_X9_mend N a0 a1 a2) := by
  refine MCx_of (by decide +kernel) (Nat.le_of_ble_eq_true rfl) ?_
  intro p l e s m args below meth c σ0 g hrt
  unfold F_X9_mend
  refine x_lv (lv' := [(0, .ref (al 0)), (1, .int a0), (2, .int a1), (3, .int a2)]) [0, 1, 2, 3] rfl ?_
  refine x_aload_n (pc := 0) g rfl 0 rfl dX9_mend_0 ?_
  refine x_getR (pc := 1) g sh_0 fl_X9_18 rfl dX9_mend_1 ?_
  refine x_iload_n (pc := 4) g rfl 1 rfl dX9_mend_4 ?_
  refine x_iload_n (pc := 5) g rfl 2 rfl dX9_mend_5 ?_
  refine x_callVI (pc := 6) (As := [.int a0, .int a1]) g sh_1 (mc_X8_isTold a0 a1) cw_X8_isTold lk_X9_118 rfl ⟨Nat.le_of_ble_eq_true rfl, Nat.le_of_ble_eq_true rfl⟩ rfl (Nat.le_of_ble_eq_true rfl) dX9_mend_6 (fun v1 σ1 => ?_)
  refine x_if_eq (pc := 9) (tgt := 20) g (by decide) dX9_mend_9 ?_ ?_
  · refine x_iconst (pc := 20) (v := (-1 : Int32)) g (by decide) dX9_mend_20 ?_
    exact x_ireturn (pc := 21) g hrt dX9_mend_21
  · refine x_iload_n (pc := 12) g rfl 2 rfl dX9_mend_12 ?_
    refine x_iload_n (pc := 13) g rfl 3 rfl dX9_mend_13 ?_
    refine x_callSI (pc := 14) (As := [.int a1, .int a2]) g (mc_X8_mayBecome a1 a2) cw_X8_mayBecome lk_X9_121 rfl ⟨Nat.le_of_ble_eq_true rfl, Nat.le_of_ble_eq_true rfl⟩ rfl (Nat.le_of_ble_eq_true rfl) dX9_mend_14 (fun v2 σ2 => ?_)
    refine x_if_ne (pc := 17) (tgt := 22) g (by decide) dX9_mend_17 ?_ ?_
    · refine x_aload_n (pc := 22) g rfl 0 rfl dX9_mend_22 ?_
      refine x_getR (pc := 23) g sh_0 fl_X9_18 rfl dX9_mend_23 ?_
      refine x_iload_n (pc := 26) g rfl 1 rfl dX9_mend_26 ?_
      refine x_iload_n (pc := 27) g rfl 2 rfl dX9_mend_27 ?_
      refine x_callVI (pc := 28) (As := [.int a0, .int a1]) g sh_1 (mc_X8_told a0 a1) cw_X8_told lk_X9_124 rfl ⟨Nat.le_of_ble_eq_true rfl, Nat.le_of_ble_eq_true rfl⟩ rfl (Nat.le_of_ble_eq_true rfl) dX9_mend_28 (fun v3 σ3 => ?_)
      refine x_istore (pc := 31) (lv' := [(4, .int v3), (0, .ref (al 0)), (1, .int a0), (2, .int a1), (3, .int a2)]) g (by decide) rfl dX9_mend_31 ?_
      refine x_iload (pc := 33) g 0 rfl dX9_mend_33 ?_
      refine x_iload_n (pc := 35) g rfl 4 rfl dX9_mend_35 ?_
      refine x_icmp_eq (pc := 36) (tgt := 68) g (by decide) dX9_mend_36 ?_ ?_
      · refine x_iload (pc := 68) g 0 rfl dX9_mend_68 ?_
        exact x_ireturn (pc := 70) g hrt dX9_mend_70
      · refine x_aload_n (pc := 39) g rfl 1 rfl dX9_mend_39 ?_
        refine x_getR (pc := 40) g sh_0 fl_X9_58 rfl dX9_mend_40 ?_
        refine x_iload_n (pc := 43) g rfl 3 rfl dX9_mend_43 ?_
        refine x_iload_n (pc := 44) g rfl 2 rfl dX9_mend_44 ?_
        refine x_iload (pc := 45) g 0 rfl dX9_mend_45 ?_
        refine x_iload_n (pc := 47) g rfl 4 rfl dX9_mend_47 ?_
        refine x_callVU (pc := 48) (As := [.int a1, .int a0, .int v3, .int a2]) g sh_7 (mc_X1_note N a1 a0 v3 a2) cw_X1_note lk_X9_127 rfl ⟨Nat.le_of_ble_eq_true rfl, Nat.le_of_ble_eq_true rfl⟩ rfl (Nat.le_of_ble_eq_true rfl) dX9_mend_48 (fun _ σ4 => ?_)
        refine x_aload_n (pc := 51) g rfl 1 rfl dX9_mend_51 ?_
        refine x_getR (pc := 52) g sh_0 fl_X9_18 rfl dX9_mend_52 ?_
        refine x_iload_n (pc := 55) g rfl 2 rfl dX9_mend_55 ?_
        refine x_iload_n (pc := 56) g rfl 3 rfl dX9_mend_56 ?_
        refine x_iload_n (pc := 57) g rfl 4 rfl dX9_mend_57 ?_
        refine x_callVU (pc := 58) (As := [.int a0, .int a1, .int a2]) g sh_1 (mc_X8_tell N a0 a1 a2) cw_X8_tell lk_X9_131 rfl ⟨Nat.le_of_ble_eq_true rfl, Nat.le_of_ble_eq_true rfl⟩ rfl (Nat.le_of_ble_eq_true rfl) dX9_mend_58 (fun _ σ5 => ?_)
        refine x_aload_n (pc := 61) g rfl 1 rfl dX9_mend_61 ?_
        refine x_getR (pc := 62) g sh_0 fl_X9_28 rfl dX9_mend_62 ?_
        refine x_callVU (pc := 65) (As := []) g sh_3 (mc_X2_spoil ) cw_X2_spoil lk_X9_96 rfl ⟨Nat.le_of_ble_eq_true rfl, Nat.le_of_ble_eq_true rfl⟩ rfl (Nat.le_of_ble_eq_true rfl) dX9_mend_65 (fun _ σ6 => ?_)
        refine x_iload (pc := 68) g 0 rfl dX9_mend_68 ?_
        exact x_ireturn (pc := 70) g hrt dX9_mend_70
    · refine x_iconst (pc := 20) (v := (-1 : Int32)) g (by decide) dX9_mend_20 ?_
      exact x_ireturn (pc := 21) g hrt dX9_mend_21
def F_X9_of (a0 : Int32) (a1 : Int32) (σ0 : Sx) : Option (Int32 × Sx) := (if (4 : Int32) ≤ a1 then clx (F_X8_isWalker a0 σ0) (fun v1 σ1 => (if v1 = 0 then some ((-1 : Int32), σ1) else (if a1 = (4 : Int32) then aIx 35 5 a0 σ1 (fun v5 => some (v5, σ1)) else clx (F_X8_isWay a0 (a1 - (5 : Int32)) σ1) (fun v2 σ2 => (if v2 = 0 then some ((-1 : Int32), σ2) else clx (F_X8_wayIndex a0 (a1 - (5 : Int32)) σ2) (fun v3 σ3 => aIx 36 20 v3 σ3 (fun v4 => some (v4, σ3)))))))) else clx (F_X8_isTold a0 a1 σ0) (fun v6 σ4 => (if v6 = 0 then some ((-1 : Int32), σ4) else clx (F_X8_told a0 a1 σ4) (fun v7 σ5 => some (v7, σ5)))))
set_option maxRecDepth 100000 in
set_option maxHeartbeats 4000000 in
theorem mc_X9_of {D : va_G} {al : Nat → Nat} {cA : Nat → ClassId} {ba : Nat} (a0 : Int32) (a1 : Int32) : MCx D al cA ba yX9_of cX9_of 3 (some .int) 2 43 rvI [.ref (al 0), .int a0, .int a1] (F_X9_of a0 a1) := by
  refine MCx_of (by decide +kernel) (Nat.le_of_ble_eq_true rfl) ?_
  intro p l e s m args below meth c σ0 g hrt
  unfold F_X9_of
  refine x_lv (lv' := [(0, .ref (al 0)), (1, .int a0), (2, .int a1)]) [0, 1, 2] rfl ?_
  refine x_iload_n (pc := 0) g rfl 2 rfl dX9_of_0 ?_
  refine x_iconst (pc := 1) (v := (4 : Int32)) g (by decide) dX9_of_1 ?_
  refine x_icmp_ge (pc := 2) (tgt := 31) g (by decide) dX9_of_2 ?_ ?_
  · refine x_aload_n (pc := 31) g rfl 0 rfl dX9_of_31 ?_
    refine x_getR (pc := 32) g sh_0 fl_X9_18 rfl dX9_of_32 ?_
    refine x_iload_n (pc := 35) g rfl 1 rfl dX9_of_35 ?_
    refine x_callVI (pc := 36) (As := [.int a0]) g sh_1 (mc_X8_isWalker a0) cw_X8_isWalker lk_X9_99 rfl ⟨Nat.le_of_ble_eq_true rfl, Nat.le_of_ble_eq_true rfl⟩ rfl (Nat.le_of_ble_eq_true rfl) dX9_of_36 (fun v1 σ1 => ?_)
    refine x_if_ne (pc := 39) (tgt := 44) g (by decide) dX9_of_39 ?_ ?_
    · refine x_iload_n (pc := 44) g rfl 2 rfl dX9_of_44 ?_
      refine x_iconst (pc := 45) (v := (4 : Int32)) g (by decide) dX9_of_45 ?_
      refine x_icmp_ne (pc := 46) (tgt := 59) g (by decide) dX9_of_46 ?_ ?_
      · refine x_aload_n (pc := 59) g rfl 0 rfl dX9_of_59 ?_
        refine x_getR (pc := 60) g sh_0 fl_X9_18 rfl dX9_of_60 ?_
        refine x_iload_n (pc := 63) g rfl 1 rfl dX9_of_63 ?_
        refine x_iload_n (pc := 64) g rfl 2 rfl dX9_of_64 ?_
        refine x_iconst (pc := 65) (v := (5 : Int32)) g (by decide) dX9_of_65 ?_
        refine x_isub (pc := 66) g dX9_of_66 ?_
        refine x_callVI (pc := 67) (As := [.int a0, .int (a1 - (5 : Int32))]) g sh_1 (mc_X8_isWay a0 (a1 - (5 : Int32))) cw_X8_isWay lk_X9_135 rfl ⟨Nat.le_of_ble_eq_true rfl, Nat.le_of_ble_eq_true rfl⟩ rfl (Nat.le_of_ble_eq_true rfl) dX9_of_67 (fun v2 σ2 => ?_)
        refine x_if_eq (pc := 70) (tgt := 91) g (by decide) dX9_of_70 ?_ ?_
        · refine x_iconst (pc := 91) (v := (-1 : Int32)) g (by decide) dX9_of_91 ?_
          exact x_ireturn (pc := 92) g hrt dX9_of_92
        · refine x_aload_n (pc := 73) g rfl 0 rfl dX9_of_73 ?_
          refine x_getR (pc := 74) g sh_0 fl_X9_18 rfl dX9_of_74 ?_
          refine x_getR (pc := 77) g sh_1 fl_X9_138 rfl dX9_of_77 ?_
          refine x_iload_n (pc := 80) g rfl 1 rfl dX9_of_80 ?_
          refine x_iload_n (pc := 81) g rfl 2 rfl dX9_of_81 ?_
          refine x_iconst (pc := 82) (v := (5 : Int32)) g (by decide) dX9_of_82 ?_
          refine x_isub (pc := 83) g dX9_of_83 ?_
          refine x_callSI (pc := 84) (As := [.int a0, .int (a1 - (5 : Int32))]) g (mc_X8_wayIndex a0 (a1 - (5 : Int32))) cw_X8_wayIndex lk_X9_141 rfl ⟨Nat.le_of_ble_eq_true rfl, Nat.le_of_ble_eq_true rfl⟩ rfl (Nat.le_of_ble_eq_true rfl) dX9_of_84 (fun v3 σ3 => ?_)
          refine x_iald (pc := 87) g sh_36 (by decide) dX9_of_87 (fun v4 => ?_)
          refine x_goto (pc := 88) (tgt := 92) g (by decide) dX9_of_88 ?_
          exact x_ireturn (pc := 92) g hrt dX9_of_92
      · refine x_aload_n (pc := 49) g rfl 0 rfl dX9_of_49 ?_
        refine x_getR (pc := 50) g sh_0 fl_X9_18 rfl dX9_of_50 ?_
        refine x_getR (pc := 53) g sh_1 fl_X9_103 rfl dX9_of_53 ?_
        refine x_iload_n (pc := 56) g rfl 1 rfl dX9_of_56 ?_
        refine x_iald (pc := 57) g sh_35 (by decide) dX9_of_57 (fun v5 => ?_)
        exact x_ireturn (pc := 58) g hrt dX9_of_58
    · refine x_iconst (pc := 42) (v := (-1 : Int32)) g (by decide) dX9_of_42 ?_
      exact x_ireturn (pc := 43) g hrt dX9_of_43
  · refine x_aload_n (pc := 5) g rfl 0 rfl dX9_of_5 ?_
    refine x_getR (pc := 6) g sh_0 fl_X9_18 rfl dX9_of_6 ?_
    refine x_iload_n (pc := 9) g rfl 1 rfl dX9_of_9 ?_
    refine x_iload_n (pc := 10) g rfl 2 rfl dX9_of_10 ?_
    refine x_callVI (pc := 11) (As := [.int a0, .int a1]) g sh_1 (mc_X8_isTold a0 a1) cw_X8_isTold lk_X9_118 rfl ⟨Nat.le_of_ble_eq_true rfl, Nat.le_of_ble_eq_true rfl⟩ rfl (Nat.le_of_ble_eq_true rfl) dX9_of_11 (fun v6 σ4 => ?_)
    refine x_if_eq (pc := 14) (tgt := 29) g (by decide) dX9_of_14 ?_ ?_
    · refine x_iconst (pc := 29) (v := (-1 : Int32)) g (by decide) dX9_of_29 ?_
      exact x_ireturn (pc := 30) g hrt dX9_of_30
    · refine x_aload_n (pc := 17) g rfl 0 rfl dX9_of_17 ?_
      refine x_getR (pc := 18) g sh_0 fl_X9_18 rfl dX9_of_18 ?_
      refine x_iload_n (pc := 21) g rfl 1 rfl dX9_of_21 ?_
      refine x_iload_n (pc := 22) g rfl 2 rfl dX9_of_22 ?_
      refine x_callVI (pc := 23) (As := [.int a0, .int a1]) g sh_1 (mc_X8_told a0 a1) cw_X8_told lk_X9_124 rfl ⟨Nat.le_of_ble_eq_true rfl, Nat.le_of_ble_eq_true rfl⟩ rfl (Nat.le_of_ble_eq_true rfl) dX9_of_23 (fun v7 σ5 => ?_)
      refine x_goto (pc := 26) (tgt := 30) g (by decide) dX9_of_26 ?_
      exact x_ireturn (pc := 30) g hrt dX9_of_30
def F_X9_place (a0 : Int32) (a1 : Int32) (σ0 : Sx) : Option (Int32 × Sx) := (if a0 < 0 then some ((-1 : Int32), σ0) else (if a1 < 0 then some ((-1 : Int32), σ0) else clx (F_X8_isWay (a0 / (10 : Int32)) (jrem a0 (10 : Int32)) σ0) (fun v1 σ1 => (if v1 = 0 then some ((-1 : Int32), σ1) else clx (F_X8_wayIndex (a0 / (10 : Int32)) (jrem a0 (10 : Int32)) σ1) (fun v2 σ2 => aIx 36 20 v2 σ2 (fun v3 => (if v3 ≤ a1 then some ((-2 : Int32), σ2) else aRx 20 v2 (fun k11 => aIx (38 + k11) 8 a1 σ2 (fun v4 => some (v4, σ2))))))))))
set_option maxRecDepth 100000 in
set_option maxHeartbeats 4000000 in
theorem mc_X9_place {D : va_G} {al : Nat → Nat} {cA : Nat → ClassId} {ba : Nat} (a0 : Int32) (a1 : Int32) : MCx D al cA ba yX9_place cX9_place 4 (some .int) 2 43 rvI [.ref (al 0), .int a0, .int a1] (F_X9_place a0 a1) := by
  refine MCx_of (by decide +kernel) (Nat.le_of_ble_eq_true rfl) ?_
  intro p l e s m args below meth c σ0 g hrt
  unfold F_X9_place
  refine x_lv (lv' := [(0, .ref (al 0)), (1, .int a0), (2, .int a1)]) [0, 1, 2] rfl ?_
  refine x_iload_n (pc := 0) g rfl 1 rfl dX9_place_0 ?_
  refine x_if_lt (pc := 1) (tgt := 26) g (by decide) dX9_place_1 ?_ ?_
  · refine x_iconst (pc := 26) (v := (-1 : Int32)) g (by decide) dX9_place_26 ?_
    exact x_ireturn (pc := 27) g hrt dX9_place_27
  · refine x_iload_n (pc := 4) g rfl 2 rfl dX9_place_4 ?_
    refine x_if_lt (pc := 5) (tgt := 26) g (by decide) dX9_place_5 ?_ ?_
    · refine x_iconst (pc := 26) (v := (-1 : Int32)) g (by decide) dX9_place_26 ?_
      exact x_ireturn (pc := 27) g hrt dX9_place_27
    · refine x_aload_n (pc := 8) g rfl 0 rfl dX9_place_8 ?_
      refine x_getR (pc := 9) g sh_0 fl_X9_18 rfl dX9_place_9 ?_
      refine x_iload_n (pc := 12) g rfl 1 rfl dX9_place_12 ?_
      refine x_bipush (pc := 13) (v := (10 : Int32)) g (by decide) dX9_place_13 ?_
      refine x_idiv (pc := 15) g (by decide) dX9_place_15 ?_
      refine x_iload_n (pc := 16) g rfl 1 rfl dX9_place_16 ?_
      refine x_bipush (pc := 17) (v := (10 : Int32)) g (by decide) dX9_place_17 ?_
      refine x_irem (pc := 19) g (by decide) dX9_place_19 ?_
      refine x_callVI (pc := 20) (As := [.int (a0 / (10 : Int32)), .int (jrem a0 (10 : Int32))]) g sh_1 (mc_X8_isWay (a0 / (10 : Int32)) (jrem a0 (10 : Int32))) cw_X8_isWay lk_X9_135 rfl ⟨Nat.le_of_ble_eq_true rfl, Nat.le_of_ble_eq_true rfl⟩ rfl (Nat.le_of_ble_eq_true rfl) dX9_place_20 (fun v1 σ1 => ?_)
      refine x_if_ne (pc := 23) (tgt := 28) g (by decide) dX9_place_23 ?_ ?_
      · refine x_iload_n (pc := 28) g rfl 1 rfl dX9_place_28 ?_
        refine x_bipush (pc := 29) (v := (10 : Int32)) g (by decide) dX9_place_29 ?_
        refine x_idiv (pc := 31) g (by decide) dX9_place_31 ?_
        refine x_iload_n (pc := 32) g rfl 1 rfl dX9_place_32 ?_
        refine x_bipush (pc := 33) (v := (10 : Int32)) g (by decide) dX9_place_33 ?_
        refine x_irem (pc := 35) g (by decide) dX9_place_35 ?_
        refine x_callSI (pc := 36) (As := [.int (a0 / (10 : Int32)), .int (jrem a0 (10 : Int32))]) g (mc_X8_wayIndex (a0 / (10 : Int32)) (jrem a0 (10 : Int32))) cw_X8_wayIndex lk_X9_141 rfl ⟨Nat.le_of_ble_eq_true rfl, Nat.le_of_ble_eq_true rfl⟩ rfl (Nat.le_of_ble_eq_true rfl) dX9_place_36 (fun v2 σ2 => ?_)
        refine x_istore_n (pc := 39) (lv' := [(3, .int v2), (0, .ref (al 0)), (1, .int a0), (2, .int a1)]) g rfl (by decide) rfl dX9_place_39 ?_
        refine x_iload_n (pc := 40) g rfl 3 rfl dX9_place_40 ?_
        refine x_aload_n (pc := 41) g rfl 1 rfl dX9_place_41 ?_
        refine x_getR (pc := 42) g sh_0 fl_X9_18 rfl dX9_place_42 ?_
        refine x_getR (pc := 45) g sh_1 fl_X9_138 rfl dX9_place_45 ?_
        refine x_iload_n (pc := 48) g rfl 0 rfl dX9_place_48 ?_
        refine x_iald (pc := 49) g sh_36 (by decide) dX9_place_49 (fun v3 => ?_)
        refine x_icmp_ge (pc := 50) (tgt := 67) g (by decide) dX9_place_50 ?_ ?_
        · refine x_bipush (pc := 67) (v := (-2 : Int32)) g (by decide) dX9_place_67 ?_
          exact x_ireturn (pc := 69) g hrt dX9_place_69
        · refine x_aload_n (pc := 53) g rfl 1 rfl dX9_place_53 ?_
          refine x_getR (pc := 54) g sh_0 fl_X9_18 rfl dX9_place_54 ?_
          refine x_getR (pc := 57) g sh_1 fl_X9_144 rfl dX9_place_57 ?_
          refine x_iload_n (pc := 60) g rfl 0 rfl dX9_place_60 ?_
          refine x_aaldR (pc := 61) g sh_37 (by decide) dX9_place_61 (fun k11 hk11 => ?_)
          refine x_iload_n (pc := 62) g rfl 3 rfl dX9_place_62 ?_
          refine x_iald (pc := 63) g (shf_38 k11 hk11) (by decide) dX9_place_63 (fun v4 => ?_)
          refine x_goto (pc := 64) (tgt := 69) g (by decide) dX9_place_64 ?_
          exact x_ireturn (pc := 69) g hrt dX9_place_69
      · refine x_iconst (pc := 26) (v := (-1 : Int32)) g (by decide) dX9_place_26 ?_
        exact x_ireturn (pc := 27) g hrt dX9_place_27
def F_X9_feed (a0 : Int32) (σ0 : Sx) : Option (Int32 × Sx) := (if a0 < 0 then some ((-1 : Int32), σ0) else (if a0 ≤ (255 : Int32) then clx (F_X4_write a0 σ0) (fun v1 σ1 => (if v1 = 0 then some ((-3 : Int32), σ1) else some ((siI σ1 2 0), σ1))) else some ((-1 : Int32), σ0)))
set_option maxRecDepth 100000 in
set_option maxHeartbeats 4000000 in
theorem mc_X9_feed {D : va_G} {al : Nat → Nat} {cA : Nat → ClassId} {ba : Nat} (a0 : Int32) : MCx D al cA ba yX9_feed cX9_feed 2 (some .int) 1 21 rvI [.ref (al 0), .int a0] (F_X9_feed a0) := by
  refine MCx_of (by decide +kernel) (Nat.le_of_ble_eq_true rfl) ?_
  intro p l e s m args below meth c σ0 g hrt
  unfold F_X9_feed
  refine x_lv (lv' := [(0, .ref (al 0)), (1, .int a0)]) [0, 1] rfl ?_
  refine x_iload_n (pc := 0) g rfl 1 rfl dX9_feed_0 ?_
  refine x_if_lt (pc := 1) (tgt := 11) g (by decide) dX9_feed_1 ?_ ?_
  · refine x_iconst (pc := 11) (v := (-1 : Int32)) g (by decide) dX9_feed_11 ?_
    exact x_ireturn (pc := 12) g hrt dX9_feed_12
  · refine x_iload_n (pc := 4) g rfl 1 rfl dX9_feed_4 ?_
    refine x_sipush (pc := 5) (v := (255 : Int32)) g (by decide) dX9_feed_5 ?_
    refine x_icmp_le (pc := 8) (tgt := 13) g (by decide) dX9_feed_8 ?_ ?_
    · refine x_aload_n (pc := 13) g rfl 0 rfl dX9_feed_13 ?_
      refine x_getR (pc := 14) g sh_0 fl_X9_24 rfl dX9_feed_14 ?_
      refine x_iload_n (pc := 17) g rfl 1 rfl dX9_feed_17 ?_
      refine x_callVI (pc := 18) (As := [.int a0]) g sh_2 (mc_X4_write a0) cw_X4_write lk_X9_148 rfl ⟨Nat.le_of_ble_eq_true rfl, Nat.le_of_ble_eq_true rfl⟩ rfl (Nat.le_of_ble_eq_true rfl) dX9_feed_18 (fun v1 σ1 => ?_)
      refine x_if_eq (pc := 21) (tgt := 34) g (by decide) dX9_feed_21 ?_ ?_
      · refine x_bipush (pc := 34) (v := (-3 : Int32)) g (by decide) dX9_feed_34 ?_
        exact x_ireturn (pc := 36) g hrt dX9_feed_36
      · refine x_aload_n (pc := 24) g rfl 0 rfl dX9_feed_24 ?_
        refine x_getR (pc := 25) g sh_0 fl_X9_24 rfl dX9_feed_25 ?_
        refine x_getI (pc := 28) g sh_2 fl_X9_151 rfl dX9_feed_28 ?_
        refine x_goto (pc := 31) (tgt := 36) g (by decide) dX9_feed_31 ?_
        exact x_ireturn (pc := 36) g hrt dX9_feed_36
    · refine x_iconst (pc := 11) (v := (-1 : Int32)) g (by decide) dX9_feed_11 ?_
      exact x_ireturn (pc := 12) g hrt dX9_feed_12
def F_X9_law (N : Nat) (σ0 : Sx) : Option (Int32 × Sx) := clx (F_X4_adopt N  σ0) (fun v1 σ1 => (if v1 < 0 then clx (F_X2_spoil  σ1) (fun _ σ2 => some ((1 : Int32), σ2)) else some (((-100 : Int32) - v1), σ1)))
set_option maxRecDepth 100000 in
set_option maxHeartbeats 4000000 in
theorem mc_X9_law {D : va_G} {al : Nat → Nat} {cA : Nat → ClassId} {ba : Nat} (N : Nat)  : MCx D al cA ba yX9_law cX9_law 2 (some .int) 70 1730 rvI [.ref (al 0)] (F_X9_law N) := by
  refine MCx_of (by decide +kernel) (Nat.le_of_ble_eq_true rfl) ?_
  intro p l e s m args below meth c σ0 g hrt
  unfold F_X9_law
  refine x_lv (lv' := [(0, .ref (al 0))]) [0] rfl ?_
  refine x_aload_n (pc := 0) g rfl 0 rfl dX9_law_0 ?_
  refine x_getR (pc := 1) g sh_0 fl_X9_24 rfl dX9_law_1 ?_
  refine x_callVI (pc := 4) (As := []) g sh_2 (mc_X4_adopt N ) cw_X4_adopt lk_X9_154 rfl ⟨Nat.le_of_ble_eq_true rfl, Nat.le_of_ble_eq_true rfl⟩ rfl (Nat.le_of_ble_eq_true rfl) dX9_law_4 (fun v1 σ1 => ?_)
  refine x_istore_n (pc := 7) (lv' := [(1, .int v1), (0, .ref (al 0))]) g rfl (by decide) rfl dX9_law_7 ?_
  refine x_iload_n (pc := 8) g rfl 0 rfl dX9_law_8 ?_
  refine x_if_lt (pc := 9) (tgt := 17) g (by decide) dX9_law_9 ?_ ?_
  · refine x_aload_n (pc := 17) g rfl 1 rfl dX9_law_17 ?_
    refine x_getR (pc := 18) g sh_0 fl_X9_28 rfl dX9_law_18 ?_
    refine x_callVU (pc := 21) (As := []) g sh_3 (mc_X2_spoil ) cw_X2_spoil lk_X9_96 rfl ⟨Nat.le_of_ble_eq_true rfl, Nat.le_of_ble_eq_true rfl⟩ rfl (Nat.le_of_ble_eq_true rfl) dX9_law_21 (fun _ σ2 => ?_)
    refine x_iconst (pc := 24) (v := (1 : Int32)) g (by decide) dX9_law_24 ?_
    exact x_ireturn (pc := 25) g hrt dX9_law_25
  · refine x_bipush (pc := 12) (v := (-100 : Int32)) g (by decide) dX9_law_12 ?_
    refine x_iload_n (pc := 14) g rfl 0 rfl dX9_law_14 ?_
    refine x_isub (pc := 15) g dX9_law_15 ?_
    exact x_ireturn (pc := 16) g hrt dX9_law_16
def F_X9_holding (N : Nat) (a0 : Int32) (σ0 : Sx) : Option (Int32 × Sx) := (if (-1 : Int32) ≤ a0 then clx (F_X2_settle N  σ0) (fun _ σ1 => (if a0 = (-1 : Int32) then some ((siI σ1 3 10), σ1) else clx (F_X2_heldDay a0 σ1) (fun v1 σ2 => some (v1, σ2)))) else some ((-1 : Int32), σ0))
set_option maxRecDepth 100000 in
set_option maxHeartbeats 4000000 in
theorem mc_X9_holding {D : va_G} {al : Nat → Nat} {cA : Nat → ClassId} {ba : Nat} (N : Nat) (a0 : Int32) : MCx D al cA ba yX9_holding cX9_holding 2 (some .int) 6 146 rvI [.ref (al 0), .int a0] (F_X9_holding N a0) := by
  refine MCx_of (by decide +kernel) (Nat.le_of_ble_eq_true rfl) ?_
  intro p l e s m args below meth c σ0 g hrt
  unfold F_X9_holding
  refine x_lv (lv' := [(0, .ref (al 0)), (1, .int a0)]) [0, 1] rfl ?_
  refine x_iload_n (pc := 0) g rfl 1 rfl dX9_holding_0 ?_
  refine x_iconst (pc := 1) (v := (-1 : Int32)) g (by decide) dX9_holding_1 ?_
  refine x_icmp_ge (pc := 2) (tgt := 7) g (by decide) dX9_holding_2 ?_ ?_
  · refine x_aload_n (pc := 7) g rfl 0 rfl dX9_holding_7 ?_
    refine x_getR (pc := 8) g sh_0 fl_X9_28 rfl dX9_holding_8 ?_
    refine x_callVU (pc := 11) (As := []) g sh_3 (mc_X2_settle N ) cw_X2_settle lk_X9_157 rfl ⟨Nat.le_of_ble_eq_true rfl, Nat.le_of_ble_eq_true rfl⟩ rfl (Nat.le_of_ble_eq_true rfl) dX9_holding_11 (fun _ σ1 => ?_)
    refine x_iload_n (pc := 14) g rfl 1 rfl dX9_holding_14 ?_
    refine x_iconst (pc := 15) (v := (-1 : Int32)) g (by decide) dX9_holding_15 ?_
    refine x_icmp_ne (pc := 16) (tgt := 29) g (by decide) dX9_holding_16 ?_ ?_
    · refine x_aload_n (pc := 29) g rfl 0 rfl dX9_holding_29 ?_
      refine x_getR (pc := 30) g sh_0 fl_X9_28 rfl dX9_holding_30 ?_
      refine x_iload_n (pc := 33) g rfl 1 rfl dX9_holding_33 ?_
      refine x_callVI (pc := 34) (As := [.int a0]) g sh_3 (mc_X2_heldDay a0) cw_X2_heldDay lk_X9_163 rfl ⟨Nat.le_of_ble_eq_true rfl, Nat.le_of_ble_eq_true rfl⟩ rfl (Nat.le_of_ble_eq_true rfl) dX9_holding_34 (fun v1 σ2 => ?_)
      exact x_ireturn (pc := 37) g hrt dX9_holding_37
    · refine x_aload_n (pc := 19) g rfl 0 rfl dX9_holding_19 ?_
      refine x_getR (pc := 20) g sh_0 fl_X9_28 rfl dX9_holding_20 ?_
      refine x_getI (pc := 23) g sh_3 fl_X9_160 rfl dX9_holding_23 ?_
      refine x_goto (pc := 26) (tgt := 37) g (by decide) dX9_holding_26 ?_
      exact x_ireturn (pc := 37) g hrt dX9_holding_37
  · refine x_iconst (pc := 5) (v := (-1 : Int32)) g (by decide) dX9_holding_5 ?_
    exact x_ireturn (pc := 6) g hrt dX9_holding_6
def F_X9_day (N : Nat) (a0 : Int32) (a1 : Int32) (σ0 : Sx) : Option (Int32 × Sx) := clx (F_X8_isDay N a0 σ0) (fun v1 σ1 => (if v1 = 0 then some ((-1 : Int32), σ1) else clx (F_X9_isZeroOrOne a1 σ1) (fun v2 σ2 => (if v2 = 0 then some ((-1 : Int32), σ2) else clx (F_X2_settle N  σ2) (fun _ σ3 => clx (F_X8_waysOn N a0 σ3) (fun v3 σ4 => (if a1 = (1 : Int32) then clx (F_X2_costOf N a0 v3 σ4) (fun v5 σ6 => some (v5, σ6)) else clx (F_X2_isHeld N a0 v3 σ4) (fun v4 σ5 => (if v4 = 0 then some ((0 : Int32), σ5) else some ((1 : Int32), σ5))))))))))
set_option maxRecDepth 100000 in
set_option maxHeartbeats 4000000 in
theorem mc_X9_day {D : va_G} {al : Nat → Nat} {cA : Nat → ClassId} {ba : Nat} (N : Nat) (a0 : Int32) (a1 : Int32) : MCx D al cA ba yX9_day cX9_day 4 (some .int) 6 146 rvI [.ref (al 0), .int a0, .int a1] (F_X9_day N a0 a1) := by
  refine MCx_of (by decide +kernel) (Nat.le_of_ble_eq_true rfl) ?_
  intro p l e s m args below meth c σ0 g hrt
  unfold F_X9_day
  refine x_lv (lv' := [(0, .ref (al 0)), (1, .int a0), (2, .int a1)]) [0, 1, 2] rfl ?_
  refine x_aload_n (pc := 0) g rfl 0 rfl dX9_day_0 ?_
  refine x_getR (pc := 1) g sh_0 fl_X9_18 rfl dX9_day_1 ?_
  refine x_iload_n (pc := 4) g rfl 1 rfl dX9_day_4 ?_
  refine x_callVI (pc := 5) (As := [.int a0]) g sh_1 (mc_X8_isDay N a0) cw_X8_isDay lk_X9_166 rfl ⟨Nat.le_of_ble_eq_true rfl, Nat.le_of_ble_eq_true rfl⟩ rfl (Nat.le_of_ble_eq_true rfl) dX9_day_5 (fun v1 σ1 => ?_)
  refine x_if_eq (pc := 8) (tgt := 18) g (by decide) dX9_day_8 ?_ ?_
  · refine x_iconst (pc := 18) (v := (-1 : Int32)) g (by decide) dX9_day_18 ?_
    exact x_ireturn (pc := 19) g hrt dX9_day_19
  · refine x_iload_n (pc := 11) g rfl 2 rfl dX9_day_11 ?_
    refine x_callSI (pc := 12) (As := [.int a1]) g (mc_X9_isZeroOrOne a1) cw_X9_isZeroOrOne lk_X9_169 rfl ⟨Nat.le_of_ble_eq_true rfl, Nat.le_of_ble_eq_true rfl⟩ rfl (Nat.le_of_ble_eq_true rfl) dX9_day_12 (fun v2 σ2 => ?_)
    refine x_if_ne (pc := 15) (tgt := 20) g (by decide) dX9_day_15 ?_ ?_
    · refine x_aload_n (pc := 20) g rfl 0 rfl dX9_day_20 ?_
      refine x_getR (pc := 21) g sh_0 fl_X9_28 rfl dX9_day_21 ?_
      refine x_callVU (pc := 24) (As := []) g sh_3 (mc_X2_settle N ) cw_X2_settle lk_X9_157 rfl ⟨Nat.le_of_ble_eq_true rfl, Nat.le_of_ble_eq_true rfl⟩ rfl (Nat.le_of_ble_eq_true rfl) dX9_day_24 (fun _ σ3 => ?_)
      refine x_aload_n (pc := 27) g rfl 0 rfl dX9_day_27 ?_
      refine x_getR (pc := 28) g sh_0 fl_X9_18 rfl dX9_day_28 ?_
      refine x_iload_n (pc := 31) g rfl 1 rfl dX9_day_31 ?_
      refine x_callVI (pc := 32) (As := [.int a0]) g sh_1 (mc_X8_waysOn N a0) cw_X8_waysOn lk_X9_172 rfl ⟨Nat.le_of_ble_eq_true rfl, Nat.le_of_ble_eq_true rfl⟩ rfl (Nat.le_of_ble_eq_true rfl) dX9_day_32 (fun v3 σ4 => ?_)
      refine x_istore_n (pc := 35) (lv' := [(3, .int v3), (0, .ref (al 0)), (1, .int a0), (2, .int a1)]) g rfl (by decide) rfl dX9_day_35 ?_
      refine x_iload_n (pc := 36) g rfl 3 rfl dX9_day_36 ?_
      refine x_iconst (pc := 37) (v := (1 : Int32)) g (by decide) dX9_day_37 ?_
      refine x_icmp_ne (pc := 38) (tgt := 51) g (by decide) dX9_day_38 ?_ ?_
      · refine x_aload_n (pc := 51) g rfl 1 rfl dX9_day_51 ?_
        refine x_getR (pc := 52) g sh_0 fl_X9_28 rfl dX9_day_52 ?_
        refine x_iload_n (pc := 55) g rfl 2 rfl dX9_day_55 ?_
        refine x_iload_n (pc := 56) g rfl 0 rfl dX9_day_56 ?_
        refine x_callVI (pc := 57) (As := [.int a0, .int v3]) g sh_3 (mc_X2_isHeld N a0 v3) cw_X2_isHeld lk_X9_178 rfl ⟨Nat.le_of_ble_eq_true rfl, Nat.le_of_ble_eq_true rfl⟩ rfl (Nat.le_of_ble_eq_true rfl) dX9_day_57 (fun v4 σ5 => ?_)
        refine x_if_eq (pc := 60) (tgt := 67) g (by decide) dX9_day_60 ?_ ?_
        · refine x_iconst (pc := 67) (v := (0 : Int32)) g (by decide) dX9_day_67 ?_
          exact x_ireturn (pc := 68) g hrt dX9_day_68
        · refine x_iconst (pc := 63) (v := (1 : Int32)) g (by decide) dX9_day_63 ?_
          refine x_goto (pc := 64) (tgt := 68) g (by decide) dX9_day_64 ?_
          exact x_ireturn (pc := 68) g hrt dX9_day_68
      · refine x_aload_n (pc := 41) g rfl 1 rfl dX9_day_41 ?_
        refine x_getR (pc := 42) g sh_0 fl_X9_28 rfl dX9_day_42 ?_
        refine x_iload_n (pc := 45) g rfl 2 rfl dX9_day_45 ?_
        refine x_iload_n (pc := 46) g rfl 0 rfl dX9_day_46 ?_
        refine x_callVI (pc := 47) (As := [.int a0, .int v3]) g sh_3 (mc_X2_costOf N a0 v3) cw_X2_costOf lk_X9_175 rfl ⟨Nat.le_of_ble_eq_true rfl, Nat.le_of_ble_eq_true rfl⟩ rfl (Nat.le_of_ble_eq_true rfl) dX9_day_47 (fun v5 σ6 => ?_)
        exact x_ireturn (pc := 50) g hrt dX9_day_50
    · refine x_iconst (pc := 18) (v := (-1 : Int32)) g (by decide) dX9_day_18 ?_
      exact x_ireturn (pc := 19) g hrt dX9_day_19
def F_X9_where (N : Nat) (a0 : Int32) (a1 : Int32) (a2 : Int32) (σ0 : Sx) : Option (Int32 × Sx) := clx (F_X8_isDay N a0 σ0) (fun v1 σ1 => (if v1 = 0 then some ((-1 : Int32), σ1) else clx (F_X8_isWalker a1 σ1) (fun v2 σ2 => (if v2 = 0 then some ((-1 : Int32), σ2) else clx (F_X9_isMinute a2 σ2) (fun v3 σ3 => (if v3 = 0 then some ((-1 : Int32), σ3) else clx (F_X8_wayOn a0 a1 σ3) (fun v4 σ4 => clx (F_X8_placeAt N v4 a2 σ4) (fun v5 σ5 => some (v5, σ5)))))))))
set_option maxRecDepth 100000 in
set_option maxHeartbeats 4000000 in
theorem mc_X9_where {D : va_G} {al : Nat → Nat} {cA : Nat → ClassId} {ba : Nat} (N : Nat) (a0 : Int32) (a1 : Int32) (a2 : Int32) : MCx D al cA ba yX9_where cX9_where 4 (some .int) 2 44 rvI [.ref (al 0), .int a0, .int a1, .int a2] (F_X9_where N a0 a1 a2) := by
  refine MCx_of (by decide +kernel) (Nat.le_of_ble_eq_true rfl) ?_
  intro p l e s m args below meth c σ0 g hrt
  unfold F_X9_where
  refine x_lv (lv' := [(0, .ref (al 0)), (1, .int a0), (2, .int a1), (3, .int a2)]) [0, 1, 2, 3] rfl ?_
  refine x_aload_n (pc := 0) g rfl 0 rfl dX9_where_0 ?_
  refine x_getR (pc := 1) g sh_0 fl_X9_18 rfl dX9_where_1 ?_
  refine x_iload_n (pc := 4) g rfl 1 rfl dX9_where_4 ?_
  refine x_callVI (pc := 5) (As := [.int a0]) g sh_1 (mc_X8_isDay N a0) cw_X8_isDay lk_X9_166 rfl ⟨Nat.le_of_ble_eq_true rfl, Nat.le_of_ble_eq_true rfl⟩ rfl (Nat.le_of_ble_eq_true rfl) dX9_where_5 (fun v1 σ1 => ?_)
  refine x_if_eq (pc := 8) (tgt := 29) g (by decide) dX9_where_8 ?_ ?_
  · refine x_iconst (pc := 29) (v := (-1 : Int32)) g (by decide) dX9_where_29 ?_
    exact x_ireturn (pc := 30) g hrt dX9_where_30
  · refine x_aload_n (pc := 11) g rfl 0 rfl dX9_where_11 ?_
    refine x_getR (pc := 12) g sh_0 fl_X9_18 rfl dX9_where_12 ?_
    refine x_iload_n (pc := 15) g rfl 2 rfl dX9_where_15 ?_
    refine x_callVI (pc := 16) (As := [.int a1]) g sh_1 (mc_X8_isWalker a1) cw_X8_isWalker lk_X9_99 rfl ⟨Nat.le_of_ble_eq_true rfl, Nat.le_of_ble_eq_true rfl⟩ rfl (Nat.le_of_ble_eq_true rfl) dX9_where_16 (fun v2 σ2 => ?_)
    refine x_if_eq (pc := 19) (tgt := 29) g (by decide) dX9_where_19 ?_ ?_
    · refine x_iconst (pc := 29) (v := (-1 : Int32)) g (by decide) dX9_where_29 ?_
      exact x_ireturn (pc := 30) g hrt dX9_where_30
    · refine x_iload_n (pc := 22) g rfl 3 rfl dX9_where_22 ?_
      refine x_callSI (pc := 23) (As := [.int a2]) g (mc_X9_isMinute a2) cw_X9_isMinute lk_X9_181 rfl ⟨Nat.le_of_ble_eq_true rfl, Nat.le_of_ble_eq_true rfl⟩ rfl (Nat.le_of_ble_eq_true rfl) dX9_where_23 (fun v3 σ3 => ?_)
      refine x_if_ne (pc := 26) (tgt := 31) g (by decide) dX9_where_26 ?_ ?_
      · refine x_aload_n (pc := 31) g rfl 0 rfl dX9_where_31 ?_
        refine x_getR (pc := 32) g sh_0 fl_X9_18 rfl dX9_where_32 ?_
        refine x_iload_n (pc := 35) g rfl 1 rfl dX9_where_35 ?_
        refine x_iload_n (pc := 36) g rfl 2 rfl dX9_where_36 ?_
        refine x_callSI (pc := 37) (As := [.int a0, .int a1]) g (mc_X8_wayOn a0 a1) cw_X8_wayOn lk_X9_184 rfl ⟨Nat.le_of_ble_eq_true rfl, Nat.le_of_ble_eq_true rfl⟩ rfl (Nat.le_of_ble_eq_true rfl) dX9_where_37 (fun v4 σ4 => ?_)
        refine x_iload_n (pc := 40) g rfl 3 rfl dX9_where_40 ?_
        refine x_callVI (pc := 41) (As := [.int v4, .int a2]) g sh_1 (mc_X8_placeAt N v4 a2) cw_X8_placeAt lk_X9_187 rfl ⟨Nat.le_of_ble_eq_true rfl, Nat.le_of_ble_eq_true rfl⟩ rfl (Nat.le_of_ble_eq_true rfl) dX9_where_41 (fun v5 σ5 => ?_)
        exact x_ireturn (pc := 44) g hrt dX9_where_44
      · refine x_iconst (pc := 29) (v := (-1 : Int32)) g (by decide) dX9_where_29 ?_
        exact x_ireturn (pc := 30) g hrt dX9_where_30
def F_X9_sees (N : Nat) (a0 : Int32) (a1 : Int32) (a2 : Int32) (σ0 : Sx) : Option (Int32 × Sx) := clx (F_X8_isDay N a0 σ0) (fun v1 σ1 => (if v1 = 0 then some ((-1 : Int32), σ1) else clx (F_X9_isPlace a1 σ1) (fun v2 σ2 => (if v2 = 0 then some ((-1 : Int32), σ2) else clx (F_X9_isMinute a2 σ2) (fun v3 σ3 => (if v3 = 0 then some ((-1 : Int32), σ3) else clx (F_X8_tracks N a1 a2 σ3) (fun v4 σ4 => clx (F_X8_waysOn N a0 σ4) (fun v5 σ5 => clx (F_X8_walkersOf (v4 &&& v5) σ5) (fun v6 σ6 => some (v6, σ6))))))))))
set_option maxRecDepth 100000 in
set_option maxHeartbeats 4000000 in
theorem mc_X9_sees {D : va_G} {al : Nat → Nat} {cA : Nat → ClassId} {ba : Nat} (N : Nat) (a0 : Int32) (a1 : Int32) (a2 : Int32) : MCx D al cA ba yX9_sees cX9_sees 4 (some .int) 3 71 rvI [.ref (al 0), .int a0, .int a1, .int a2] (F_X9_sees N a0 a1 a2) := by
  refine MCx_of (by decide +kernel) (Nat.le_of_ble_eq_true rfl) ?_
  intro p l e s m args below meth c σ0 g hrt
  unfold F_X9_sees
  refine x_lv (lv' := [(0, .ref (al 0)), (1, .int a0), (2, .int a1), (3, .int a2)]) [0, 1, 2, 3] rfl ?_
  refine x_aload_n (pc := 0) g rfl 0 rfl dX9_sees_0 ?_
  refine x_getR (pc := 1) g sh_0 fl_X9_18 rfl dX9_sees_1 ?_
  refine x_iload_n (pc := 4) g rfl 1 rfl dX9_sees_4 ?_
  refine x_callVI (pc := 5) (As := [.int a0]) g sh_1 (mc_X8_isDay N a0) cw_X8_isDay lk_X9_166 rfl ⟨Nat.le_of_ble_eq_true rfl, Nat.le_of_ble_eq_true rfl⟩ rfl (Nat.le_of_ble_eq_true rfl) dX9_sees_5 (fun v1 σ1 => ?_)
  refine x_if_eq (pc := 8) (tgt := 25) g (by decide) dX9_sees_8 ?_ ?_
  · refine x_iconst (pc := 25) (v := (-1 : Int32)) g (by decide) dX9_sees_25 ?_
    exact x_ireturn (pc := 26) g hrt dX9_sees_26
  · refine x_iload_n (pc := 11) g rfl 2 rfl dX9_sees_11 ?_
    refine x_callSI (pc := 12) (As := [.int a1]) g (mc_X9_isPlace a1) cw_X9_isPlace lk_X9_190 rfl ⟨Nat.le_of_ble_eq_true rfl, Nat.le_of_ble_eq_true rfl⟩ rfl (Nat.le_of_ble_eq_true rfl) dX9_sees_12 (fun v2 σ2 => ?_)
    refine x_if_eq (pc := 15) (tgt := 25) g (by decide) dX9_sees_15 ?_ ?_
    · refine x_iconst (pc := 25) (v := (-1 : Int32)) g (by decide) dX9_sees_25 ?_
      exact x_ireturn (pc := 26) g hrt dX9_sees_26
    · refine x_iload_n (pc := 18) g rfl 3 rfl dX9_sees_18 ?_
      refine x_callSI (pc := 19) (As := [.int a2]) g (mc_X9_isMinute a2) cw_X9_isMinute lk_X9_181 rfl ⟨Nat.le_of_ble_eq_true rfl, Nat.le_of_ble_eq_true rfl⟩ rfl (Nat.le_of_ble_eq_true rfl) dX9_sees_19 (fun v3 σ3 => ?_)
      refine x_if_ne (pc := 22) (tgt := 27) g (by decide) dX9_sees_22 ?_ ?_
      · refine x_aload_n (pc := 27) g rfl 0 rfl dX9_sees_27 ?_
        refine x_getR (pc := 28) g sh_0 fl_X9_18 rfl dX9_sees_28 ?_
        refine x_iload_n (pc := 31) g rfl 2 rfl dX9_sees_31 ?_
        refine x_iload_n (pc := 32) g rfl 3 rfl dX9_sees_32 ?_
        refine x_callVI (pc := 33) (As := [.int a1, .int a2]) g sh_1 (mc_X8_tracks N a1 a2) cw_X8_tracks lk_X9_193 rfl ⟨Nat.le_of_ble_eq_true rfl, Nat.le_of_ble_eq_true rfl⟩ rfl (Nat.le_of_ble_eq_true rfl) dX9_sees_33 (fun v4 σ4 => ?_)
        refine x_aload_n (pc := 36) g rfl 0 rfl dX9_sees_36 ?_
        refine x_getR (pc := 37) g sh_0 fl_X9_18 rfl dX9_sees_37 ?_
        refine x_iload_n (pc := 40) g rfl 1 rfl dX9_sees_40 ?_
        refine x_callVI (pc := 41) (As := [.int a0]) g sh_1 (mc_X8_waysOn N a0) cw_X8_waysOn lk_X9_172 rfl ⟨Nat.le_of_ble_eq_true rfl, Nat.le_of_ble_eq_true rfl⟩ rfl (Nat.le_of_ble_eq_true rfl) dX9_sees_41 (fun v5 σ5 => ?_)
        refine x_iand (pc := 44) g dX9_sees_44 ?_
        refine x_callSI (pc := 45) (As := [.int (v4 &&& v5)]) g (mc_X8_walkersOf (v4 &&& v5)) cw_X8_walkersOf lk_X9_196 rfl ⟨Nat.le_of_ble_eq_true rfl, Nat.le_of_ble_eq_true rfl⟩ rfl (Nat.le_of_ble_eq_true rfl) dX9_sees_45 (fun v6 σ6 => ?_)
        exact x_ireturn (pc := 48) g hrt dX9_sees_48
      · refine x_iconst (pc := 25) (v := (-1 : Int32)) g (by decide) dX9_sees_25 ?_
        exact x_ireturn (pc := 26) g hrt dX9_sees_26
def F_X9_takes (N : Nat) (a0 : Int32) (a1 : Int32) (σ0 : Sx) : Option (Int32 × Sx) := clx (F_X8_isDay N a0 σ0) (fun v1 σ1 => (if v1 = 0 then some ((-1 : Int32), σ1) else clx (F_X8_isWalker a1 σ1) (fun v2 σ2 => (if v2 = 0 then some ((-1 : Int32), σ2) else clx (F_X2_settle N  σ2) (fun _ σ3 => clx (F_X8_waysOn N a0 σ3) (fun v3 σ4 => clx (F_X2_lawful N a1 v3 σ4) (fun v4 σ5 => some (v4, σ5))))))))
set_option maxRecDepth 100000 in
set_option maxHeartbeats 4000000 in
theorem mc_X9_takes {D : va_G} {al : Nat → Nat} {cA : Nat → ClassId} {ba : Nat} (N : Nat) (a0 : Int32) (a1 : Int32) : MCx D al cA ba yX9_takes cX9_takes 3 (some .int) 6 146 rvI [.ref (al 0), .int a0, .int a1] (F_X9_takes N a0 a1) := by
  refine MCx_of (by decide +kernel) (Nat.le_of_ble_eq_true rfl) ?_
  intro p l e s m args below meth c σ0 g hrt
  unfold F_X9_takes
  refine x_lv (lv' := [(0, .ref (al 0)), (1, .int a0), (2, .int a1)]) [0, 1, 2] rfl ?_
  refine x_aload_n (pc := 0) g rfl 0 rfl dX9_takes_0 ?_
  refine x_getR (pc := 1) g sh_0 fl_X9_18 rfl dX9_takes_1 ?_
  refine x_iload_n (pc := 4) g rfl 1 rfl dX9_takes_4 ?_
  refine x_callVI (pc := 5) (As := [.int a0]) g sh_1 (mc_X8_isDay N a0) cw_X8_isDay lk_X9_166 rfl ⟨Nat.le_of_ble_eq_true rfl, Nat.le_of_ble_eq_true rfl⟩ rfl (Nat.le_of_ble_eq_true rfl) dX9_takes_5 (fun v1 σ1 => ?_)
  refine x_if_eq (pc := 8) (tgt := 22) g (by decide) dX9_takes_8 ?_ ?_
  · refine x_iconst (pc := 22) (v := (-1 : Int32)) g (by decide) dX9_takes_22 ?_
    exact x_ireturn (pc := 23) g hrt dX9_takes_23
  · refine x_aload_n (pc := 11) g rfl 0 rfl dX9_takes_11 ?_
    refine x_getR (pc := 12) g sh_0 fl_X9_18 rfl dX9_takes_12 ?_
    refine x_iload_n (pc := 15) g rfl 2 rfl dX9_takes_15 ?_
    refine x_callVI (pc := 16) (As := [.int a1]) g sh_1 (mc_X8_isWalker a1) cw_X8_isWalker lk_X9_99 rfl ⟨Nat.le_of_ble_eq_true rfl, Nat.le_of_ble_eq_true rfl⟩ rfl (Nat.le_of_ble_eq_true rfl) dX9_takes_16 (fun v2 σ2 => ?_)
    refine x_if_ne (pc := 19) (tgt := 24) g (by decide) dX9_takes_19 ?_ ?_
    · refine x_aload_n (pc := 24) g rfl 0 rfl dX9_takes_24 ?_
      refine x_getR (pc := 25) g sh_0 fl_X9_28 rfl dX9_takes_25 ?_
      refine x_callVU (pc := 28) (As := []) g sh_3 (mc_X2_settle N ) cw_X2_settle lk_X9_157 rfl ⟨Nat.le_of_ble_eq_true rfl, Nat.le_of_ble_eq_true rfl⟩ rfl (Nat.le_of_ble_eq_true rfl) dX9_takes_28 (fun _ σ3 => ?_)
      refine x_aload_n (pc := 31) g rfl 0 rfl dX9_takes_31 ?_
      refine x_getR (pc := 32) g sh_0 fl_X9_28 rfl dX9_takes_32 ?_
      refine x_iload_n (pc := 35) g rfl 2 rfl dX9_takes_35 ?_
      refine x_aload_n (pc := 36) g rfl 0 rfl dX9_takes_36 ?_
      refine x_getR (pc := 37) g sh_0 fl_X9_18 rfl dX9_takes_37 ?_
      refine x_iload_n (pc := 40) g rfl 1 rfl dX9_takes_40 ?_
      refine x_callVI (pc := 41) (As := [.int a0]) g sh_1 (mc_X8_waysOn N a0) cw_X8_waysOn lk_X9_172 rfl ⟨Nat.le_of_ble_eq_true rfl, Nat.le_of_ble_eq_true rfl⟩ rfl (Nat.le_of_ble_eq_true rfl) dX9_takes_41 (fun v3 σ4 => ?_)
      refine x_callVI (pc := 44) (As := [.int a1, .int v3]) g sh_3 (mc_X2_lawful N a1 v3) cw_X2_lawful lk_X9_199 rfl ⟨Nat.le_of_ble_eq_true rfl, Nat.le_of_ble_eq_true rfl⟩ rfl (Nat.le_of_ble_eq_true rfl) dX9_takes_44 (fun v4 σ5 => ?_)
      exact x_ireturn (pc := 47) g hrt dX9_takes_47
    · refine x_iconst (pc := 22) (v := (-1 : Int32)) g (by decide) dX9_takes_22 ?_
      exact x_ireturn (pc := 23) g hrt dX9_takes_23
def F_X9_meet (N : Nat) (a0 : Int32) (a1 : Int32) (σ0 : Sx) : Option (Int32 × Sx) := clx (F_X8_isDay N a0 σ0) (fun v1 σ1 => (if v1 = 0 then some ((-1 : Int32), σ1) else clx (F_X9_isZeroOrOne a1 σ1) (fun v2 σ2 => (if v2 = 0 then some ((-1 : Int32), σ2) else (if a1 = 0 then clx (F_X8_meetings N a0 σ2) (fun v4 σ4 => some (v4, σ4)) else clx (F_X8_firstMeeting N a0 σ2) (fun v3 σ3 => some (v3, σ3)))))))
set_option maxRecDepth 100000 in
set_option maxHeartbeats 4000000 in
theorem mc_X9_meet {D : va_G} {al : Nat → Nat} {cA : Nat → ClassId} {ba : Nat} (N : Nat) (a0 : Int32) (a1 : Int32) : MCx D al cA ba yX9_meet cX9_meet 3 (some .int) 3 71 rvI [.ref (al 0), .int a0, .int a1] (F_X9_meet N a0 a1) := by
  refine MCx_of (by decide +kernel) (Nat.le_of_ble_eq_true rfl) ?_
  intro p l e s m args below meth c σ0 g hrt
  unfold F_X9_meet
  refine x_lv (lv' := [(0, .ref (al 0)), (1, .int a0), (2, .int a1)]) [0, 1, 2] rfl ?_
  refine x_aload_n (pc := 0) g rfl 0 rfl dX9_meet_0 ?_
  refine x_getR (pc := 1) g sh_0 fl_X9_18 rfl dX9_meet_1 ?_
  refine x_iload_n (pc := 4) g rfl 1 rfl dX9_meet_4 ?_
  refine x_callVI (pc := 5) (As := [.int a0]) g sh_1 (mc_X8_isDay N a0) cw_X8_isDay lk_X9_166 rfl ⟨Nat.le_of_ble_eq_true rfl, Nat.le_of_ble_eq_true rfl⟩ rfl (Nat.le_of_ble_eq_true rfl) dX9_meet_5 (fun v1 σ1 => ?_)
  refine x_if_eq (pc := 8) (tgt := 18) g (by decide) dX9_meet_8 ?_ ?_
  · refine x_iconst (pc := 18) (v := (-1 : Int32)) g (by decide) dX9_meet_18 ?_
    exact x_ireturn (pc := 19) g hrt dX9_meet_19
  · refine x_iload_n (pc := 11) g rfl 2 rfl dX9_meet_11 ?_
    refine x_callSI (pc := 12) (As := [.int a1]) g (mc_X9_isZeroOrOne a1) cw_X9_isZeroOrOne lk_X9_169 rfl ⟨Nat.le_of_ble_eq_true rfl, Nat.le_of_ble_eq_true rfl⟩ rfl (Nat.le_of_ble_eq_true rfl) dX9_meet_12 (fun v2 σ2 => ?_)
    refine x_if_ne (pc := 15) (tgt := 20) g (by decide) dX9_meet_15 ?_ ?_
    · refine x_iload_n (pc := 20) g rfl 2 rfl dX9_meet_20 ?_
      refine x_if_ne (pc := 21) (tgt := 35) g (by decide) dX9_meet_21 ?_ ?_
      · refine x_aload_n (pc := 35) g rfl 0 rfl dX9_meet_35 ?_
        refine x_getR (pc := 36) g sh_0 fl_X9_18 rfl dX9_meet_36 ?_
        refine x_iload_n (pc := 39) g rfl 1 rfl dX9_meet_39 ?_
        refine x_callVI (pc := 40) (As := [.int a0]) g sh_1 (mc_X8_firstMeeting N a0) cw_X8_firstMeeting lk_X9_205 rfl ⟨Nat.le_of_ble_eq_true rfl, Nat.le_of_ble_eq_true rfl⟩ rfl (Nat.le_of_ble_eq_true rfl) dX9_meet_40 (fun v3 σ3 => ?_)
        exact x_ireturn (pc := 43) g hrt dX9_meet_43
      · refine x_aload_n (pc := 24) g rfl 0 rfl dX9_meet_24 ?_
        refine x_getR (pc := 25) g sh_0 fl_X9_18 rfl dX9_meet_25 ?_
        refine x_iload_n (pc := 28) g rfl 1 rfl dX9_meet_28 ?_
        refine x_callVI (pc := 29) (As := [.int a0]) g sh_1 (mc_X8_meetings N a0) cw_X8_meetings lk_X9_202 rfl ⟨Nat.le_of_ble_eq_true rfl, Nat.le_of_ble_eq_true rfl⟩ rfl (Nat.le_of_ble_eq_true rfl) dX9_meet_29 (fun v4 σ4 => ?_)
        refine x_goto (pc := 32) (tgt := 43) g (by decide) dX9_meet_32 ?_
        exact x_ireturn (pc := 43) g hrt dX9_meet_43
    · refine x_iconst (pc := 18) (v := (-1 : Int32)) g (by decide) dX9_meet_18 ?_
      exact x_ireturn (pc := 19) g hrt dX9_meet_19
def F_X9_sure (N : Nat) (a0 : Int32) (a1 : Int32) (σ0 : Sx) : Option (Int32 × Sx) := clx (F_X8_isWalker a0 σ0) (fun v1 σ1 => (if v1 = 0 then some ((-1 : Int32), σ1) else clx (F_X9_isMinute a1 σ1) (fun v2 σ2 => (if v2 = 0 then some ((-1 : Int32), σ2) else clx (F_X2_settle N  σ2) (fun _ σ3 => clx (F_X5_surePlace N a0 a1 σ3) (fun v3 σ4 => some (v3, σ4)))))))
set_option maxRecDepth 100000 in
set_option maxHeartbeats 4000000 in
theorem mc_X9_sure {D : va_G} {al : Nat → Nat} {cA : Nat → ClassId} {ba : Nat} (N : Nat) (a0 : Int32) (a1 : Int32) : MCx D al cA ba yX9_sure cX9_sure 3 (some .int) 6 146 rvI [.ref (al 0), .int a0, .int a1] (F_X9_sure N a0 a1) := by
  refine MCx_of (by decide +kernel) (Nat.le_of_ble_eq_true rfl) ?_
  intro p l e s m args below meth c σ0 g hrt
  unfold F_X9_sure
  refine x_lv (lv' := [(0, .ref (al 0)), (1, .int a0), (2, .int a1)]) [0, 1, 2] rfl ?_
  refine x_aload_n (pc := 0) g rfl 0 rfl dX9_sure_0 ?_
  refine x_getR (pc := 1) g sh_0 fl_X9_18 rfl dX9_sure_1 ?_
  refine x_iload_n (pc := 4) g rfl 1 rfl dX9_sure_4 ?_
  refine x_callVI (pc := 5) (As := [.int a0]) g sh_1 (mc_X8_isWalker a0) cw_X8_isWalker lk_X9_99 rfl ⟨Nat.le_of_ble_eq_true rfl, Nat.le_of_ble_eq_true rfl⟩ rfl (Nat.le_of_ble_eq_true rfl) dX9_sure_5 (fun v1 σ1 => ?_)
  refine x_if_eq (pc := 8) (tgt := 18) g (by decide) dX9_sure_8 ?_ ?_
  · refine x_iconst (pc := 18) (v := (-1 : Int32)) g (by decide) dX9_sure_18 ?_
    exact x_ireturn (pc := 19) g hrt dX9_sure_19
  · refine x_iload_n (pc := 11) g rfl 2 rfl dX9_sure_11 ?_
    refine x_callSI (pc := 12) (As := [.int a1]) g (mc_X9_isMinute a1) cw_X9_isMinute lk_X9_181 rfl ⟨Nat.le_of_ble_eq_true rfl, Nat.le_of_ble_eq_true rfl⟩ rfl (Nat.le_of_ble_eq_true rfl) dX9_sure_12 (fun v2 σ2 => ?_)
    refine x_if_ne (pc := 15) (tgt := 20) g (by decide) dX9_sure_15 ?_ ?_
    · refine x_aload_n (pc := 20) g rfl 0 rfl dX9_sure_20 ?_
      refine x_getR (pc := 21) g sh_0 fl_X9_28 rfl dX9_sure_21 ?_
      refine x_callVU (pc := 24) (As := []) g sh_3 (mc_X2_settle N ) cw_X2_settle lk_X9_157 rfl ⟨Nat.le_of_ble_eq_true rfl, Nat.le_of_ble_eq_true rfl⟩ rfl (Nat.le_of_ble_eq_true rfl) dX9_sure_24 (fun _ σ3 => ?_)
      refine x_aload_n (pc := 27) g rfl 0 rfl dX9_sure_27 ?_
      refine x_getR (pc := 28) g sh_0 fl_X9_37 rfl dX9_sure_28 ?_
      refine x_iload_n (pc := 31) g rfl 1 rfl dX9_sure_31 ?_
      refine x_iload_n (pc := 32) g rfl 2 rfl dX9_sure_32 ?_
      refine x_callVI (pc := 33) (As := [.int a0, .int a1]) g sh_4 (mc_X5_surePlace N a0 a1) cw_X5_surePlace lk_X9_208 rfl ⟨Nat.le_of_ble_eq_true rfl, Nat.le_of_ble_eq_true rfl⟩ rfl (Nat.le_of_ble_eq_true rfl) dX9_sure_33 (fun v3 σ4 => ?_)
      exact x_ireturn (pc := 36) g hrt dX9_sure_36
    · refine x_iconst (pc := 18) (v := (-1 : Int32)) g (by decide) dX9_sure_18 ?_
      exact x_ireturn (pc := 19) g hrt dX9_sure_19
def F_X9_follow (N : Nat) (a0 : Int32) (a1 : Int32) (σ0 : Sx) : Option (Int32 × Sx) := clx (F_X8_isDay N a0 σ0) (fun v1 σ1 => (if v1 = 0 then some ((-1 : Int32), σ1) else (if a1 < 0 then some ((-1 : Int32), σ1) else (if a1 ≤ (2 : Int32) then clx (F_X2_settle N  σ1) (fun _ σ2 => clx (F_X2_followed N a0 a1 σ2) (fun v2 σ3 => some (v2, σ3))) else some ((-1 : Int32), σ1)))))
set_option maxRecDepth 100000 in
set_option maxHeartbeats 4000000 in
theorem mc_X9_follow {D : va_G} {al : Nat → Nat} {cA : Nat → ClassId} {ba : Nat} (N : Nat) (a0 : Int32) (a1 : Int32) : MCx D al cA ba yX9_follow cX9_follow 3 (some .int) 6 146 rvI [.ref (al 0), .int a0, .int a1] (F_X9_follow N a0 a1) := by
  refine MCx_of (by decide +kernel) (Nat.le_of_ble_eq_true rfl) ?_
  intro p l e s m args below meth c σ0 g hrt
  unfold F_X9_follow
  refine x_lv (lv' := [(0, .ref (al 0)), (1, .int a0), (2, .int a1)]) [0, 1, 2] rfl ?_
  refine x_aload_n (pc := 0) g rfl 0 rfl dX9_follow_0 ?_
  refine x_getR (pc := 1) g sh_0 fl_X9_18 rfl dX9_follow_1 ?_
  refine x_iload_n (pc := 4) g rfl 1 rfl dX9_follow_4 ?_
  refine x_callVI (pc := 5) (As := [.int a0]) g sh_1 (mc_X8_isDay N a0) cw_X8_isDay lk_X9_166 rfl ⟨Nat.le_of_ble_eq_true rfl, Nat.le_of_ble_eq_true rfl⟩ rfl (Nat.le_of_ble_eq_true rfl) dX9_follow_5 (fun v1 σ1 => ?_)
  refine x_if_eq (pc := 8) (tgt := 20) g (by decide) dX9_follow_8 ?_ ?_
  · refine x_iconst (pc := 20) (v := (-1 : Int32)) g (by decide) dX9_follow_20 ?_
    exact x_ireturn (pc := 21) g hrt dX9_follow_21
  · refine x_iload_n (pc := 11) g rfl 2 rfl dX9_follow_11 ?_
    refine x_if_lt (pc := 12) (tgt := 20) g (by decide) dX9_follow_12 ?_ ?_
    · refine x_iconst (pc := 20) (v := (-1 : Int32)) g (by decide) dX9_follow_20 ?_
      exact x_ireturn (pc := 21) g hrt dX9_follow_21
    · refine x_iload_n (pc := 15) g rfl 2 rfl dX9_follow_15 ?_
      refine x_iconst (pc := 16) (v := (2 : Int32)) g (by decide) dX9_follow_16 ?_
      refine x_icmp_le (pc := 17) (tgt := 22) g (by decide) dX9_follow_17 ?_ ?_
      · refine x_aload_n (pc := 22) g rfl 0 rfl dX9_follow_22 ?_
        refine x_getR (pc := 23) g sh_0 fl_X9_28 rfl dX9_follow_23 ?_
        refine x_callVU (pc := 26) (As := []) g sh_3 (mc_X2_settle N ) cw_X2_settle lk_X9_157 rfl ⟨Nat.le_of_ble_eq_true rfl, Nat.le_of_ble_eq_true rfl⟩ rfl (Nat.le_of_ble_eq_true rfl) dX9_follow_26 (fun _ σ2 => ?_)
        refine x_aload_n (pc := 29) g rfl 0 rfl dX9_follow_29 ?_
        refine x_getR (pc := 30) g sh_0 fl_X9_28 rfl dX9_follow_30 ?_
        refine x_iload_n (pc := 33) g rfl 1 rfl dX9_follow_33 ?_
        refine x_iload_n (pc := 34) g rfl 2 rfl dX9_follow_34 ?_
        refine x_callVI (pc := 35) (As := [.int a0, .int a1]) g sh_3 (mc_X2_followed N a0 a1) cw_X2_followed lk_X9_211 rfl ⟨Nat.le_of_ble_eq_true rfl, Nat.le_of_ble_eq_true rfl⟩ rfl (Nat.le_of_ble_eq_true rfl) dX9_follow_35 (fun v2 σ3 => ?_)
        exact x_ireturn (pc := 38) g hrt dX9_follow_38
      · refine x_iconst (pc := 20) (v := (-1 : Int32)) g (by decide) dX9_follow_20 ?_
        exact x_ireturn (pc := 21) g hrt dX9_follow_21
def F_X9_read (N : Nat) (a0 : Int32) (a1 : Int32) (σ0 : Sx) : Option (Int32 × Sx) := clx (F_X9_isShelf a0 σ0) (fun v1 σ1 => (if v1 = 0 then some ((-1 : Int32), σ1) else (if a1 < 0 then some ((-1 : Int32), σ1) else (if a1 ≤ (2 : Int32) then clx (F_X2_settle N  σ1) (fun _ σ2 => aRx 6 a0 (fun k11 => clx (F_X5_narrowBy N k11 σ2) (fun v2 σ3 => (if v2 = 0 then (if a1 = 0 then some ((siI σ3 4 3), σ3) else (if a1 = (1 : Int32) then clx (F_X5_firstFitting  σ3) (fun v4 σ5 => some (v4, σ5)) else clx (F_X5_alikeWalkers N  σ3) (fun v3 σ4 => some (v3, σ4)))) else some (v2, σ3))))) else some ((-1 : Int32), σ1)))))
set_option maxRecDepth 100000 in
set_option maxHeartbeats 4000000 in
theorem mc_X9_read {D : va_G} {al : Nat → Nat} {cA : Nat → ClassId} {ba : Nat} (N : Nat) (a0 : Int32) (a1 : Int32) : MCx D al cA ba yX9_read cX9_read 4 (some .int) 6 146 rvI [.ref (al 0), .int a0, .int a1] (F_X9_read N a0 a1) := by
  refine MCx_of (by decide +kernel) (Nat.le_of_ble_eq_true rfl) ?_
  intro p l e s m args below meth c σ0 g hrt
  unfold F_X9_read
  refine x_lv (lv' := [(0, .ref (al 0)), (1, .int a0), (2, .int a1)]) [0, 1, 2] rfl ?_
  refine x_iload_n (pc := 0) g rfl 1 rfl dX9_read_0 ?_
  refine x_callSI (pc := 1) (As := [.int a0]) g (mc_X9_isShelf a0) cw_X9_isShelf lk_X9_107 rfl ⟨Nat.le_of_ble_eq_true rfl, Nat.le_of_ble_eq_true rfl⟩ rfl (Nat.le_of_ble_eq_true rfl) dX9_read_1 (fun v1 σ1 => ?_)
  refine x_if_eq (pc := 4) (tgt := 16) g (by decide) dX9_read_4 ?_ ?_
  · refine x_iconst (pc := 16) (v := (-1 : Int32)) g (by decide) dX9_read_16 ?_
    exact x_ireturn (pc := 17) g hrt dX9_read_17
  · refine x_iload_n (pc := 7) g rfl 2 rfl dX9_read_7 ?_
    refine x_if_lt (pc := 8) (tgt := 16) g (by decide) dX9_read_8 ?_ ?_
    · refine x_iconst (pc := 16) (v := (-1 : Int32)) g (by decide) dX9_read_16 ?_
      exact x_ireturn (pc := 17) g hrt dX9_read_17
    · refine x_iload_n (pc := 11) g rfl 2 rfl dX9_read_11 ?_
      refine x_iconst (pc := 12) (v := (2 : Int32)) g (by decide) dX9_read_12 ?_
      refine x_icmp_le (pc := 13) (tgt := 18) g (by decide) dX9_read_13 ?_ ?_
      · refine x_aload_n (pc := 18) g rfl 0 rfl dX9_read_18 ?_
        refine x_getR (pc := 19) g sh_0 fl_X9_28 rfl dX9_read_19 ?_
        refine x_callVU (pc := 22) (As := []) g sh_3 (mc_X2_settle N ) cw_X2_settle lk_X9_157 rfl ⟨Nat.le_of_ble_eq_true rfl, Nat.le_of_ble_eq_true rfl⟩ rfl (Nat.le_of_ble_eq_true rfl) dX9_read_22 (fun _ σ2 => ?_)
        refine x_aload_n (pc := 25) g rfl 0 rfl dX9_read_25 ?_
        refine x_getR (pc := 26) g sh_0 fl_X9_37 rfl dX9_read_26 ?_
        refine x_aload_n (pc := 29) g rfl 0 rfl dX9_read_29 ?_
        refine x_getR (pc := 30) g sh_0 fl_X9_72 rfl dX9_read_30 ?_
        refine x_iload_n (pc := 33) g rfl 1 rfl dX9_read_33 ?_
        refine x_aaldS (pc := 34) g sh_9 (by decide) dX9_read_34 (fun k11 hk11 => ?_)
        refine x_callVI (pc := 35) (As := [.ref (al (10 + k11))]) g sh_4 (mc_X5_narrowBy N k11 hk11) cw_X5_narrowBy lk_X9_214 rfl ⟨Nat.le_of_ble_eq_true rfl, Nat.le_of_ble_eq_true rfl⟩ rfl (Nat.le_of_ble_eq_true rfl) dX9_read_35 (fun v2 σ3 => ?_)
        refine x_istore_n (pc := 38) (lv' := [(3, .int v2), (0, .ref (al 0)), (1, .int a0), (2, .int a1)]) g rfl (by decide) rfl dX9_read_38 ?_
        refine x_iload_n (pc := 39) g rfl 0 rfl dX9_read_39 ?_
        refine x_if_eq (pc := 40) (tgt := 45) g (by decide) dX9_read_40 ?_ ?_
        · refine x_iload_n (pc := 45) g rfl 3 rfl dX9_read_45 ?_
          refine x_if_ne (pc := 46) (tgt := 57) g (by decide) dX9_read_46 ?_ ?_
          · refine x_iload_n (pc := 57) g rfl 3 rfl dX9_read_57 ?_
            refine x_iconst (pc := 58) (v := (1 : Int32)) g (by decide) dX9_read_58 ?_
            refine x_icmp_ne (pc := 59) (tgt := 72) g (by decide) dX9_read_59 ?_ ?_
            · refine x_aload_n (pc := 72) g rfl 1 rfl dX9_read_72 ?_
              refine x_getR (pc := 73) g sh_0 fl_X9_37 rfl dX9_read_73 ?_
              refine x_callVI (pc := 76) (As := []) g sh_4 (mc_X5_alikeWalkers N ) cw_X5_alikeWalkers lk_X9_224 rfl ⟨Nat.le_of_ble_eq_true rfl, Nat.le_of_ble_eq_true rfl⟩ rfl (Nat.le_of_ble_eq_true rfl) dX9_read_76 (fun v3 σ4 => ?_)
              exact x_ireturn (pc := 79) g hrt dX9_read_79
            · refine x_aload_n (pc := 62) g rfl 1 rfl dX9_read_62 ?_
              refine x_getR (pc := 63) g sh_0 fl_X9_37 rfl dX9_read_63 ?_
              refine x_callVI (pc := 66) (As := []) g sh_4 (mc_X5_firstFitting ) cw_X5_firstFitting lk_X9_221 rfl ⟨Nat.le_of_ble_eq_true rfl, Nat.le_of_ble_eq_true rfl⟩ rfl (Nat.le_of_ble_eq_true rfl) dX9_read_66 (fun v4 σ5 => ?_)
              refine x_goto (pc := 69) (tgt := 79) g (by decide) dX9_read_69 ?_
              exact x_ireturn (pc := 79) g hrt dX9_read_79
          · refine x_aload_n (pc := 49) g rfl 1 rfl dX9_read_49 ?_
            refine x_getR (pc := 50) g sh_0 fl_X9_37 rfl dX9_read_50 ?_
            refine x_getI (pc := 53) g sh_4 fl_X9_218 rfl dX9_read_53 ?_
            exact x_ireturn (pc := 56) g hrt dX9_read_56
        · refine x_iload_n (pc := 43) g rfl 0 rfl dX9_read_43 ?_
          exact x_ireturn (pc := 44) g hrt dX9_read_44
      · refine x_iconst (pc := 16) (v := (-1 : Int32)) g (by decide) dX9_read_16 ?_
        exact x_ireturn (pc := 17) g hrt dX9_read_17
def F_X9_look (N : Nat) (a0 : Int32) (σ0 : Sx) : Option (Int32 × Sx) := clx (F_X9_isShelf a0 σ0) (fun v1 σ1 => (if v1 = 0 then some ((-1 : Int32), σ1) else clx (F_X2_settle N  σ1) (fun _ σ2 => aRx 6 a0 (fun k11 => clx (F_X5_narrowBy N k11 σ2) (fun v2 σ3 => (if v2 = 0 then (if (2 : Int32) ≤ (siI σ3 4 3) then clx (F_X5_bestLook N  σ3) (fun v3 σ4 => some (v3, σ4)) else some ((-2 : Int32), σ3)) else some (v2, σ3)))))))
set_option maxRecDepth 100000 in
set_option maxHeartbeats 4000000 in
theorem mc_X9_look {D : va_G} {al : Nat → Nat} {cA : Nat → ClassId} {ba : Nat} (N : Nat) (a0 : Int32) : MCx D al cA ba yX9_look cX9_look 3 (some .int) 6 146 rvI [.ref (al 0), .int a0] (F_X9_look N a0) := by
  refine MCx_of (by decide +kernel) (Nat.le_of_ble_eq_true rfl) ?_
  intro p l e s m args below meth c σ0 g hrt
  unfold F_X9_look
  refine x_lv (lv' := [(0, .ref (al 0)), (1, .int a0)]) [0, 1] rfl ?_
  refine x_iload_n (pc := 0) g rfl 1 rfl dX9_look_0 ?_
  refine x_callSI (pc := 1) (As := [.int a0]) g (mc_X9_isShelf a0) cw_X9_isShelf lk_X9_107 rfl ⟨Nat.le_of_ble_eq_true rfl, Nat.le_of_ble_eq_true rfl⟩ rfl (Nat.le_of_ble_eq_true rfl) dX9_look_1 (fun v1 σ1 => ?_)
  refine x_if_ne (pc := 4) (tgt := 9) g (by decide) dX9_look_4 ?_ ?_
  · refine x_aload_n (pc := 9) g rfl 0 rfl dX9_look_9 ?_
    refine x_getR (pc := 10) g sh_0 fl_X9_28 rfl dX9_look_10 ?_
    refine x_callVU (pc := 13) (As := []) g sh_3 (mc_X2_settle N ) cw_X2_settle lk_X9_157 rfl ⟨Nat.le_of_ble_eq_true rfl, Nat.le_of_ble_eq_true rfl⟩ rfl (Nat.le_of_ble_eq_true rfl) dX9_look_13 (fun _ σ2 => ?_)
    refine x_aload_n (pc := 16) g rfl 0 rfl dX9_look_16 ?_
    refine x_getR (pc := 17) g sh_0 fl_X9_37 rfl dX9_look_17 ?_
    refine x_aload_n (pc := 20) g rfl 0 rfl dX9_look_20 ?_
    refine x_getR (pc := 21) g sh_0 fl_X9_72 rfl dX9_look_21 ?_
    refine x_iload_n (pc := 24) g rfl 1 rfl dX9_look_24 ?_
    refine x_aaldS (pc := 25) g sh_9 (by decide) dX9_look_25 (fun k11 hk11 => ?_)
    refine x_callVI (pc := 26) (As := [.ref (al (10 + k11))]) g sh_4 (mc_X5_narrowBy N k11 hk11) cw_X5_narrowBy lk_X9_214 rfl ⟨Nat.le_of_ble_eq_true rfl, Nat.le_of_ble_eq_true rfl⟩ rfl (Nat.le_of_ble_eq_true rfl) dX9_look_26 (fun v2 σ3 => ?_)
    refine x_istore_n (pc := 29) (lv' := [(2, .int v2), (0, .ref (al 0)), (1, .int a0)]) g rfl (by decide) rfl dX9_look_29 ?_
    refine x_iload_n (pc := 30) g rfl 0 rfl dX9_look_30 ?_
    refine x_if_eq (pc := 31) (tgt := 36) g (by decide) dX9_look_31 ?_ ?_
    · refine x_aload_n (pc := 36) g rfl 1 rfl dX9_look_36 ?_
      refine x_getR (pc := 37) g sh_0 fl_X9_37 rfl dX9_look_37 ?_
      refine x_getI (pc := 40) g sh_4 fl_X9_218 rfl dX9_look_40 ?_
      refine x_iconst (pc := 43) (v := (2 : Int32)) g (by decide) dX9_look_43 ?_
      refine x_icmp_ge (pc := 44) (tgt := 52) g (by decide) dX9_look_44 ?_ ?_
      · refine x_aload_n (pc := 52) g rfl 1 rfl dX9_look_52 ?_
        refine x_getR (pc := 53) g sh_0 fl_X9_37 rfl dX9_look_53 ?_
        refine x_callVI (pc := 56) (As := []) g sh_4 (mc_X5_bestLook N ) cw_X5_bestLook lk_X9_227 rfl ⟨Nat.le_of_ble_eq_true rfl, Nat.le_of_ble_eq_true rfl⟩ rfl (Nat.le_of_ble_eq_true rfl) dX9_look_56 (fun v3 σ4 => ?_)
        exact x_ireturn (pc := 59) g hrt dX9_look_59
      · refine x_bipush (pc := 47) (v := (-2 : Int32)) g (by decide) dX9_look_47 ?_
        refine x_goto (pc := 49) (tgt := 59) g (by decide) dX9_look_49 ?_
        exact x_ireturn (pc := 59) g hrt dX9_look_59
    · refine x_iload_n (pc := 34) g rfl 0 rfl dX9_look_34 ?_
      exact x_ireturn (pc := 35) g hrt dX9_look_35
  · refine x_iconst (pc := 7) (v := (-1 : Int32)) g (by decide) dX9_look_7 ?_
    exact x_ireturn (pc := 8) g hrt dX9_look_8
def F_X9_cheapest (N : Nat) (a0 : Int32) (a1 : Int32) (a2 : Int32) (σ0 : Sx) : Option (Int32 × Sx) := clx (F_X8_isWalker a0 σ0) (fun v1 σ1 => (if v1 = 0 then some ((-1 : Int32), σ1) else clx (F_X9_isPlace a1 σ1) (fun v2 σ2 => (if v2 = 0 then some ((-1 : Int32), σ2) else clx (F_X9_isZeroOrOne a2 σ2) (fun v3 σ3 => (if v3 = 0 then some ((-1 : Int32), σ3) else clx (F_X2_settle N  σ3) (fun _ σ4 => clx (F_X5_cheapestWithout N a0 a1 a2 σ4) (fun v4 σ5 => some (v4, σ5)))))))))
set_option maxRecDepth 100000 in
set_option maxHeartbeats 4000000 in
theorem mc_X9_cheapest {D : va_G} {al : Nat → Nat} {cA : Nat → ClassId} {ba : Nat} (N : Nat) (a0 : Int32) (a1 : Int32) (a2 : Int32) : MCx D al cA ba yX9_cheapest cX9_cheapest 4 (some .int) 6 146 rvI [.ref (al 0), .int a0, .int a1, .int a2] (F_X9_cheapest N a0 a1 a2) := by
  refine MCx_of (by decide +kernel) (Nat.le_of_ble_eq_true rfl) ?_
  intro p l e s m args below meth c σ0 g hrt
  unfold F_X9_cheapest
  refine x_lv (lv' := [(0, .ref (al 0)), (1, .int a0), (2, .int a1), (3, .int a2)]) [0, 1, 2, 3] rfl ?_
  refine x_aload_n (pc := 0) g rfl 0 rfl dX9_cheapest_0 ?_
  refine x_getR (pc := 1) g sh_0 fl_X9_18 rfl dX9_cheapest_1 ?_
  refine x_iload_n (pc := 4) g rfl 1 rfl dX9_cheapest_4 ?_
  refine x_callVI (pc := 5) (As := [.int a0]) g sh_1 (mc_X8_isWalker a0) cw_X8_isWalker lk_X9_99 rfl ⟨Nat.le_of_ble_eq_true rfl, Nat.le_of_ble_eq_true rfl⟩ rfl (Nat.le_of_ble_eq_true rfl) dX9_cheapest_5 (fun v1 σ1 => ?_)
  refine x_if_eq (pc := 8) (tgt := 25) g (by decide) dX9_cheapest_8 ?_ ?_
  · refine x_iconst (pc := 25) (v := (-1 : Int32)) g (by decide) dX9_cheapest_25 ?_
    exact x_ireturn (pc := 26) g hrt dX9_cheapest_26
  · refine x_iload_n (pc := 11) g rfl 2 rfl dX9_cheapest_11 ?_
    refine x_callSI (pc := 12) (As := [.int a1]) g (mc_X9_isPlace a1) cw_X9_isPlace lk_X9_190 rfl ⟨Nat.le_of_ble_eq_true rfl, Nat.le_of_ble_eq_true rfl⟩ rfl (Nat.le_of_ble_eq_true rfl) dX9_cheapest_12 (fun v2 σ2 => ?_)
    refine x_if_eq (pc := 15) (tgt := 25) g (by decide) dX9_cheapest_15 ?_ ?_
    · refine x_iconst (pc := 25) (v := (-1 : Int32)) g (by decide) dX9_cheapest_25 ?_
      exact x_ireturn (pc := 26) g hrt dX9_cheapest_26
    · refine x_iload_n (pc := 18) g rfl 3 rfl dX9_cheapest_18 ?_
      refine x_callSI (pc := 19) (As := [.int a2]) g (mc_X9_isZeroOrOne a2) cw_X9_isZeroOrOne lk_X9_169 rfl ⟨Nat.le_of_ble_eq_true rfl, Nat.le_of_ble_eq_true rfl⟩ rfl (Nat.le_of_ble_eq_true rfl) dX9_cheapest_19 (fun v3 σ3 => ?_)
      refine x_if_ne (pc := 22) (tgt := 27) g (by decide) dX9_cheapest_22 ?_ ?_
      · refine x_aload_n (pc := 27) g rfl 0 rfl dX9_cheapest_27 ?_
        refine x_getR (pc := 28) g sh_0 fl_X9_28 rfl dX9_cheapest_28 ?_
        refine x_callVU (pc := 31) (As := []) g sh_3 (mc_X2_settle N ) cw_X2_settle lk_X9_157 rfl ⟨Nat.le_of_ble_eq_true rfl, Nat.le_of_ble_eq_true rfl⟩ rfl (Nat.le_of_ble_eq_true rfl) dX9_cheapest_31 (fun _ σ4 => ?_)
        refine x_aload_n (pc := 34) g rfl 0 rfl dX9_cheapest_34 ?_
        refine x_getR (pc := 35) g sh_0 fl_X9_37 rfl dX9_cheapest_35 ?_
        refine x_iload_n (pc := 38) g rfl 1 rfl dX9_cheapest_38 ?_
        refine x_iload_n (pc := 39) g rfl 2 rfl dX9_cheapest_39 ?_
        refine x_iload_n (pc := 40) g rfl 3 rfl dX9_cheapest_40 ?_
        refine x_callVI (pc := 41) (As := [.int a0, .int a1, .int a2]) g sh_4 (mc_X5_cheapestWithout N a0 a1 a2) cw_X5_cheapestWithout lk_X9_230 rfl ⟨Nat.le_of_ble_eq_true rfl, Nat.le_of_ble_eq_true rfl⟩ rfl (Nat.le_of_ble_eq_true rfl) dX9_cheapest_41 (fun v4 σ5 => ?_)
        exact x_ireturn (pc := 44) g hrt dX9_cheapest_44
      · refine x_iconst (pc := 25) (v := (-1 : Int32)) g (by decide) dX9_cheapest_25 ?_
        exact x_ireturn (pc := 26) g hrt dX9_cheapest_26
def F_X9_guard (N : Nat) (a0 : Int32) (a1 : Int32) (σ0 : Sx) : Option (Int32 × Sx) := (if a0 < 0 then some ((-1 : Int32), σ0) else (if (jshl (1 : Int32) (siI σ0 1 0)) ≤ a0 then some ((-1 : Int32), σ0) else clx (F_X9_isZeroOrOne a1 σ0) (fun v1 σ1 => (if v1 = 0 then some ((-1 : Int32), σ1) else clx (F_X2_settle N  σ1) (fun _ σ2 => clx (F_X5_bestGuard N a0 a1 σ2) (fun v2 σ3 => some (v2, σ3)))))))
set_option maxRecDepth 100000 in
set_option maxHeartbeats 4000000 in
theorem mc_X9_guard {D : va_G} {al : Nat → Nat} {cA : Nat → ClassId} {ba : Nat} (N : Nat) (a0 : Int32) (a1 : Int32) : MCx D al cA ba yX9_guard cX9_guard 3 (some .int) 6 146 rvI [.ref (al 0), .int a0, .int a1] (F_X9_guard N a0 a1) := by
  refine MCx_of (by decide +kernel) (Nat.le_of_ble_eq_true rfl) ?_
  intro p l e s m args below meth c σ0 g hrt
  unfold F_X9_guard
  refine x_lv (lv' := [(0, .ref (al 0)), (1, .int a0), (2, .int a1)]) [0, 1, 2] rfl ?_
  refine x_iload_n (pc := 0) g rfl 1 rfl dX9_guard_0 ?_
  refine x_if_lt (pc := 1) (tgt := 24) g (by decide) dX9_guard_1 ?_ ?_
  · refine x_iconst (pc := 24) (v := (-1 : Int32)) g (by decide) dX9_guard_24 ?_
    exact x_ireturn (pc := 25) g hrt dX9_guard_25
  · refine x_iload_n (pc := 4) g rfl 1 rfl dX9_guard_4 ?_
    refine x_iconst (pc := 5) (v := (1 : Int32)) g (by decide) dX9_guard_5 ?_
    refine x_aload_n (pc := 6) g rfl 0 rfl dX9_guard_6 ?_
    refine x_getR (pc := 7) g sh_0 fl_X9_18 rfl dX9_guard_7 ?_
    refine x_getI (pc := 10) g sh_1 fl_X9_80 rfl dX9_guard_10 ?_
    refine x_ishl (pc := 13) g dX9_guard_13 ?_
    refine x_icmp_ge (pc := 14) (tgt := 24) g (by decide) dX9_guard_14 ?_ ?_
    · refine x_iconst (pc := 24) (v := (-1 : Int32)) g (by decide) dX9_guard_24 ?_
      exact x_ireturn (pc := 25) g hrt dX9_guard_25
    · refine x_iload_n (pc := 17) g rfl 2 rfl dX9_guard_17 ?_
      refine x_callSI (pc := 18) (As := [.int a1]) g (mc_X9_isZeroOrOne a1) cw_X9_isZeroOrOne lk_X9_169 rfl ⟨Nat.le_of_ble_eq_true rfl, Nat.le_of_ble_eq_true rfl⟩ rfl (Nat.le_of_ble_eq_true rfl) dX9_guard_18 (fun v1 σ1 => ?_)
      refine x_if_ne (pc := 21) (tgt := 26) g (by decide) dX9_guard_21 ?_ ?_
      · refine x_aload_n (pc := 26) g rfl 0 rfl dX9_guard_26 ?_
        refine x_getR (pc := 27) g sh_0 fl_X9_28 rfl dX9_guard_27 ?_
        refine x_callVU (pc := 30) (As := []) g sh_3 (mc_X2_settle N ) cw_X2_settle lk_X9_157 rfl ⟨Nat.le_of_ble_eq_true rfl, Nat.le_of_ble_eq_true rfl⟩ rfl (Nat.le_of_ble_eq_true rfl) dX9_guard_30 (fun _ σ2 => ?_)
        refine x_aload_n (pc := 33) g rfl 0 rfl dX9_guard_33 ?_
        refine x_getR (pc := 34) g sh_0 fl_X9_37 rfl dX9_guard_34 ?_
        refine x_iload_n (pc := 37) g rfl 1 rfl dX9_guard_37 ?_
        refine x_iload_n (pc := 38) g rfl 2 rfl dX9_guard_38 ?_
        refine x_callVI (pc := 39) (As := [.int a0, .int a1]) g sh_4 (mc_X5_bestGuard N a0 a1) cw_X5_bestGuard lk_X9_234 rfl ⟨Nat.le_of_ble_eq_true rfl, Nat.le_of_ble_eq_true rfl⟩ rfl (Nat.le_of_ble_eq_true rfl) dX9_guard_39 (fun v2 σ3 => ?_)
        exact x_ireturn (pc := 42) g hrt dX9_guard_42
      · refine x_iconst (pc := 24) (v := (-1 : Int32)) g (by decide) dX9_guard_24 ?_
        exact x_ireturn (pc := 25) g hrt dX9_guard_25
def F_X9_shoes (N : Nat) (a0 : Int32) (a1 : Int32) (σ0 : Sx) : Option (Int32 × Sx) := clx (F_X8_isWalker a0 σ0) (fun v1 σ1 => (if v1 = 0 then some ((-1 : Int32), σ1) else clx (F_X9_isZeroOrOne a1 σ1) (fun v2 σ2 => (if v2 = 0 then some ((-1 : Int32), σ2) else clx (F_X2_settle N  σ2) (fun _ σ3 => clx (F_X7_bestLead N a0 a1 σ3) (fun v3 σ4 => some (v3, σ4)))))))
set_option maxRecDepth 100000 in
set_option maxHeartbeats 4000000 in
theorem mc_X9_shoes {D : va_G} {al : Nat → Nat} {cA : Nat → ClassId} {ba : Nat} (N : Nat) (a0 : Int32) (a1 : Int32) : MCx D al cA ba yX9_shoes cX9_shoes 3 (some .int) 6 154 rvI [.ref (al 0), .int a0, .int a1] (F_X9_shoes N a0 a1) := by
  refine MCx_of (by decide +kernel) (Nat.le_of_ble_eq_true rfl) ?_
  intro p l e s m args below meth c σ0 g hrt
  unfold F_X9_shoes
  refine x_lv (lv' := [(0, .ref (al 0)), (1, .int a0), (2, .int a1)]) [0, 1, 2] rfl ?_
  refine x_aload_n (pc := 0) g rfl 0 rfl dX9_shoes_0 ?_
  refine x_getR (pc := 1) g sh_0 fl_X9_18 rfl dX9_shoes_1 ?_
  refine x_iload_n (pc := 4) g rfl 1 rfl dX9_shoes_4 ?_
  refine x_callVI (pc := 5) (As := [.int a0]) g sh_1 (mc_X8_isWalker a0) cw_X8_isWalker lk_X9_99 rfl ⟨Nat.le_of_ble_eq_true rfl, Nat.le_of_ble_eq_true rfl⟩ rfl (Nat.le_of_ble_eq_true rfl) dX9_shoes_5 (fun v1 σ1 => ?_)
  refine x_if_eq (pc := 8) (tgt := 18) g (by decide) dX9_shoes_8 ?_ ?_
  · refine x_iconst (pc := 18) (v := (-1 : Int32)) g (by decide) dX9_shoes_18 ?_
    exact x_ireturn (pc := 19) g hrt dX9_shoes_19
  · refine x_iload_n (pc := 11) g rfl 2 rfl dX9_shoes_11 ?_
    refine x_callSI (pc := 12) (As := [.int a1]) g (mc_X9_isZeroOrOne a1) cw_X9_isZeroOrOne lk_X9_169 rfl ⟨Nat.le_of_ble_eq_true rfl, Nat.le_of_ble_eq_true rfl⟩ rfl (Nat.le_of_ble_eq_true rfl) dX9_shoes_12 (fun v2 σ2 => ?_)
    refine x_if_ne (pc := 15) (tgt := 20) g (by decide) dX9_shoes_15 ?_ ?_
    · refine x_aload_n (pc := 20) g rfl 0 rfl dX9_shoes_20 ?_
      refine x_getR (pc := 21) g sh_0 fl_X9_28 rfl dX9_shoes_21 ?_
      refine x_callVU (pc := 24) (As := []) g sh_3 (mc_X2_settle N ) cw_X2_settle lk_X9_157 rfl ⟨Nat.le_of_ble_eq_true rfl, Nat.le_of_ble_eq_true rfl⟩ rfl (Nat.le_of_ble_eq_true rfl) dX9_shoes_24 (fun _ σ3 => ?_)
      refine x_aload_n (pc := 27) g rfl 0 rfl dX9_shoes_27 ?_
      refine x_getR (pc := 28) g sh_0 fl_X9_44 rfl dX9_shoes_28 ?_
      refine x_iload_n (pc := 31) g rfl 1 rfl dX9_shoes_31 ?_
      refine x_iload_n (pc := 32) g rfl 2 rfl dX9_shoes_32 ?_
      refine x_callVI (pc := 33) (As := [.int a0, .int a1]) g sh_5 (mc_X7_bestLead N a0 a1) cw_X7_bestLead lk_X9_237 rfl ⟨Nat.le_of_ble_eq_true rfl, Nat.le_of_ble_eq_true rfl⟩ rfl (Nat.le_of_ble_eq_true rfl) dX9_shoes_33 (fun v3 σ4 => ?_)
      exact x_ireturn (pc := 36) g hrt dX9_shoes_36
    · refine x_iconst (pc := 18) (v := (-1 : Int32)) g (by decide) dX9_shoes_18 ?_
      exact x_ireturn (pc := 19) g hrt dX9_shoes_19
def F_X9_feigned (N : Nat) (a0 : Int32) (a1 : Int32) (a2 : Int32) (σ0 : Sx) : Option (Int32 × Sx) := clx (F_X8_isWalker a0 σ0) (fun v1 σ1 => (if v1 = 0 then some ((-1 : Int32), σ1) else clx (F_X9_isPlace a1 σ1) (fun v2 σ2 => (if v2 = 0 then some ((-1 : Int32), σ2) else clx (F_X9_isZeroOrOne a2 σ2) (fun v3 σ3 => (if v3 = 0 then some ((-1 : Int32), σ3) else clx (F_X2_settle N  σ3) (fun _ σ4 => clx (F_X7_withFalseTracks N a0 a1 a2 σ4) (fun v4 σ5 => some (v4, σ5)))))))))
set_option maxRecDepth 100000 in
set_option maxHeartbeats 4000000 in
theorem mc_X9_feigned {D : va_G} {al : Nat → Nat} {cA : Nat → ClassId} {ba : Nat} (N : Nat) (a0 : Int32) (a1 : Int32) (a2 : Int32) : MCx D al cA ba yX9_feigned cX9_feigned 4 (some .int) 7 171 rvI [.ref (al 0), .int a0, .int a1, .int a2] (F_X9_feigned N a0 a1 a2) := by
  refine MCx_of (by decide +kernel) (Nat.le_of_ble_eq_true rfl) ?_
  intro p l e s m args below meth c σ0 g hrt
  unfold F_X9_feigned
  refine x_lv (lv' := [(0, .ref (al 0)), (1, .int a0), (2, .int a1), (3, .int a2)]) [0, 1, 2, 3] rfl ?_
  refine x_aload_n (pc := 0) g rfl 0 rfl dX9_feigned_0 ?_
  refine x_getR (pc := 1) g sh_0 fl_X9_18 rfl dX9_feigned_1 ?_
  refine x_iload_n (pc := 4) g rfl 1 rfl dX9_feigned_4 ?_
  refine x_callVI (pc := 5) (As := [.int a0]) g sh_1 (mc_X8_isWalker a0) cw_X8_isWalker lk_X9_99 rfl ⟨Nat.le_of_ble_eq_true rfl, Nat.le_of_ble_eq_true rfl⟩ rfl (Nat.le_of_ble_eq_true rfl) dX9_feigned_5 (fun v1 σ1 => ?_)
  refine x_if_eq (pc := 8) (tgt := 25) g (by decide) dX9_feigned_8 ?_ ?_
  · refine x_iconst (pc := 25) (v := (-1 : Int32)) g (by decide) dX9_feigned_25 ?_
    exact x_ireturn (pc := 26) g hrt dX9_feigned_26
  · refine x_iload_n (pc := 11) g rfl 2 rfl dX9_feigned_11 ?_
    refine x_callSI (pc := 12) (As := [.int a1]) g (mc_X9_isPlace a1) cw_X9_isPlace lk_X9_190 rfl ⟨Nat.le_of_ble_eq_true rfl, Nat.le_of_ble_eq_true rfl⟩ rfl (Nat.le_of_ble_eq_true rfl) dX9_feigned_12 (fun v2 σ2 => ?_)
    refine x_if_eq (pc := 15) (tgt := 25) g (by decide) dX9_feigned_15 ?_ ?_
    · refine x_iconst (pc := 25) (v := (-1 : Int32)) g (by decide) dX9_feigned_25 ?_
      exact x_ireturn (pc := 26) g hrt dX9_feigned_26
    · refine x_iload_n (pc := 18) g rfl 3 rfl dX9_feigned_18 ?_
      refine x_callSI (pc := 19) (As := [.int a2]) g (mc_X9_isZeroOrOne a2) cw_X9_isZeroOrOne lk_X9_169 rfl ⟨Nat.le_of_ble_eq_true rfl, Nat.le_of_ble_eq_true rfl⟩ rfl (Nat.le_of_ble_eq_true rfl) dX9_feigned_19 (fun v3 σ3 => ?_)
      refine x_if_ne (pc := 22) (tgt := 27) g (by decide) dX9_feigned_22 ?_ ?_
      · refine x_aload_n (pc := 27) g rfl 0 rfl dX9_feigned_27 ?_
        refine x_getR (pc := 28) g sh_0 fl_X9_28 rfl dX9_feigned_28 ?_
        refine x_callVU (pc := 31) (As := []) g sh_3 (mc_X2_settle N ) cw_X2_settle lk_X9_157 rfl ⟨Nat.le_of_ble_eq_true rfl, Nat.le_of_ble_eq_true rfl⟩ rfl (Nat.le_of_ble_eq_true rfl) dX9_feigned_31 (fun _ σ4 => ?_)
        refine x_aload_n (pc := 34) g rfl 0 rfl dX9_feigned_34 ?_
        refine x_getR (pc := 35) g sh_0 fl_X9_44 rfl dX9_feigned_35 ?_
        refine x_iload_n (pc := 38) g rfl 1 rfl dX9_feigned_38 ?_
        refine x_iload_n (pc := 39) g rfl 2 rfl dX9_feigned_39 ?_
        refine x_iload_n (pc := 40) g rfl 3 rfl dX9_feigned_40 ?_
        refine x_callVI (pc := 41) (As := [.int a0, .int a1, .int a2]) g sh_5 (mc_X7_withFalseTracks N a0 a1 a2) cw_X7_withFalseTracks lk_X9_240 rfl ⟨Nat.le_of_ble_eq_true rfl, Nat.le_of_ble_eq_true rfl⟩ rfl (Nat.le_of_ble_eq_true rfl) dX9_feigned_41 (fun v4 σ5 => ?_)
        exact x_ireturn (pc := 44) g hrt dX9_feigned_44
      · refine x_iconst (pc := 25) (v := (-1 : Int32)) g (by decide) dX9_feigned_25 ?_
        exact x_ireturn (pc := 26) g hrt dX9_feigned_26
def F_X9_flood (N : Nat) (a0 : Int32) (a1 : Int32) (a2 : Int32) (σ0 : Sx) : Option (Int32 × Sx) := clx (F_X9_isPlace a0 σ0) (fun v1 σ1 => (if v1 = 0 then some ((-1 : Int32), σ1) else (if a1 < 0 then some ((-1 : Int32), σ1) else clx (F_X9_isMinute (a1 / (1000 : Int32)) σ1) (fun v2 σ2 => (if v2 = 0 then some ((-1 : Int32), σ2) else (if (jrem a1 (1000 : Int32)) < (a1 / (1000 : Int32)) then some ((-1 : Int32), σ2) else clx (F_X9_isZeroOrOne a2 σ2) (fun v3 σ3 => (if v3 = 0 then some ((-1 : Int32), σ3) else clx (F_X2_settle N  σ3) (fun _ σ4 => clx (F_X7_withFlood N a0 (a1 / (1000 : Int32)) (jrem a1 (1000 : Int32)) a2 σ4) (fun v4 σ5 => some (v4, σ5)))))))))))
set_option maxRecDepth 100000 in
set_option maxHeartbeats 4000000 in
theorem mc_X9_flood {D : va_G} {al : Nat → Nat} {cA : Nat → ClassId} {ba : Nat} (N : Nat) (a0 : Int32) (a1 : Int32) (a2 : Int32) : MCx D al cA ba yX9_flood cX9_flood 4 (some .int) 7 172 rvI [.ref (al 0), .int a0, .int a1, .int a2] (F_X9_flood N a0 a1 a2) := by
  refine MCx_of (by decide +kernel) (Nat.le_of_ble_eq_true rfl) ?_
  intro p l e s m args below meth c σ0 g hrt
  unfold F_X9_flood
  refine x_lv (lv' := [(0, .ref (al 0)), (1, .int a0), (2, .int a1), (3, .int a2)]) [0, 1, 2, 3] rfl ?_
  refine x_iload_n (pc := 0) g rfl 1 rfl dX9_flood_0 ?_
  refine x_callSI (pc := 1) (As := [.int a0]) g (mc_X9_isPlace a0) cw_X9_isPlace lk_X9_190 rfl ⟨Nat.le_of_ble_eq_true rfl, Nat.le_of_ble_eq_true rfl⟩ rfl (Nat.le_of_ble_eq_true rfl) dX9_flood_1 (fun v1 σ1 => ?_)
  refine x_if_eq (pc := 4) (tgt := 42) g (by decide) dX9_flood_4 ?_ ?_
  · refine x_iconst (pc := 42) (v := (-1 : Int32)) g (by decide) dX9_flood_42 ?_
    exact x_ireturn (pc := 43) g hrt dX9_flood_43
  · refine x_iload_n (pc := 7) g rfl 2 rfl dX9_flood_7 ?_
    refine x_if_lt (pc := 8) (tgt := 42) g (by decide) dX9_flood_8 ?_ ?_
    · refine x_iconst (pc := 42) (v := (-1 : Int32)) g (by decide) dX9_flood_42 ?_
      exact x_ireturn (pc := 43) g hrt dX9_flood_43
    · refine x_iload_n (pc := 11) g rfl 2 rfl dX9_flood_11 ?_
      refine x_sipush (pc := 12) (v := (1000 : Int32)) g (by decide) dX9_flood_12 ?_
      refine x_idiv (pc := 15) g (by decide) dX9_flood_15 ?_
      refine x_callSI (pc := 16) (As := [.int (a1 / (1000 : Int32))]) g (mc_X9_isMinute (a1 / (1000 : Int32))) cw_X9_isMinute lk_X9_181 rfl ⟨Nat.le_of_ble_eq_true rfl, Nat.le_of_ble_eq_true rfl⟩ rfl (Nat.le_of_ble_eq_true rfl) dX9_flood_16 (fun v2 σ2 => ?_)
      refine x_if_eq (pc := 19) (tgt := 42) g (by decide) dX9_flood_19 ?_ ?_
      · refine x_iconst (pc := 42) (v := (-1 : Int32)) g (by decide) dX9_flood_42 ?_
        exact x_ireturn (pc := 43) g hrt dX9_flood_43
      · refine x_iload_n (pc := 22) g rfl 2 rfl dX9_flood_22 ?_
        refine x_sipush (pc := 23) (v := (1000 : Int32)) g (by decide) dX9_flood_23 ?_
        refine x_idiv (pc := 26) g (by decide) dX9_flood_26 ?_
        refine x_iload_n (pc := 27) g rfl 2 rfl dX9_flood_27 ?_
        refine x_sipush (pc := 28) (v := (1000 : Int32)) g (by decide) dX9_flood_28 ?_
        refine x_irem (pc := 31) g (by decide) dX9_flood_31 ?_
        refine x_icmp_gt (pc := 32) (tgt := 42) g (by decide) dX9_flood_32 ?_ ?_
        · refine x_iconst (pc := 42) (v := (-1 : Int32)) g (by decide) dX9_flood_42 ?_
          exact x_ireturn (pc := 43) g hrt dX9_flood_43
        · refine x_iload_n (pc := 35) g rfl 3 rfl dX9_flood_35 ?_
          refine x_callSI (pc := 36) (As := [.int a2]) g (mc_X9_isZeroOrOne a2) cw_X9_isZeroOrOne lk_X9_169 rfl ⟨Nat.le_of_ble_eq_true rfl, Nat.le_of_ble_eq_true rfl⟩ rfl (Nat.le_of_ble_eq_true rfl) dX9_flood_36 (fun v3 σ3 => ?_)
          refine x_if_ne (pc := 39) (tgt := 44) g (by decide) dX9_flood_39 ?_ ?_
          · refine x_aload_n (pc := 44) g rfl 0 rfl dX9_flood_44 ?_
            refine x_getR (pc := 45) g sh_0 fl_X9_28 rfl dX9_flood_45 ?_
            refine x_callVU (pc := 48) (As := []) g sh_3 (mc_X2_settle N ) cw_X2_settle lk_X9_157 rfl ⟨Nat.le_of_ble_eq_true rfl, Nat.le_of_ble_eq_true rfl⟩ rfl (Nat.le_of_ble_eq_true rfl) dX9_flood_48 (fun _ σ4 => ?_)
            refine x_aload_n (pc := 51) g rfl 0 rfl dX9_flood_51 ?_
            refine x_getR (pc := 52) g sh_0 fl_X9_44 rfl dX9_flood_52 ?_
            refine x_iload_n (pc := 55) g rfl 1 rfl dX9_flood_55 ?_
            refine x_iload_n (pc := 56) g rfl 2 rfl dX9_flood_56 ?_
            refine x_sipush (pc := 57) (v := (1000 : Int32)) g (by decide) dX9_flood_57 ?_
            refine x_idiv (pc := 60) g (by decide) dX9_flood_60 ?_
            refine x_iload_n (pc := 61) g rfl 2 rfl dX9_flood_61 ?_
            refine x_sipush (pc := 62) (v := (1000 : Int32)) g (by decide) dX9_flood_62 ?_
            refine x_irem (pc := 65) g (by decide) dX9_flood_65 ?_
            refine x_iload_n (pc := 66) g rfl 3 rfl dX9_flood_66 ?_
            refine x_callVI (pc := 67) (As := [.int a0, .int (a1 / (1000 : Int32)), .int (jrem a1 (1000 : Int32)), .int a2]) g sh_5 (mc_X7_withFlood N a0 (a1 / (1000 : Int32)) (jrem a1 (1000 : Int32)) a2) cw_X7_withFlood lk_X9_243 rfl ⟨Nat.le_of_ble_eq_true rfl, Nat.le_of_ble_eq_true rfl⟩ rfl (Nat.le_of_ble_eq_true rfl) dX9_flood_67 (fun v4 σ5 => ?_)
            exact x_ireturn (pc := 70) g hrt dX9_flood_70
          · refine x_iconst (pc := 42) (v := (-1 : Int32)) g (by decide) dX9_flood_42 ?_
            exact x_ireturn (pc := 43) g hrt dX9_flood_43
def F_X9_drawn (N : Nat) (a0 : Int32) (a1 : Int32) (a2 : Int32) (σ0 : Sx) : Option (Int32 × Sx) := (if a1 < (1 : Int32) then some ((-1 : Int32), σ0) else (if (20 : Int32) < a1 then some ((-1 : Int32), σ0) else clx (F_X9_isZeroOrOne a2 σ0) (fun v1 σ1 => (if v1 = 0 then some ((-1 : Int32), σ1) else clx (F_X2_settle N  σ1) (fun _ σ2 => clx (F_X7_withDrawnLeads N a0 a1 a2 σ2) (fun v2 σ3 => some (v2, σ3)))))))
set_option maxRecDepth 100000 in
set_option maxHeartbeats 4000000 in
theorem mc_X9_drawn {D : va_G} {al : Nat → Nat} {cA : Nat → ClassId} {ba : Nat} (N : Nat) (a0 : Int32) (a1 : Int32) (a2 : Int32) : MCx D al cA ba yX9_drawn cX9_drawn 4 (some .int) 6 153 rvI [.ref (al 0), .int a0, .int a1, .int a2] (F_X9_drawn N a0 a1 a2) := by
  refine MCx_of (by decide +kernel) (Nat.le_of_ble_eq_true rfl) ?_
  intro p l e s m args below meth c σ0 g hrt
  unfold F_X9_drawn
  refine x_lv (lv' := [(0, .ref (al 0)), (1, .int a0), (2, .int a1), (3, .int a2)]) [0, 1, 2, 3] rfl ?_
  refine x_iload_n (pc := 0) g rfl 2 rfl dX9_drawn_0 ?_
  refine x_iconst (pc := 1) (v := (1 : Int32)) g (by decide) dX9_drawn_1 ?_
  refine x_icmp_lt (pc := 2) (tgt := 18) g (by decide) dX9_drawn_2 ?_ ?_
  · refine x_iconst (pc := 18) (v := (-1 : Int32)) g (by decide) dX9_drawn_18 ?_
    exact x_ireturn (pc := 19) g hrt dX9_drawn_19
  · refine x_iload_n (pc := 5) g rfl 2 rfl dX9_drawn_5 ?_
    refine x_bipush (pc := 6) (v := (20 : Int32)) g (by decide) dX9_drawn_6 ?_
    refine x_icmp_gt (pc := 8) (tgt := 18) g (by decide) dX9_drawn_8 ?_ ?_
    · refine x_iconst (pc := 18) (v := (-1 : Int32)) g (by decide) dX9_drawn_18 ?_
      exact x_ireturn (pc := 19) g hrt dX9_drawn_19
    · refine x_iload_n (pc := 11) g rfl 3 rfl dX9_drawn_11 ?_
      refine x_callSI (pc := 12) (As := [.int a2]) g (mc_X9_isZeroOrOne a2) cw_X9_isZeroOrOne lk_X9_169 rfl ⟨Nat.le_of_ble_eq_true rfl, Nat.le_of_ble_eq_true rfl⟩ rfl (Nat.le_of_ble_eq_true rfl) dX9_drawn_12 (fun v1 σ1 => ?_)
      refine x_if_ne (pc := 15) (tgt := 20) g (by decide) dX9_drawn_15 ?_ ?_
      · refine x_aload_n (pc := 20) g rfl 0 rfl dX9_drawn_20 ?_
        refine x_getR (pc := 21) g sh_0 fl_X9_28 rfl dX9_drawn_21 ?_
        refine x_callVU (pc := 24) (As := []) g sh_3 (mc_X2_settle N ) cw_X2_settle lk_X9_157 rfl ⟨Nat.le_of_ble_eq_true rfl, Nat.le_of_ble_eq_true rfl⟩ rfl (Nat.le_of_ble_eq_true rfl) dX9_drawn_24 (fun _ σ2 => ?_)
        refine x_aload_n (pc := 27) g rfl 0 rfl dX9_drawn_27 ?_
        refine x_getR (pc := 28) g sh_0 fl_X9_44 rfl dX9_drawn_28 ?_
        refine x_iload_n (pc := 31) g rfl 1 rfl dX9_drawn_31 ?_
        refine x_iload_n (pc := 32) g rfl 2 rfl dX9_drawn_32 ?_
        refine x_iload_n (pc := 33) g rfl 3 rfl dX9_drawn_33 ?_
        refine x_callVI (pc := 34) (As := [.int a0, .int a1, .int a2]) g sh_5 (mc_X7_withDrawnLeads N a0 a1 a2) cw_X7_withDrawnLeads lk_X9_247 rfl ⟨Nat.le_of_ble_eq_true rfl, Nat.le_of_ble_eq_true rfl⟩ rfl (Nat.le_of_ble_eq_true rfl) dX9_drawn_34 (fun v2 σ3 => ?_)
        exact x_ireturn (pc := 37) g hrt dX9_drawn_37
      · refine x_iconst (pc := 18) (v := (-1 : Int32)) g (by decide) dX9_drawn_18 ?_
        exact x_ireturn (pc := 19) g hrt dX9_drawn_19
def F_X9_live (N : Nat) (a0 : Int32) (σ0 : Sx) : Option (Int32 × Sx) := (if 0 ≤ a0 then clx (F_X2_settle N  σ0) (fun _ σ1 => clx (F_X2_heldDay a0 σ1) (fun v1 σ2 => (if 0 ≤ v1 then clx (F_X8_meetings N v1 σ2) (fun v2 σ3 => clx (F_X3_lived v1 v2 (0 : Int32) σ3) (fun _ σ4 => some (v2, σ4))) else some ((-2 : Int32), σ2)))) else some ((-1 : Int32), σ0))
set_option maxRecDepth 100000 in
set_option maxHeartbeats 4000000 in
theorem mc_X9_live {D : va_G} {al : Nat → Nat} {cA : Nat → ClassId} {ba : Nat} (N : Nat) (a0 : Int32) : MCx D al cA ba yX9_live cX9_live 4 (some .int) 6 146 rvI [.ref (al 0), .int a0] (F_X9_live N a0) := by
  refine MCx_of (by decide +kernel) (Nat.le_of_ble_eq_true rfl) ?_
  intro p l e s m args below meth c σ0 g hrt
  unfold F_X9_live
  refine x_lv (lv' := [(0, .ref (al 0)), (1, .int a0)]) [0, 1] rfl ?_
  refine x_iload_n (pc := 0) g rfl 1 rfl dX9_live_0 ?_
  refine x_if_ge (pc := 1) (tgt := 6) g (by decide) dX9_live_1 ?_ ?_
  · refine x_aload_n (pc := 6) g rfl 0 rfl dX9_live_6 ?_
    refine x_getR (pc := 7) g sh_0 fl_X9_28 rfl dX9_live_7 ?_
    refine x_callVU (pc := 10) (As := []) g sh_3 (mc_X2_settle N ) cw_X2_settle lk_X9_157 rfl ⟨Nat.le_of_ble_eq_true rfl, Nat.le_of_ble_eq_true rfl⟩ rfl (Nat.le_of_ble_eq_true rfl) dX9_live_10 (fun _ σ1 => ?_)
    refine x_aload_n (pc := 13) g rfl 0 rfl dX9_live_13 ?_
    refine x_getR (pc := 14) g sh_0 fl_X9_28 rfl dX9_live_14 ?_
    refine x_iload_n (pc := 17) g rfl 1 rfl dX9_live_17 ?_
    refine x_callVI (pc := 18) (As := [.int a0]) g sh_3 (mc_X2_heldDay a0) cw_X2_heldDay lk_X9_163 rfl ⟨Nat.le_of_ble_eq_true rfl, Nat.le_of_ble_eq_true rfl⟩ rfl (Nat.le_of_ble_eq_true rfl) dX9_live_18 (fun v1 σ2 => ?_)
    refine x_istore_n (pc := 21) (lv' := [(2, .int v1), (0, .ref (al 0)), (1, .int a0)]) g rfl (by decide) rfl dX9_live_21 ?_
    refine x_iload_n (pc := 22) g rfl 0 rfl dX9_live_22 ?_
    refine x_if_ge (pc := 23) (tgt := 29) g (by decide) dX9_live_23 ?_ ?_
    · refine x_aload_n (pc := 29) g rfl 1 rfl dX9_live_29 ?_
      refine x_getR (pc := 30) g sh_0 fl_X9_18 rfl dX9_live_30 ?_
      refine x_iload_n (pc := 33) g rfl 0 rfl dX9_live_33 ?_
      refine x_callVI (pc := 34) (As := [.int v1]) g sh_1 (mc_X8_meetings N v1) cw_X8_meetings lk_X9_202 rfl ⟨Nat.le_of_ble_eq_true rfl, Nat.le_of_ble_eq_true rfl⟩ rfl (Nat.le_of_ble_eq_true rfl) dX9_live_34 (fun v2 σ3 => ?_)
      refine x_istore_n (pc := 37) (lv' := [(3, .int v2), (2, .int v1), (0, .ref (al 0)), (1, .int a0)]) g rfl (by decide) rfl dX9_live_37 ?_
      refine x_aload_n (pc := 38) g rfl 2 rfl dX9_live_38 ?_
      refine x_getR (pc := 39) g sh_0 fl_X9_51 rfl dX9_live_39 ?_
      refine x_iload_n (pc := 42) g rfl 1 rfl dX9_live_42 ?_
      refine x_iload_n (pc := 43) g rfl 0 rfl dX9_live_43 ?_
      refine x_iconst (pc := 44) (v := (0 : Int32)) g (by decide) dX9_live_44 ?_
      refine x_callVU (pc := 45) (As := [.int v1, .int v2, .int (0 : Int32)]) g sh_6 (mc_X3_lived v1 v2 (0 : Int32)) cw_X3_lived lk_X9_250 rfl ⟨Nat.le_of_ble_eq_true rfl, Nat.le_of_ble_eq_true rfl⟩ rfl (Nat.le_of_ble_eq_true rfl) dX9_live_45 (fun _ σ4 => ?_)
      refine x_iload_n (pc := 48) g rfl 0 rfl dX9_live_48 ?_
      exact x_ireturn (pc := 49) g hrt dX9_live_49
    · refine x_bipush (pc := 26) (v := (-2 : Int32)) g (by decide) dX9_live_26 ?_
      exact x_ireturn (pc := 28) g hrt dX9_live_28
  · refine x_iconst (pc := 4) (v := (-1 : Int32)) g (by decide) dX9_live_4 ?_
    exact x_ireturn (pc := 5) g hrt dX9_live_5
def F_X9_step (N : Nat) (a0 : Int32) (a1 : Int32) (σ0 : Sx) : Option (Int32 × Sx) := clx (F_X8_isWay a0 a1 σ0) (fun v1 σ1 => (if v1 = 0 then some ((-1 : Int32), σ1) else clx (F_X3_told (3 : Int32) σ1) (fun v2 σ2 => clx (F_X8_isDay N v2 σ2) (fun v3 σ3 => (if v3 = 0 then some ((-5 : Int32), σ3) else clx (F_X2_settle N  σ3) (fun _ σ4 => clx (F_X8_waysOn N v2 σ4) (fun v4 σ5 => clx (F_X2_lawful N a0 v4 σ5) (fun v5 σ6 => nmx (fun (y1 : Int32) (σ7 : Sx) => clx (F_X2_nextDay N v2 σ7) (fun v6 σ8 => clx (F_X8_withWay v6 a0 a1 σ8) (fun v7 σ9 => clx (F_X8_meetings N v7 σ9) (fun v8 σ10 => clx (F_X3_lived v7 v8 y1 σ10) (fun _ σ11 => some (y1, σ11)))))) (fun (j81 : Int32 → Sx → Option (Int32 × Sx)) => (if a1 = v5 then j81 (0 : Int32) σ6 else clx (F_X8_told a0 (2 : Int32) σ6) (fun v9 σ12 => j81 v9 σ12)))))))))))
set_option maxRecDepth 100000 in
set_option maxHeartbeats 4000000 in
theorem mc_X9_step {D : va_G} {al : Nat → Nat} {cA : Nat → ClassId} {ba : Nat} (N : Nat) (a0 : Int32) (a1 : Int32) : MCx D al cA ba yX9_step cX9_step 7 (some .int) 6 146 rvI [.ref (al 0), .int a0, .int a1] (F_X9_step N a0 a1) := by
  refine MCx_of (by decide +kernel) (Nat.le_of_ble_eq_true rfl) ?_
  intro p l e s m args below meth c σ0 g hrt
  unfold F_X9_step
  refine x_lv (lv' := [(0, .ref (al 0)), (1, .int a0), (2, .int a1)]) [0, 1, 2] rfl ?_
  refine x_aload_n (pc := 0) g rfl 0 rfl dX9_step_0 ?_
  refine x_getR (pc := 1) g sh_0 fl_X9_18 rfl dX9_step_1 ?_
  refine x_iload_n (pc := 4) g rfl 1 rfl dX9_step_4 ?_
  refine x_iload_n (pc := 5) g rfl 2 rfl dX9_step_5 ?_
  refine x_callVI (pc := 6) (As := [.int a0, .int a1]) g sh_1 (mc_X8_isWay a0 a1) cw_X8_isWay lk_X9_135 rfl ⟨Nat.le_of_ble_eq_true rfl, Nat.le_of_ble_eq_true rfl⟩ rfl (Nat.le_of_ble_eq_true rfl) dX9_step_6 (fun v1 σ1 => ?_)
  refine x_if_ne (pc := 9) (tgt := 14) g (by decide) dX9_step_9 ?_ ?_
  · refine x_aload_n (pc := 14) g rfl 0 rfl dX9_step_14 ?_
    refine x_getR (pc := 15) g sh_0 fl_X9_51 rfl dX9_step_15 ?_
    refine x_iconst (pc := 18) (v := (3 : Int32)) g (by decide) dX9_step_18 ?_
    refine x_callVI (pc := 19) (As := [.int (3 : Int32)]) g sh_6 (mc_X3_told (3 : Int32)) cw_X3_told lk_X9_253 rfl ⟨Nat.le_of_ble_eq_true rfl, Nat.le_of_ble_eq_true rfl⟩ rfl (Nat.le_of_ble_eq_true rfl) dX9_step_19 (fun v2 σ2 => ?_)
    refine x_istore_n (pc := 22) (lv' := [(3, .int v2), (0, .ref (al 0)), (1, .int a0), (2, .int a1)]) g rfl (by decide) rfl dX9_step_22 ?_
    refine x_aload_n (pc := 23) g rfl 1 rfl dX9_step_23 ?_
    refine x_getR (pc := 24) g sh_0 fl_X9_18 rfl dX9_step_24 ?_
    refine x_iload_n (pc := 27) g rfl 0 rfl dX9_step_27 ?_
    refine x_callVI (pc := 28) (As := [.int v2]) g sh_1 (mc_X8_isDay N v2) cw_X8_isDay lk_X9_166 rfl ⟨Nat.le_of_ble_eq_true rfl, Nat.le_of_ble_eq_true rfl⟩ rfl (Nat.le_of_ble_eq_true rfl) dX9_step_28 (fun v3 σ3 => ?_)
    refine x_if_ne (pc := 31) (tgt := 37) g (by decide) dX9_step_31 ?_ ?_
    · refine x_aload_n (pc := 37) g rfl 1 rfl dX9_step_37 ?_
      refine x_getR (pc := 38) g sh_0 fl_X9_28 rfl dX9_step_38 ?_
      refine x_callVU (pc := 41) (As := []) g sh_3 (mc_X2_settle N ) cw_X2_settle lk_X9_157 rfl ⟨Nat.le_of_ble_eq_true rfl, Nat.le_of_ble_eq_true rfl⟩ rfl (Nat.le_of_ble_eq_true rfl) dX9_step_41 (fun _ σ4 => ?_)
      refine x_aload_n (pc := 44) g rfl 1 rfl dX9_step_44 ?_
      refine x_getR (pc := 45) g sh_0 fl_X9_28 rfl dX9_step_45 ?_
      refine x_iload_n (pc := 48) g rfl 2 rfl dX9_step_48 ?_
      refine x_aload_n (pc := 49) g rfl 1 rfl dX9_step_49 ?_
      refine x_getR (pc := 50) g sh_0 fl_X9_18 rfl dX9_step_50 ?_
      refine x_iload_n (pc := 53) g rfl 0 rfl dX9_step_53 ?_
      refine x_callVI (pc := 54) (As := [.int v2]) g sh_1 (mc_X8_waysOn N v2) cw_X8_waysOn lk_X9_172 rfl ⟨Nat.le_of_ble_eq_true rfl, Nat.le_of_ble_eq_true rfl⟩ rfl (Nat.le_of_ble_eq_true rfl) dX9_step_54 (fun v4 σ5 => ?_)
      refine x_callVI (pc := 57) (As := [.int a0, .int v4]) g sh_3 (mc_X2_lawful N a0 v4) cw_X2_lawful lk_X9_199 rfl ⟨Nat.le_of_ble_eq_true rfl, Nat.le_of_ble_eq_true rfl⟩ rfl (Nat.le_of_ble_eq_true rfl) dX9_step_57 (fun v5 σ6 => ?_)
      refine x_istore (pc := 60) (lv' := [(4, .int v5), (3, .int v2), (0, .ref (al 0)), (1, .int a0), (2, .int a1)]) g (by decide) rfl dX9_step_60 ?_
      refine x_iload_n (pc := 62) g rfl 4 rfl dX9_step_62 ?_
      refine x_iload (pc := 63) g 0 rfl dX9_step_63 ?_
      refine x_jn (fun (j81 : Int32 → Sx → Option (Int32 × Sx)) => ∀ (y1 : Int32) (σ7 : Sx), XTx p l e { frames := 6, cells := 0, slots := 0, locals := 146 } s m args below meth c D al cA ba 7 (MQx rvI D al cA ba below args s) 0 0 81 [(0, .ref (al 0)), (1, .int a0), (2, .int a1), (3, .int v2)] [.int y1] σ7 (j81 y1 σ7)) (fun y1 σ7 => ?_) (fun j81 hj81 => ?_)
      · refine x_istore (pc := 81) (lv' := [(5, .int y1), (0, .ref (al 0)), (1, .int a0), (2, .int a1), (3, .int v2)]) g (by decide) rfl dX9_step_81 ?_
        refine x_aload_n (pc := 83) g rfl 1 rfl dX9_step_83 ?_
        refine x_getR (pc := 84) g sh_0 fl_X9_28 rfl dX9_step_84 ?_
        refine x_iload_n (pc := 87) g rfl 4 rfl dX9_step_87 ?_
        refine x_callVI (pc := 88) (As := [.int v2]) g sh_3 (mc_X2_nextDay N v2) cw_X2_nextDay lk_X9_255 rfl ⟨Nat.le_of_ble_eq_true rfl, Nat.le_of_ble_eq_true rfl⟩ rfl (Nat.le_of_ble_eq_true rfl) dX9_step_88 (fun v6 σ8 => ?_)
        refine x_iload_n (pc := 91) g rfl 2 rfl dX9_step_91 ?_
        refine x_iload_n (pc := 92) g rfl 3 rfl dX9_step_92 ?_
        refine x_callSI (pc := 93) (As := [.int v6, .int a0, .int a1]) g (mc_X8_withWay v6 a0 a1) cw_X8_withWay lk_X9_258 rfl ⟨Nat.le_of_ble_eq_true rfl, Nat.le_of_ble_eq_true rfl⟩ rfl (Nat.le_of_ble_eq_true rfl) dX9_step_93 (fun v7 σ9 => ?_)
        refine x_istore (pc := 96) (lv' := [(6, .int v7), (5, .int y1), (0, .ref (al 0)), (1, .int a0), (2, .int a1), (3, .int v2)]) g (by decide) rfl dX9_step_96 ?_
        refine x_aload_n (pc := 98) g rfl 2 rfl dX9_step_98 ?_
        refine x_getR (pc := 99) g sh_0 fl_X9_51 rfl dX9_step_99 ?_
        refine x_iload (pc := 102) g 0 rfl dX9_step_102 ?_
        refine x_aload_n (pc := 104) g rfl 2 rfl dX9_step_104 ?_
        refine x_getR (pc := 105) g sh_0 fl_X9_18 rfl dX9_step_105 ?_
        refine x_iload (pc := 108) g 0 rfl dX9_step_108 ?_
        refine x_callVI (pc := 110) (As := [.int v7]) g sh_1 (mc_X8_meetings N v7) cw_X8_meetings lk_X9_202 rfl ⟨Nat.le_of_ble_eq_true rfl, Nat.le_of_ble_eq_true rfl⟩ rfl (Nat.le_of_ble_eq_true rfl) dX9_step_110 (fun v8 σ10 => ?_)
        refine x_iload (pc := 113) g 1 rfl dX9_step_113 ?_
        refine x_callVU (pc := 115) (As := [.int v7, .int v8, .int y1]) g sh_6 (mc_X3_lived v7 v8 y1) cw_X3_lived lk_X9_250 rfl ⟨Nat.le_of_ble_eq_true rfl, Nat.le_of_ble_eq_true rfl⟩ rfl (Nat.le_of_ble_eq_true rfl) dX9_step_115 (fun _ σ11 => ?_)
        refine x_iload (pc := 118) g 1 rfl dX9_step_118 ?_
        exact x_ireturn (pc := 120) g hrt dX9_step_120
      · refine x_icmp_ne (pc := 65) (tgt := 72) g (by decide) dX9_step_65 ?_ ?_
        · refine x_aload_n (pc := 72) g rfl 2 rfl dX9_step_72 ?_
          refine x_getR (pc := 73) g sh_0 fl_X9_18 rfl dX9_step_73 ?_
          refine x_iload_n (pc := 76) g rfl 3 rfl dX9_step_76 ?_
          refine x_iconst (pc := 77) (v := (2 : Int32)) g (by decide) dX9_step_77 ?_
          refine x_callVI (pc := 78) (As := [.int a0, .int (2 : Int32)]) g sh_1 (mc_X8_told a0 (2 : Int32)) cw_X8_told lk_X9_124 rfl ⟨Nat.le_of_ble_eq_true rfl, Nat.le_of_ble_eq_true rfl⟩ rfl (Nat.le_of_ble_eq_true rfl) dX9_step_78 (fun v9 σ12 => ?_)
          refine x_lv [2, 3, 4, 1] rfl ?_
          exact hj81 v9 σ12
        · refine x_iconst (pc := 68) (v := (0 : Int32)) g (by decide) dX9_step_68 ?_
          refine x_goto (pc := 69) (tgt := 81) g (by decide) dX9_step_69 ?_
          refine x_lv [2, 3, 4, 1] rfl ?_
          exact hj81 (0 : Int32) σ6
    · refine x_bipush (pc := 34) (v := (-5 : Int32)) g (by decide) dX9_step_34 ?_
      exact x_ireturn (pc := 36) g hrt dX9_step_36
  · refine x_iconst (pc := 12) (v := (-1 : Int32)) g (by decide) dX9_step_12 ?_
    exact x_ireturn (pc := 13) g hrt dX9_step_13
def F_X9_led (a0 : Int32) (σ0 : Sx) : Option (Int32 × Sx) := (if a0 < 0 then some ((-1 : Int32), σ0) else (if a0 ≤ (3 : Int32) then clx (F_X3_told a0 σ0) (fun v1 σ1 => some (v1, σ1)) else some ((-1 : Int32), σ0)))
set_option maxRecDepth 100000 in
set_option maxHeartbeats 4000000 in
theorem mc_X9_led {D : va_G} {al : Nat → Nat} {cA : Nat → ClassId} {ba : Nat} (a0 : Int32) : MCx D al cA ba yX9_led cX9_led 2 (some .int) 1 21 rvI [.ref (al 0), .int a0] (F_X9_led a0) := by
  refine MCx_of (by decide +kernel) (Nat.le_of_ble_eq_true rfl) ?_
  intro p l e s m args below meth c σ0 g hrt
  unfold F_X9_led
  refine x_lv (lv' := [(0, .ref (al 0)), (1, .int a0)]) [0, 1] rfl ?_
  refine x_iload_n (pc := 0) g rfl 1 rfl dX9_led_0 ?_
  refine x_if_lt (pc := 1) (tgt := 9) g (by decide) dX9_led_1 ?_ ?_
  · refine x_iconst (pc := 9) (v := (-1 : Int32)) g (by decide) dX9_led_9 ?_
    refine x_goto (pc := 10) (tgt := 21) g (by decide) dX9_led_10 ?_
    exact x_ireturn (pc := 21) g hrt dX9_led_21
  · refine x_iload_n (pc := 4) g rfl 1 rfl dX9_led_4 ?_
    refine x_iconst (pc := 5) (v := (3 : Int32)) g (by decide) dX9_led_5 ?_
    refine x_icmp_le (pc := 6) (tgt := 13) g (by decide) dX9_led_6 ?_ ?_
    · refine x_aload_n (pc := 13) g rfl 0 rfl dX9_led_13 ?_
      refine x_getR (pc := 14) g sh_0 fl_X9_51 rfl dX9_led_14 ?_
      refine x_iload_n (pc := 17) g rfl 1 rfl dX9_led_17 ?_
      refine x_callVI (pc := 18) (As := [.int a0]) g sh_6 (mc_X3_told a0) cw_X3_told lk_X9_253 rfl ⟨Nat.le_of_ble_eq_true rfl, Nat.le_of_ble_eq_true rfl⟩ rfl (Nat.le_of_ble_eq_true rfl) dX9_led_18 (fun v1 σ1 => ?_)
      exact x_ireturn (pc := 21) g hrt dX9_led_21
    · refine x_iconst (pc := 9) (v := (-1 : Int32)) g (by decide) dX9_led_9 ?_
      refine x_goto (pc := 10) (tgt := 21) g (by decide) dX9_led_10 ?_
      exact x_ireturn (pc := 21) g hrt dX9_led_21
def F_X9_image (σ0 : Sx) : Option (Int32 × Sx) := clx (F_X3_keepImage  σ0) (fun _ σ1 => clx (F_X3_told (0 : Int32) σ1) (fun v1 σ2 => some (v1, σ2)))
set_option maxRecDepth 100000 in
set_option maxHeartbeats 4000000 in
theorem mc_X9_image {D : va_G} {al : Nat → Nat} {cA : Nat → ClassId} {ba : Nat}  : MCx D al cA ba yX9_image cX9_image 1 (some .int) 2 80 rvI [.ref (al 0)] (F_X9_image ) := by
  refine MCx_of (by decide +kernel) (Nat.le_of_ble_eq_true rfl) ?_
  intro p l e s m args below meth c σ0 g hrt
  unfold F_X9_image
  refine x_lv (lv' := [(0, .ref (al 0))]) [0] rfl ?_
  refine x_aload_n (pc := 0) g rfl 0 rfl dX9_image_0 ?_
  refine x_getR (pc := 1) g sh_0 fl_X9_51 rfl dX9_image_1 ?_
  refine x_callVU (pc := 4) (As := []) g sh_6 (mc_X3_keepImage ) cw_X3_keepImage lk_X9_261 rfl ⟨Nat.le_of_ble_eq_true rfl, Nat.le_of_ble_eq_true rfl⟩ rfl (Nat.le_of_ble_eq_true rfl) dX9_image_4 (fun _ σ1 => ?_)
  refine x_aload_n (pc := 7) g rfl 0 rfl dX9_image_7 ?_
  refine x_getR (pc := 8) g sh_0 fl_X9_51 rfl dX9_image_8 ?_
  refine x_iconst (pc := 11) (v := (0 : Int32)) g (by decide) dX9_image_11 ?_
  refine x_callVI (pc := 12) (As := [.int (0 : Int32)]) g sh_6 (mc_X3_told (0 : Int32)) cw_X3_told lk_X9_253 rfl ⟨Nat.le_of_ble_eq_true rfl, Nat.le_of_ble_eq_true rfl⟩ rfl (Nat.le_of_ble_eq_true rfl) dX9_image_12 (fun v1 σ2 => ?_)
  exact x_ireturn (pc := 15) g hrt dX9_image_15
def F_X9_back (σ0 : Sx) : Option (Int32 × Sx) := clx (F_X3_layBack  σ0) (fun v1 σ1 => (if v1 = 0 then some ((-5 : Int32), σ1) else clx (F_X3_told (0 : Int32) σ1) (fun v2 σ2 => some (v2, σ2))))
set_option maxRecDepth 100000 in
set_option maxHeartbeats 4000000 in
theorem mc_X9_back {D : va_G} {al : Nat → Nat} {cA : Nat → ClassId} {ba : Nat}  : MCx D al cA ba yX9_back cX9_back 1 (some .int) 2 80 rvI [.ref (al 0)] (F_X9_back ) := by
  refine MCx_of (by decide +kernel) (Nat.le_of_ble_eq_true rfl) ?_
  intro p l e s m args below meth c σ0 g hrt
  unfold F_X9_back
  refine x_lv (lv' := [(0, .ref (al 0))]) [0] rfl ?_
  refine x_aload_n (pc := 0) g rfl 0 rfl dX9_back_0 ?_
  refine x_getR (pc := 1) g sh_0 fl_X9_51 rfl dX9_back_1 ?_
  refine x_callVI (pc := 4) (As := []) g sh_6 (mc_X3_layBack ) cw_X3_layBack lk_X9_264 rfl ⟨Nat.le_of_ble_eq_true rfl, Nat.le_of_ble_eq_true rfl⟩ rfl (Nat.le_of_ble_eq_true rfl) dX9_back_4 (fun v1 σ1 => ?_)
  refine x_if_eq (pc := 7) (tgt := 21) g (by decide) dX9_back_7 ?_ ?_
  · refine x_bipush (pc := 21) (v := (-5 : Int32)) g (by decide) dX9_back_21 ?_
    exact x_ireturn (pc := 23) g hrt dX9_back_23
  · refine x_aload_n (pc := 10) g rfl 0 rfl dX9_back_10 ?_
    refine x_getR (pc := 11) g sh_0 fl_X9_51 rfl dX9_back_11 ?_
    refine x_iconst (pc := 14) (v := (0 : Int32)) g (by decide) dX9_back_14 ?_
    refine x_callVI (pc := 15) (As := [.int (0 : Int32)]) g sh_6 (mc_X3_told (0 : Int32)) cw_X3_told lk_X9_253 rfl ⟨Nat.le_of_ble_eq_true rfl, Nat.le_of_ble_eq_true rfl⟩ rfl (Nat.le_of_ble_eq_true rfl) dX9_back_15 (fun v2 σ2 => ?_)
    refine x_goto (pc := 18) (tgt := 23) g (by decide) dX9_back_18 ?_
    exact x_ireturn (pc := 23) g hrt dX9_back_23
def F_X9_undo (N : Nat) (σ0 : Sx) : Option (Int32 × Sx) := clx (F_X1_unmake N  σ0) (fun v1 σ1 => (if v1 = 0 then some ((-5 : Int32), σ1) else clx (F_X2_spoil  σ1) (fun _ σ2 => some ((siI σ2 7 1), σ2))))
set_option maxRecDepth 100000 in
set_option maxHeartbeats 4000000 in
theorem mc_X9_undo {D : va_G} {al : Nat → Nat} {cA : Nat → ClassId} {ba : Nat} (N : Nat)  : MCx D al cA ba yX9_undo cX9_undo 1 (some .int) 5 110 rvI [.ref (al 0)] (F_X9_undo N) := by
  refine MCx_of (by decide +kernel) (Nat.le_of_ble_eq_true rfl) ?_
  intro p l e s m args below meth c σ0 g hrt
  unfold F_X9_undo
  refine x_lv (lv' := [(0, .ref (al 0))]) [0] rfl ?_
  refine x_aload_n (pc := 0) g rfl 0 rfl dX9_undo_0 ?_
  refine x_getR (pc := 1) g sh_0 fl_X9_58 rfl dX9_undo_1 ?_
  refine x_aload_n (pc := 4) g rfl 0 rfl dX9_undo_4 ?_
  refine x_getR (pc := 5) g sh_0 fl_X9_18 rfl dX9_undo_5 ?_
  refine x_callVI (pc := 8) (As := [.ref (al 1)]) g sh_7 (mc_X1_unmake N ) cw_X1_unmake lk_X9_268 rfl ⟨Nat.le_of_ble_eq_true rfl, Nat.le_of_ble_eq_true rfl⟩ rfl (Nat.le_of_ble_eq_true rfl) dX9_undo_8 (fun v1 σ1 => ?_)
  refine x_if_ne (pc := 11) (tgt := 17) g (by decide) dX9_undo_11 ?_ ?_
  · refine x_aload_n (pc := 17) g rfl 0 rfl dX9_undo_17 ?_
    refine x_getR (pc := 18) g sh_0 fl_X9_28 rfl dX9_undo_18 ?_
    refine x_callVU (pc := 21) (As := []) g sh_3 (mc_X2_spoil ) cw_X2_spoil lk_X9_96 rfl ⟨Nat.le_of_ble_eq_true rfl, Nat.le_of_ble_eq_true rfl⟩ rfl (Nat.le_of_ble_eq_true rfl) dX9_undo_21 (fun _ σ2 => ?_)
    refine x_aload_n (pc := 24) g rfl 0 rfl dX9_undo_24 ?_
    refine x_getR (pc := 25) g sh_0 fl_X9_58 rfl dX9_undo_25 ?_
    refine x_getI (pc := 28) g sh_7 fl_X9_272 rfl dX9_undo_28 ?_
    exact x_ireturn (pc := 31) g hrt dX9_undo_31
  · refine x_bipush (pc := 14) (v := (-5 : Int32)) g (by decide) dX9_undo_14 ?_
    exact x_ireturn (pc := 16) g hrt dX9_undo_16
def F_X9_redo (N : Nat) (σ0 : Sx) : Option (Int32 × Sx) := clx (F_X1_remake N  σ0) (fun v1 σ1 => (if v1 = 0 then some ((-5 : Int32), σ1) else clx (F_X2_spoil  σ1) (fun _ σ2 => clx (F_X1_unmade  σ2) (fun v2 σ3 => some (v2, σ3)))))
set_option maxRecDepth 100000 in
set_option maxHeartbeats 4000000 in
theorem mc_X9_redo {D : va_G} {al : Nat → Nat} {cA : Nat → ClassId} {ba : Nat} (N : Nat)  : MCx D al cA ba yX9_redo cX9_redo 1 (some .int) 5 110 rvI [.ref (al 0)] (F_X9_redo N) := by
  refine MCx_of (by decide +kernel) (Nat.le_of_ble_eq_true rfl) ?_
  intro p l e s m args below meth c σ0 g hrt
  unfold F_X9_redo
  refine x_lv (lv' := [(0, .ref (al 0))]) [0] rfl ?_
  refine x_aload_n (pc := 0) g rfl 0 rfl dX9_redo_0 ?_
  refine x_getR (pc := 1) g sh_0 fl_X9_58 rfl dX9_redo_1 ?_
  refine x_aload_n (pc := 4) g rfl 0 rfl dX9_redo_4 ?_
  refine x_getR (pc := 5) g sh_0 fl_X9_18 rfl dX9_redo_5 ?_
  refine x_callVI (pc := 8) (As := [.ref (al 1)]) g sh_7 (mc_X1_remake N ) cw_X1_remake lk_X9_275 rfl ⟨Nat.le_of_ble_eq_true rfl, Nat.le_of_ble_eq_true rfl⟩ rfl (Nat.le_of_ble_eq_true rfl) dX9_redo_8 (fun v1 σ1 => ?_)
  refine x_if_ne (pc := 11) (tgt := 17) g (by decide) dX9_redo_11 ?_ ?_
  · refine x_aload_n (pc := 17) g rfl 0 rfl dX9_redo_17 ?_
    refine x_getR (pc := 18) g sh_0 fl_X9_28 rfl dX9_redo_18 ?_
    refine x_callVU (pc := 21) (As := []) g sh_3 (mc_X2_spoil ) cw_X2_spoil lk_X9_96 rfl ⟨Nat.le_of_ble_eq_true rfl, Nat.le_of_ble_eq_true rfl⟩ rfl (Nat.le_of_ble_eq_true rfl) dX9_redo_21 (fun _ σ2 => ?_)
    refine x_aload_n (pc := 24) g rfl 0 rfl dX9_redo_24 ?_
    refine x_getR (pc := 25) g sh_0 fl_X9_58 rfl dX9_redo_25 ?_
    refine x_callVI (pc := 28) (As := []) g sh_7 (mc_X1_unmade ) cw_X1_unmade lk_X9_278 rfl ⟨Nat.le_of_ble_eq_true rfl, Nat.le_of_ble_eq_true rfl⟩ rfl (Nat.le_of_ble_eq_true rfl) dX9_redo_28 (fun v2 σ3 => ?_)
    exact x_ireturn (pc := 31) g hrt dX9_redo_31
  · refine x_bipush (pc := 14) (v := (-5 : Int32)) g (by decide) dX9_redo_14 ?_
    exact x_ireturn (pc := 16) g hrt dX9_redo_16
def F_X9_body (a0 : Int32) (σ0 : Sx) : Option (Int32 × Sx) := (if a0 < 0 then some ((-1 : Int32), σ0) else (if a0 < (8 : Int32) then clx (F_X0_add a0 σ0) (fun v1 σ1 => (if 0 ≤ v1 then some (v1, σ1) else some ((-3 : Int32), σ1))) else some ((-1 : Int32), σ0)))
set_option maxRecDepth 100000 in
set_option maxHeartbeats 4000000 in
theorem mc_X9_body {D : va_G} {al : Nat → Nat} {cA : Nat → ClassId} {ba : Nat} (a0 : Int32) : MCx D al cA ba yX9_body cX9_body 3 (some .int) 1 21 rvI [.ref (al 0), .int a0] (F_X9_body a0) := by
  refine MCx_of (by decide +kernel) (Nat.le_of_ble_eq_true rfl) ?_
  intro p l e s m args below meth c σ0 g hrt
  unfold F_X9_body
  refine x_lv (lv' := [(0, .ref (al 0)), (1, .int a0)]) [0, 1] rfl ?_
  refine x_iload_n (pc := 0) g rfl 1 rfl dX9_body_0 ?_
  refine x_if_lt (pc := 1) (tgt := 10) g (by decide) dX9_body_1 ?_ ?_
  · refine x_iconst (pc := 10) (v := (-1 : Int32)) g (by decide) dX9_body_10 ?_
    exact x_ireturn (pc := 11) g hrt dX9_body_11
  · refine x_iload_n (pc := 4) g rfl 1 rfl dX9_body_4 ?_
    refine x_bipush (pc := 5) (v := (8 : Int32)) g (by decide) dX9_body_5 ?_
    refine x_icmp_lt (pc := 7) (tgt := 12) g (by decide) dX9_body_7 ?_ ?_
    · refine x_aload_n (pc := 12) g rfl 0 rfl dX9_body_12 ?_
      refine x_getR (pc := 13) g sh_0 fl_X9_65 rfl dX9_body_13 ?_
      refine x_iload_n (pc := 16) g rfl 1 rfl dX9_body_16 ?_
      refine x_callVI (pc := 17) (As := [.int a0]) g sh_8 (mc_X0_add a0) cw_X0_add lk_X9_281 rfl ⟨Nat.le_of_ble_eq_true rfl, Nat.le_of_ble_eq_true rfl⟩ rfl (Nat.le_of_ble_eq_true rfl) dX9_body_17 (fun v1 σ1 => ?_)
      refine x_istore_n (pc := 20) (lv' := [(2, .int v1), (0, .ref (al 0)), (1, .int a0)]) g rfl (by decide) rfl dX9_body_20 ?_
      refine x_iload_n (pc := 21) g rfl 0 rfl dX9_body_21 ?_
      refine x_if_ge (pc := 22) (tgt := 30) g (by decide) dX9_body_22 ?_ ?_
      · refine x_iload_n (pc := 30) g rfl 0 rfl dX9_body_30 ?_
        exact x_ireturn (pc := 31) g hrt dX9_body_31
      · refine x_bipush (pc := 25) (v := (-3 : Int32)) g (by decide) dX9_body_25 ?_
        refine x_goto (pc := 27) (tgt := 31) g (by decide) dX9_body_27 ?_
        exact x_ireturn (pc := 31) g hrt dX9_body_31
    · refine x_iconst (pc := 10) (v := (-1 : Int32)) g (by decide) dX9_body_10 ?_
      exact x_ireturn (pc := 11) g hrt dX9_body_11
def F_X9_act (N : Nat) (a0 : Int32) (a1 : Int32) (a2 : Int32) (σ0 : Sx) : Option (Int32 × Sx) := clx (F_X0_perform N a0 a1 a2 σ0) (fun v1 σ1 => some (v1, σ1))
set_option maxRecDepth 100000 in
set_option maxHeartbeats 4000000 in
theorem mc_X9_act {D : va_G} {al : Nat → Nat} {cA : Nat → ClassId} {ba : Nat} (N : Nat) (a0 : Int32) (a1 : Int32) (a2 : Int32) : MCx D al cA ba yX9_act cX9_act 4 (some .int) 262 6219 rvI [.ref (al 0), .int a0, .int a1, .int a2] (F_X9_act N a0 a1 a2) := by
  refine MCx_of (by decide +kernel) (Nat.le_of_ble_eq_true rfl) ?_
  intro p l e s m args below meth c σ0 g hrt
  unfold F_X9_act
  refine x_lv (lv' := [(0, .ref (al 0)), (1, .int a0), (2, .int a1), (3, .int a2)]) [0, 1, 2, 3] rfl ?_
  refine x_aload_n (pc := 0) g rfl 0 rfl dX9_act_0 ?_
  refine x_getR (pc := 1) g sh_0 fl_X9_65 rfl dX9_act_1 ?_
  refine x_iload_n (pc := 4) g rfl 1 rfl dX9_act_4 ?_
  refine x_iload_n (pc := 5) g rfl 2 rfl dX9_act_5 ?_
  refine x_iload_n (pc := 6) g rfl 3 rfl dX9_act_6 ?_
  refine x_callVI (pc := 7) (As := [.int a0, .int a1, .int a2]) g sh_8 (mc_X0_perform N a0 a1 a2) cw_X0_perform lk_X9_284 rfl ⟨Nat.le_of_ble_eq_true rfl, Nat.le_of_ble_eq_true rfl⟩ rfl (Nat.le_of_ble_eq_true rfl) dX9_act_7 (fun v1 σ1 => ?_)
  exact x_ireturn (pc := 10) g hrt dX9_act_10
def F_X9_trace (a0 : Int32) (σ0 : Sx) : Option (Int32 × Sx) := clx (F_X0_ranAt a0 σ0) (fun v1 σ1 => some (v1, σ1))
set_option maxRecDepth 100000 in
set_option maxHeartbeats 4000000 in
theorem mc_X9_trace {D : va_G} {al : Nat → Nat} {cA : Nat → ClassId} {ba : Nat} (a0 : Int32) : MCx D al cA ba yX9_trace cX9_trace 2 (some .int) 1 21 rvI [.ref (al 0), .int a0] (F_X9_trace a0) := by
  refine MCx_of (by decide +kernel) (Nat.le_of_ble_eq_true rfl) ?_
  intro p l e s m args below meth c σ0 g hrt
  unfold F_X9_trace
  refine x_lv (lv' := [(0, .ref (al 0)), (1, .int a0)]) [0, 1] rfl ?_
  refine x_aload_n (pc := 0) g rfl 0 rfl dX9_trace_0 ?_
  refine x_getR (pc := 1) g sh_0 fl_X9_65 rfl dX9_trace_1 ?_
  refine x_iload_n (pc := 4) g rfl 1 rfl dX9_trace_4 ?_
  refine x_callVI (pc := 5) (As := [.int a0]) g sh_8 (mc_X0_ranAt a0) cw_X0_ranAt lk_X9_287 rfl ⟨Nat.le_of_ble_eq_true rfl, Nat.le_of_ble_eq_true rfl⟩ rfl (Nat.le_of_ble_eq_true rfl) dX9_trace_5 (fun v1 σ1 => ?_)
  exact x_ireturn (pc := 8) g hrt dX9_trace_8
def F_X9_keep (a0 : Int32) (a1 : Int32) (σ0 : Sx) : Option (Int32 × Sx) := clx (F_X9_isShelf a0 σ0) (fun v1 σ1 => (if v1 = 0 then some ((-1 : Int32), σ1) else nmx (fun (σ2 : Sx) => (if a1 = (-1 : Int32) then aRx 6 a0 (fun k12 => clx (F_X6_clear k12 σ2) (fun _ σ5 => some ((1 : Int32), σ5))) else aRx 6 a0 (fun k11 => clx (F_X0_kindOf a1 σ2) (fun v2 σ3 => clx (F_X6_holdBody k11 v2 σ3) (fun _ σ4 => some ((1 : Int32), σ4)))))) (fun (j25 : Sx → Option (Int32 × Sx)) => (if a1 = (-1 : Int32) then j25 σ1 else clx (F_X0_isThere a1 σ1) (fun v3 σ6 => (if v3 = 0 then some ((-1 : Int32), σ6) else j25 σ6))))))
set_option maxRecDepth 100000 in
set_option maxHeartbeats 4000000 in
theorem mc_X9_keep {D : va_G} {al : Nat → Nat} {cA : Nat → ClassId} {ba : Nat} (a0 : Int32) (a1 : Int32) : MCx D al cA ba yX9_keep cX9_keep 3 (some .int) 1 21 rvI [.ref (al 0), .int a0, .int a1] (F_X9_keep a0 a1) := by
  refine MCx_of (by decide +kernel) (Nat.le_of_ble_eq_true rfl) ?_
  intro p l e s m args below meth c σ0 g hrt
  unfold F_X9_keep
  refine x_lv (lv' := [(0, .ref (al 0)), (1, .int a0), (2, .int a1)]) [0, 1, 2] rfl ?_
  refine x_iload_n (pc := 0) g rfl 1 rfl dX9_keep_0 ?_
  refine x_callSI (pc := 1) (As := [.int a0]) g (mc_X9_isShelf a0) cw_X9_isShelf lk_X9_107 rfl ⟨Nat.le_of_ble_eq_true rfl, Nat.le_of_ble_eq_true rfl⟩ rfl (Nat.le_of_ble_eq_true rfl) dX9_keep_1 (fun v1 σ1 => ?_)
  refine x_if_eq (pc := 4) (tgt := 23) g (by decide) dX9_keep_4 ?_ ?_
  · refine x_iconst (pc := 23) (v := (-1 : Int32)) g (by decide) dX9_keep_23 ?_
    exact x_ireturn (pc := 24) g hrt dX9_keep_24
  · refine x_iload_n (pc := 7) g rfl 2 rfl dX9_keep_7 ?_
    refine x_iconst (pc := 8) (v := (-1 : Int32)) g (by decide) dX9_keep_8 ?_
    refine x_jn (fun (j25 : Sx → Option (Int32 × Sx)) => ∀ (σ2 : Sx), XTx p l e { frames := 1, cells := 0, slots := 0, locals := 21 } s m args below meth c D al cA ba 3 (MQx rvI D al cA ba below args s) 0 0 25 [(0, .ref (al 0)), (1, .int a0), (2, .int a1)] [] σ2 (j25 σ2)) (fun σ2 => ?_) (fun j25 hj25 => ?_)
    · refine x_iload_n (pc := 25) g rfl 2 rfl dX9_keep_25 ?_
      refine x_iconst (pc := 26) (v := (-1 : Int32)) g (by decide) dX9_keep_26 ?_
      refine x_icmp_ne (pc := 27) (tgt := 42) g (by decide) dX9_keep_27 ?_ ?_
      · refine x_aload_n (pc := 42) g rfl 0 rfl dX9_keep_42 ?_
        refine x_getR (pc := 43) g sh_0 fl_X9_72 rfl dX9_keep_43 ?_
        refine x_iload_n (pc := 46) g rfl 1 rfl dX9_keep_46 ?_
        refine x_aaldS (pc := 47) g sh_9 (by decide) dX9_keep_47 (fun k11 hk11 => ?_)
        refine x_aload_n (pc := 48) g rfl 0 rfl dX9_keep_48 ?_
        refine x_getR (pc := 49) g sh_0 fl_X9_65 rfl dX9_keep_49 ?_
        refine x_iload_n (pc := 52) g rfl 2 rfl dX9_keep_52 ?_
        refine x_callVI (pc := 53) (As := [.int a1]) g sh_8 (mc_X0_kindOf a1) cw_X0_kindOf lk_X9_296 rfl ⟨Nat.le_of_ble_eq_true rfl, Nat.le_of_ble_eq_true rfl⟩ rfl (Nat.le_of_ble_eq_true rfl) dX9_keep_53 (fun v2 σ3 => ?_)
        refine x_callVU (pc := 56) (As := [.int v2]) g (shf_10 k11 hk11) (mc_X6_holdBody k11 hk11 v2) cw_X6_holdBody lk_X9_299 rfl ⟨Nat.le_of_ble_eq_true rfl, Nat.le_of_ble_eq_true rfl⟩ rfl (Nat.le_of_ble_eq_true rfl) dX9_keep_56 (fun _ σ4 => ?_)
        refine x_iconst (pc := 59) (v := (1 : Int32)) g (by decide) dX9_keep_59 ?_
        exact x_ireturn (pc := 60) g hrt dX9_keep_60
      · refine x_aload_n (pc := 30) g rfl 0 rfl dX9_keep_30 ?_
        refine x_getR (pc := 31) g sh_0 fl_X9_72 rfl dX9_keep_31 ?_
        refine x_iload_n (pc := 34) g rfl 1 rfl dX9_keep_34 ?_
        refine x_aaldS (pc := 35) g sh_9 (by decide) dX9_keep_35 (fun k12 hk12 => ?_)
        refine x_callVU (pc := 36) (As := []) g (shf_10 k12 hk12) (mc_X6_clear k12 hk12) cw_X6_clear lk_X9_293 rfl ⟨Nat.le_of_ble_eq_true rfl, Nat.le_of_ble_eq_true rfl⟩ rfl (Nat.le_of_ble_eq_true rfl) dX9_keep_36 (fun _ σ5 => ?_)
        refine x_goto (pc := 39) (tgt := 59) g (by decide) dX9_keep_39 ?_
        refine x_iconst (pc := 59) (v := (1 : Int32)) g (by decide) dX9_keep_59 ?_
        exact x_ireturn (pc := 60) g hrt dX9_keep_60
    · refine x_icmp_eq (pc := 9) (tgt := 25) g (by decide) dX9_keep_9 ?_ ?_
      · exact hj25 σ1
      · refine x_aload_n (pc := 12) g rfl 0 rfl dX9_keep_12 ?_
        refine x_getR (pc := 13) g sh_0 fl_X9_65 rfl dX9_keep_13 ?_
        refine x_iload_n (pc := 16) g rfl 2 rfl dX9_keep_16 ?_
        refine x_callVI (pc := 17) (As := [.int a1]) g sh_8 (mc_X0_isThere a1) cw_X0_isThere lk_X9_290 rfl ⟨Nat.le_of_ble_eq_true rfl, Nat.le_of_ble_eq_true rfl⟩ rfl (Nat.le_of_ble_eq_true rfl) dX9_keep_17 (fun v3 σ6 => ?_)
        refine x_if_ne (pc := 20) (tgt := 25) g (by decide) dX9_keep_20 ?_ ?_
        · exact hj25 σ6
        · refine x_iconst (pc := 23) (v := (-1 : Int32)) g (by decide) dX9_keep_23 ?_
          exact x_ireturn (pc := 24) g hrt dX9_keep_24
def F_X9_row (N : Nat) (a0 : Int32) (a1 : Int32) (a2 : Int32) (σ0 : Sx) : Option (Int32 × Sx) := clx (F_X9_isShelf a0 σ0) (fun v1 σ1 => (if v1 = 0 then some ((-1 : Int32), σ1) else (if a1 < 0 then some ((-1 : Int32), σ1) else (if (4 : Int32) < a1 then some ((-1 : Int32), σ1) else (if a2 ≤ (60 : Int32) then (if 0 ≤ a2 then aRx 6 a0 (fun k11 => clx (F_X6_holdRow N k11 a1 a2 σ1) (fun _ σ2 => some ((1 : Int32), σ2))) else some ((-14 : Int32), σ1)) else some ((-1 : Int32), σ1))))))
set_option maxRecDepth 100000 in
set_option maxHeartbeats 4000000 in
theorem mc_X9_row {D : va_G} {al : Nat → Nat} {cA : Nat → ClassId} {ba : Nat} (N : Nat) (a0 : Int32) (a1 : Int32) (a2 : Int32) : MCx D al cA ba yX9_row cX9_row 4 (some .int) 2 46 rvI [.ref (al 0), .int a0, .int a1, .int a2] (F_X9_row N a0 a1 a2) := by
  refine MCx_of (by decide +kernel) (Nat.le_of_ble_eq_true rfl) ?_
  intro p l e s m args below meth c σ0 g hrt
  unfold F_X9_row
  refine x_lv (lv' := [(0, .ref (al 0)), (1, .int a0), (2, .int a1), (3, .int a2)]) [0, 1, 2, 3] rfl ?_
  refine x_iload_n (pc := 0) g rfl 1 rfl dX9_row_0 ?_
  refine x_callSI (pc := 1) (As := [.int a0]) g (mc_X9_isShelf a0) cw_X9_isShelf lk_X9_107 rfl ⟨Nat.le_of_ble_eq_true rfl, Nat.le_of_ble_eq_true rfl⟩ rfl (Nat.le_of_ble_eq_true rfl) dX9_row_1 (fun v1 σ1 => ?_)
  refine x_if_eq (pc := 4) (tgt := 22) g (by decide) dX9_row_4 ?_ ?_
  · refine x_iconst (pc := 22) (v := (-1 : Int32)) g (by decide) dX9_row_22 ?_
    exact x_ireturn (pc := 23) g hrt dX9_row_23
  · refine x_iload_n (pc := 7) g rfl 2 rfl dX9_row_7 ?_
    refine x_if_lt (pc := 8) (tgt := 22) g (by decide) dX9_row_8 ?_ ?_
    · refine x_iconst (pc := 22) (v := (-1 : Int32)) g (by decide) dX9_row_22 ?_
      exact x_ireturn (pc := 23) g hrt dX9_row_23
    · refine x_iload_n (pc := 11) g rfl 2 rfl dX9_row_11 ?_
      refine x_iconst (pc := 12) (v := (4 : Int32)) g (by decide) dX9_row_12 ?_
      refine x_icmp_gt (pc := 13) (tgt := 22) g (by decide) dX9_row_13 ?_ ?_
      · refine x_iconst (pc := 22) (v := (-1 : Int32)) g (by decide) dX9_row_22 ?_
        exact x_ireturn (pc := 23) g hrt dX9_row_23
      · refine x_iload_n (pc := 16) g rfl 3 rfl dX9_row_16 ?_
        refine x_bipush (pc := 17) (v := (60 : Int32)) g (by decide) dX9_row_17 ?_
        refine x_icmp_le (pc := 19) (tgt := 24) g (by decide) dX9_row_19 ?_ ?_
        · refine x_iload_n (pc := 24) g rfl 3 rfl dX9_row_24 ?_
          refine x_if_ge (pc := 25) (tgt := 31) g (by decide) dX9_row_25 ?_ ?_
          · refine x_aload_n (pc := 31) g rfl 0 rfl dX9_row_31 ?_
            refine x_getR (pc := 32) g sh_0 fl_X9_72 rfl dX9_row_32 ?_
            refine x_iload_n (pc := 35) g rfl 1 rfl dX9_row_35 ?_
            refine x_aaldS (pc := 36) g sh_9 (by decide) dX9_row_36 (fun k11 hk11 => ?_)
            refine x_iload_n (pc := 37) g rfl 2 rfl dX9_row_37 ?_
            refine x_iload_n (pc := 38) g rfl 3 rfl dX9_row_38 ?_
            refine x_callVU (pc := 39) (As := [.int a1, .int a2]) g (shf_10 k11 hk11) (mc_X6_holdRow N k11 hk11 a1 a2) cw_X6_holdRow lk_X9_303 rfl ⟨Nat.le_of_ble_eq_true rfl, Nat.le_of_ble_eq_true rfl⟩ rfl (Nat.le_of_ble_eq_true rfl) dX9_row_39 (fun _ σ2 => ?_)
            refine x_iconst (pc := 42) (v := (1 : Int32)) g (by decide) dX9_row_42 ?_
            exact x_ireturn (pc := 43) g hrt dX9_row_43
          · refine x_bipush (pc := 28) (v := (-14 : Int32)) g (by decide) dX9_row_28 ?_
            exact x_ireturn (pc := 30) g hrt dX9_row_30
        · refine x_iconst (pc := 22) (v := (-1 : Int32)) g (by decide) dX9_row_22 ?_
          exact x_ireturn (pc := 23) g hrt dX9_row_23
def F_X9_elementRefusal (a0 : Int32) (a1 : Int32) (σ0 : Sx) : Option (Int32 × Sx) := clx (F_X9_isShelf a0 σ0) (fun v1 σ1 => (if v1 = 0 then some ((-1 : Int32), σ1) else aRx 6 a0 (fun k11 => clx (F_X6_refusalOfRow k11 σ1) (fun v2 σ2 => (if v2 = 0 then aRx 6 a0 (fun k12 => clx (F_X6_hasPlaces k12 a1 (1 : Int32) σ2) (fun v3 σ3 => (if v3 = 0 then some ((-13 : Int32), σ3) else some ((0 : Int32), σ3)))) else some (v2, σ2))))))
set_option maxRecDepth 100000 in
set_option maxHeartbeats 4000000 in
theorem mc_X9_elementRefusal {D : va_G} {al : Nat → Nat} {cA : Nat → ClassId} {ba : Nat} (a0 : Int32) (a1 : Int32) : MCx D al cA ba yX9_elementRefusal cX9_elementRefusal 4 (some .int) 1 22 rvI [.ref (al 0), .int a0, .int a1] (F_X9_elementRefusal a0 a1) := by
  refine MCx_of (by decide +kernel) (Nat.le_of_ble_eq_true rfl) ?_
  intro p l e s m args below meth c σ0 g hrt
  unfold F_X9_elementRefusal
  refine x_lv (lv' := [(0, .ref (al 0)), (1, .int a0), (2, .int a1)]) [0, 1, 2] rfl ?_
  refine x_iload_n (pc := 0) g rfl 1 rfl dX9_elementRefusal_0 ?_
  refine x_callSI (pc := 1) (As := [.int a0]) g (mc_X9_isShelf a0) cw_X9_isShelf lk_X9_107 rfl ⟨Nat.le_of_ble_eq_true rfl, Nat.le_of_ble_eq_true rfl⟩ rfl (Nat.le_of_ble_eq_true rfl) dX9_elementRefusal_1 (fun v1 σ1 => ?_)
  refine x_if_ne (pc := 4) (tgt := 9) g (by decide) dX9_elementRefusal_4 ?_ ?_
  · refine x_aload_n (pc := 9) g rfl 0 rfl dX9_elementRefusal_9 ?_
    refine x_getR (pc := 10) g sh_0 fl_X9_72 rfl dX9_elementRefusal_10 ?_
    refine x_iload_n (pc := 13) g rfl 1 rfl dX9_elementRefusal_13 ?_
    refine x_aaldS (pc := 14) g sh_9 (by decide) dX9_elementRefusal_14 (fun k11 hk11 => ?_)
    refine x_callVI (pc := 15) (As := []) g (shf_10 k11 hk11) (mc_X6_refusalOfRow k11 hk11) cw_X6_refusalOfRow lk_X9_318 rfl ⟨Nat.le_of_ble_eq_true rfl, Nat.le_of_ble_eq_true rfl⟩ rfl (Nat.le_of_ble_eq_true rfl) dX9_elementRefusal_15 (fun v2 σ2 => ?_)
    refine x_istore_n (pc := 18) (lv' := [(3, .int v2), (0, .ref (al 0)), (1, .int a0), (2, .int a1)]) g rfl (by decide) rfl dX9_elementRefusal_18 ?_
    refine x_iload_n (pc := 19) g rfl 0 rfl dX9_elementRefusal_19 ?_
    refine x_if_eq (pc := 20) (tgt := 25) g (by decide) dX9_elementRefusal_20 ?_ ?_
    · refine x_aload_n (pc := 25) g rfl 1 rfl dX9_elementRefusal_25 ?_
      refine x_getR (pc := 26) g sh_0 fl_X9_72 rfl dX9_elementRefusal_26 ?_
      refine x_iload_n (pc := 29) g rfl 2 rfl dX9_elementRefusal_29 ?_
      refine x_aaldS (pc := 30) g sh_9 (by decide) dX9_elementRefusal_30 (fun k12 hk12 => ?_)
      refine x_iload_n (pc := 31) g rfl 3 rfl dX9_elementRefusal_31 ?_
      refine x_iconst (pc := 32) (v := (1 : Int32)) g (by decide) dX9_elementRefusal_32 ?_
      refine x_callVI (pc := 33) (As := [.int a1, .int (1 : Int32)]) g (shf_10 k12 hk12) (mc_X6_hasPlaces k12 hk12 a1 (1 : Int32)) cw_X6_hasPlaces lk_X9_321 rfl ⟨Nat.le_of_ble_eq_true rfl, Nat.le_of_ble_eq_true rfl⟩ rfl (Nat.le_of_ble_eq_true rfl) dX9_elementRefusal_33 (fun v3 σ3 => ?_)
      refine x_if_eq (pc := 36) (tgt := 43) g (by decide) dX9_elementRefusal_36 ?_ ?_
      · refine x_bipush (pc := 43) (v := (-13 : Int32)) g (by decide) dX9_elementRefusal_43 ?_
        exact x_ireturn (pc := 45) g hrt dX9_elementRefusal_45
      · refine x_iconst (pc := 39) (v := (0 : Int32)) g (by decide) dX9_elementRefusal_39 ?_
        refine x_goto (pc := 40) (tgt := 45) g (by decide) dX9_elementRefusal_40 ?_
        exact x_ireturn (pc := 45) g hrt dX9_elementRefusal_45
    · refine x_iload_n (pc := 23) g rfl 0 rfl dX9_elementRefusal_23 ?_
      exact x_ireturn (pc := 24) g hrt dX9_elementRefusal_24
  · refine x_iconst (pc := 7) (v := (-1 : Int32)) g (by decide) dX9_elementRefusal_7 ?_
    exact x_ireturn (pc := 8) g hrt dX9_elementRefusal_8
def F_X9_put (a0 : Int32) (a1 : Int32) (a2 : Int64) (σ0 : Sx) : Option (Int32 × Sx) := clx (F_X9_elementRefusal a0 a1 σ0) (fun v1 σ1 => (if v1 = 0 then aRx 6 a0 (fun k11 => clx (F_X6_set k11 a1 a2 σ1) (fun _ σ2 => some ((1 : Int32), σ2))) else some (v1, σ1)))
set_option maxRecDepth 100000 in
set_option maxHeartbeats 4000000 in
theorem mc_X9_put {D : va_G} {al : Nat → Nat} {cA : Nat → ClassId} {ba : Nat} (a0 : Int32) (a1 : Int32) (a2 : Int64) : MCx D al cA ba yX9_put cX9_put 6 (some .int) 2 45 rvI [.ref (al 0), .int a0, .int a1, .long a2] (F_X9_put a0 a1 a2) := by
  refine MCx_of (by decide +kernel) (Nat.le_of_ble_eq_true rfl) ?_
  intro p l e s m args below meth c σ0 g hrt
  unfold F_X9_put
  refine x_lv (lv' := [(0, .ref (al 0)), (1, .int a0), (2, .int a1), (3, .long a2)]) [0, 1, 2, 3] rfl ?_
  refine x_aload_n (pc := 0) g rfl 0 rfl dX9_put_0 ?_
  refine x_iload_n (pc := 1) g rfl 1 rfl dX9_put_1 ?_
  refine x_iload_n (pc := 2) g rfl 2 rfl dX9_put_2 ?_
  refine x_callVI (pc := 3) (As := [.int a0, .int a1]) g sh_0 (mc_X9_elementRefusal a0 a1) cw_X9_elementRefusal lk_X9_307 rfl ⟨Nat.le_of_ble_eq_true rfl, Nat.le_of_ble_eq_true rfl⟩ rfl (Nat.le_of_ble_eq_true rfl) dX9_put_3 (fun v1 σ1 => ?_)
  refine x_istore (pc := 6) (lv' := [(5, .int v1), (0, .ref (al 0)), (1, .int a0), (2, .int a1), (3, .long a2)]) g (by decide) rfl dX9_put_6 ?_
  refine x_iload (pc := 8) g 0 rfl dX9_put_8 ?_
  refine x_if_eq (pc := 10) (tgt := 16) g (by decide) dX9_put_10 ?_ ?_
  · refine x_aload_n (pc := 16) g rfl 1 rfl dX9_put_16 ?_
    refine x_getR (pc := 17) g sh_0 fl_X9_72 rfl dX9_put_17 ?_
    refine x_iload_n (pc := 20) g rfl 2 rfl dX9_put_20 ?_
    refine x_aaldS (pc := 21) g sh_9 (by decide) dX9_put_21 (fun k11 hk11 => ?_)
    refine x_iload_n (pc := 22) g rfl 3 rfl dX9_put_22 ?_
    refine x_lload_n (pc := 23) g rfl 4 rfl dX9_put_23 ?_
    refine x_callVU (pc := 24) (As := [.int a1, .long a2]) g (shf_10 k11 hk11) (mc_X6_set k11 hk11 a1 a2) cw_X6_set lk_X9_310 rfl ⟨Nat.le_of_ble_eq_true rfl, Nat.le_of_ble_eq_true rfl⟩ rfl (Nat.le_of_ble_eq_true rfl) dX9_put_24 (fun _ σ2 => ?_)
    refine x_iconst (pc := 27) (v := (1 : Int32)) g (by decide) dX9_put_27 ?_
    exact x_ireturn (pc := 28) g hrt dX9_put_28
  · refine x_iload (pc := 13) g 0 rfl dX9_put_13 ?_
    exact x_ireturn (pc := 15) g hrt dX9_put_15
def F_X9_element (a0 : Int32) (a1 : Int32) (σ0 : Sx) : Option (Int64 × Sx) := clx (F_X9_elementRefusal a0 a1 σ0) (fun v1 σ1 => (if v1 = 0 then aRx 6 a0 (fun k11 => aLx (16 + k11) 60 a1 σ1 (fun z1 => some (z1, σ1))) else some ((-9223372036854775808 : Int64), σ1)))
set_option maxRecDepth 100000 in
set_option maxHeartbeats 4000000 in
theorem mc_X9_element {D : va_G} {al : Nat → Nat} {cA : Nat → ClassId} {ba : Nat} (a0 : Int32) (a1 : Int32) : MCx D al cA ba yX9_element cX9_element 3 (some .long) 2 45 rvL [.ref (al 0), .int a0, .int a1] (F_X9_element a0 a1) := by
  refine MCx_of (by decide +kernel) (Nat.le_of_ble_eq_true rfl) ?_
  intro p l e s m args below meth c σ0 g hrt
  unfold F_X9_element
  refine x_lv (lv' := [(0, .ref (al 0)), (1, .int a0), (2, .int a1)]) [0, 1, 2] rfl ?_
  refine x_aload_n (pc := 0) g rfl 0 rfl dX9_element_0 ?_
  refine x_iload_n (pc := 1) g rfl 1 rfl dX9_element_1 ?_
  refine x_iload_n (pc := 2) g rfl 2 rfl dX9_element_2 ?_
  refine x_callVI (pc := 3) (As := [.int a0, .int a1]) g sh_0 (mc_X9_elementRefusal a0 a1) cw_X9_elementRefusal lk_X9_307 rfl ⟨Nat.le_of_ble_eq_true rfl, Nat.le_of_ble_eq_true rfl⟩ rfl (Nat.le_of_ble_eq_true rfl) dX9_element_3 (fun v1 σ1 => ?_)
  refine x_if_eq (pc := 6) (tgt := 15) g (by decide) dX9_element_6 ?_ ?_
  · refine x_aload_n (pc := 15) g rfl 0 rfl dX9_element_15 ?_
    refine x_getR (pc := 16) g sh_0 fl_X9_72 rfl dX9_element_16 ?_
    refine x_iload_n (pc := 19) g rfl 1 rfl dX9_element_19 ?_
    refine x_aaldS (pc := 20) g sh_9 (by decide) dX9_element_20 (fun k11 hk11 => ?_)
    refine x_getR (pc := 21) g (shf_10 k11 hk11) fl_X9_88 rfl dX9_element_21 ?_
    refine x_iload_n (pc := 24) g rfl 2 rfl dX9_element_24 ?_
    refine x_lald (pc := 25) g (shf_16 k11 hk11) (by decide) dX9_element_25 (fun z1 => ?_)
    exact x_lreturn (pc := 26) g hrt dX9_element_26
  · refine x_ldc2 (pc := 9) (v := (-9223372036854775808 : Int64)) g ct_X9_316 dX9_element_9 ?_
    refine x_goto (pc := 12) (tgt := 26) g (by decide) dX9_element_12 ?_
    exact x_lreturn (pc := 26) g hrt dX9_element_26
def F_X9_shift (a0 : Int32) (a1 : Int32) (a2 : Int32) (a3 : Int32) (a4 : Int32) (σ0 : Sx) : Option (Int32 × Sx) := clx (F_X9_isShelf a0 σ0) (fun v1 σ1 => (if v1 = 0 then some ((-1 : Int32), σ1) else clx (F_X9_isShelf a2 σ1) (fun v2 σ2 => (if v2 = 0 then some ((-1 : Int32), σ2) else aRx 6 a0 (fun k11 => aRx 6 a2 (fun k12 => (if (siI σ2 (10 + k11) 0) = (-1 : Int32) then some ((-11 : Int32), σ2) else (if (siI σ2 (10 + k12) 0) = (-1 : Int32) then some ((-11 : Int32), σ2) else (if (siI σ2 (10 + k11) 0) = (5 : Int32) then some ((-12 : Int32), σ2) else (if (siI σ2 (10 + k11) 0) = (siI σ2 (10 + k12) 0) then clx (F_X6_hasPlaces k11 a1 a4 σ2) (fun v3 σ3 => (if v3 = 0 then some ((-13 : Int32), σ3) else clx (F_X6_hasPlaces k12 a3 a4 σ3) (fun v4 σ4 => (if v4 = 0 then some ((-13 : Int32), σ4) else cLx (16 + k11) 60 a1 (16 + k12) 60 a3 a4 σ4 (fun σ5 => some (a4, σ5)))))) else some ((-12 : Int32), σ2)))))))))))
set_option maxRecDepth 100000 in
set_option maxHeartbeats 4000000 in
theorem mc_X9_shift {D : va_G} {al : Nat → Nat} {cA : Nat → ClassId} {ba : Nat} (a0 : Int32) (a1 : Int32) (a2 : Int32) (a3 : Int32) (a4 : Int32) : MCx D al cA ba yX9_shift cX9_shift 8 (some .int) 1 60 rvI [.ref (al 0), .int a0, .int a1, .int a2, .int a3, .int a4] (F_X9_shift a0 a1 a2 a3 a4) := by
  refine MCx_of (by decide +kernel) (Nat.le_of_ble_eq_true rfl) ?_
  intro p l e s m args below meth c σ0 g hrt
  unfold F_X9_shift
  refine x_lv (lv' := [(0, .ref (al 0)), (1, .int a0), (2, .int a1), (3, .int a2), (4, .int a3), (5, .int a4)]) [0, 1, 2, 3, 4, 5] rfl ?_
  refine x_iload_n (pc := 0) g rfl 1 rfl dX9_shift_0 ?_
  refine x_callSI (pc := 1) (As := [.int a0]) g (mc_X9_isShelf a0) cw_X9_isShelf lk_X9_107 rfl ⟨Nat.le_of_ble_eq_true rfl, Nat.le_of_ble_eq_true rfl⟩ rfl (Nat.le_of_ble_eq_true rfl) dX9_shift_1 (fun v1 σ1 => ?_)
  refine x_if_eq (pc := 4) (tgt := 14) g (by decide) dX9_shift_4 ?_ ?_
  · refine x_iconst (pc := 14) (v := (-1 : Int32)) g (by decide) dX9_shift_14 ?_
    exact x_ireturn (pc := 15) g hrt dX9_shift_15
  · refine x_iload_n (pc := 7) g rfl 3 rfl dX9_shift_7 ?_
    refine x_callSI (pc := 8) (As := [.int a2]) g (mc_X9_isShelf a2) cw_X9_isShelf lk_X9_107 rfl ⟨Nat.le_of_ble_eq_true rfl, Nat.le_of_ble_eq_true rfl⟩ rfl (Nat.le_of_ble_eq_true rfl) dX9_shift_8 (fun v2 σ2 => ?_)
    refine x_if_ne (pc := 11) (tgt := 16) g (by decide) dX9_shift_11 ?_ ?_
    · refine x_aload_n (pc := 16) g rfl 0 rfl dX9_shift_16 ?_
      refine x_getR (pc := 17) g sh_0 fl_X9_72 rfl dX9_shift_17 ?_
      refine x_iload_n (pc := 20) g rfl 1 rfl dX9_shift_20 ?_
      refine x_aaldS (pc := 21) g sh_9 (by decide) dX9_shift_21 (fun k11 hk11 => ?_)
      refine x_astore (pc := 22) (lv' := [(6, .ref (al (10 + k11))), (0, .ref (al 0)), (1, .int a0), (2, .int a1), (3, .int a2), (4, .int a3), (5, .int a4)]) g (by decide) rfl dX9_shift_22 ?_
      refine x_aload_n (pc := 24) g rfl 1 rfl dX9_shift_24 ?_
      refine x_getR (pc := 25) g sh_0 fl_X9_72 rfl dX9_shift_25 ?_
      refine x_iload_n (pc := 28) g rfl 4 rfl dX9_shift_28 ?_
      refine x_aaldS (pc := 29) g sh_9 (by decide) dX9_shift_29 (fun k12 hk12 => ?_)
      refine x_astore (pc := 30) (lv' := [(7, .ref (al (10 + k12))), (6, .ref (al (10 + k11))), (0, .ref (al 0)), (1, .int a0), (2, .int a1), (3, .int a2), (4, .int a3), (5, .int a4)]) g (by decide) rfl dX9_shift_30 ?_
      refine x_aload (pc := 32) g 1 rfl dX9_shift_32 ?_
      refine x_getI (pc := 34) g (shf_10 k11 hk11) fl_X9_324 rfl dX9_shift_34 ?_
      refine x_iconst (pc := 37) (v := (-1 : Int32)) g (by decide) dX9_shift_37 ?_
      refine x_icmp_eq (pc := 38) (tgt := 50) g (by decide) dX9_shift_38 ?_ ?_
      · refine x_bipush (pc := 50) (v := (-11 : Int32)) g (by decide) dX9_shift_50 ?_
        exact x_ireturn (pc := 52) g hrt dX9_shift_52
      · refine x_aload (pc := 41) g 0 rfl dX9_shift_41 ?_
        refine x_getI (pc := 43) g (shf_10 k12 hk12) fl_X9_324 rfl dX9_shift_43 ?_
        refine x_iconst (pc := 46) (v := (-1 : Int32)) g (by decide) dX9_shift_46 ?_
        refine x_icmp_ne (pc := 47) (tgt := 53) g (by decide) dX9_shift_47 ?_ ?_
        · refine x_aload (pc := 53) g 1 rfl dX9_shift_53 ?_
          refine x_getI (pc := 55) g (shf_10 k11 hk11) fl_X9_324 rfl dX9_shift_55 ?_
          refine x_iconst (pc := 58) (v := (5 : Int32)) g (by decide) dX9_shift_58 ?_
          refine x_icmp_eq (pc := 59) (tgt := 75) g (by decide) dX9_shift_59 ?_ ?_
          · refine x_bipush (pc := 75) (v := (-12 : Int32)) g (by decide) dX9_shift_75 ?_
            exact x_ireturn (pc := 77) g hrt dX9_shift_77
          · refine x_aload (pc := 62) g 1 rfl dX9_shift_62 ?_
            refine x_getI (pc := 64) g (shf_10 k11 hk11) fl_X9_324 rfl dX9_shift_64 ?_
            refine x_aload (pc := 67) g 0 rfl dX9_shift_67 ?_
            refine x_getI (pc := 69) g (shf_10 k12 hk12) fl_X9_324 rfl dX9_shift_69 ?_
            refine x_icmp_eq (pc := 72) (tgt := 78) g (by decide) dX9_shift_72 ?_ ?_
            · refine x_aload (pc := 78) g 1 rfl dX9_shift_78 ?_
              refine x_iload_n (pc := 80) g rfl 4 rfl dX9_shift_80 ?_
              refine x_iload (pc := 81) g 7 rfl dX9_shift_81 ?_
              refine x_callVI (pc := 83) (As := [.int a1, .int a4]) g (shf_10 k11 hk11) (mc_X6_hasPlaces k11 hk11 a1 a4) cw_X6_hasPlaces lk_X9_321 rfl ⟨Nat.le_of_ble_eq_true rfl, Nat.le_of_ble_eq_true rfl⟩ rfl (Nat.le_of_ble_eq_true rfl) dX9_shift_83 (fun v3 σ3 => ?_)
              refine x_if_eq (pc := 86) (tgt := 101) g (by decide) dX9_shift_86 ?_ ?_
              · refine x_bipush (pc := 101) (v := (-13 : Int32)) g (by decide) dX9_shift_101 ?_
                exact x_ireturn (pc := 103) g hrt dX9_shift_103
              · refine x_aload (pc := 89) g 0 rfl dX9_shift_89 ?_
                refine x_iload (pc := 91) g 6 rfl dX9_shift_91 ?_
                refine x_iload (pc := 93) g 7 rfl dX9_shift_93 ?_
                refine x_callVI (pc := 95) (As := [.int a3, .int a4]) g (shf_10 k12 hk12) (mc_X6_hasPlaces k12 hk12 a3 a4) cw_X6_hasPlaces lk_X9_321 rfl ⟨Nat.le_of_ble_eq_true rfl, Nat.le_of_ble_eq_true rfl⟩ rfl (Nat.le_of_ble_eq_true rfl) dX9_shift_95 (fun v4 σ4 => ?_)
                refine x_if_ne (pc := 98) (tgt := 104) g (by decide) dX9_shift_98 ?_ ?_
                · refine x_aload (pc := 104) g 1 rfl dX9_shift_104 ?_
                  refine x_getR (pc := 106) g (shf_10 k11 hk11) fl_X9_88 rfl dX9_shift_106 ?_
                  refine x_iload_n (pc := 109) g rfl 4 rfl dX9_shift_109 ?_
                  refine x_aload (pc := 110) g 0 rfl dX9_shift_110 ?_
                  refine x_getR (pc := 112) g (shf_10 k12 hk12) fl_X9_88 rfl dX9_shift_112 ?_
                  refine x_iload (pc := 115) g 6 rfl dX9_shift_115 ?_
                  refine x_iload (pc := 117) g 7 rfl dX9_shift_117 ?_
                  refine x_copyL (pc := 119) g (shf_16 k11 hk11) (shf_16 k12 hk12) (by decide) (by decide) lk_X9_327 (Nat.le_of_ble_eq_true rfl) (Nat.le_of_ble_eq_true rfl) dX9_shift_119 (Nat.le_of_ble_eq_true rfl) (fun σ5 => ?_)
                  refine x_iload (pc := 122) g 7 rfl dX9_shift_122 ?_
                  exact x_ireturn (pc := 124) g hrt dX9_shift_124
                · refine x_bipush (pc := 101) (v := (-13 : Int32)) g (by decide) dX9_shift_101 ?_
                  exact x_ireturn (pc := 103) g hrt dX9_shift_103
            · refine x_bipush (pc := 75) (v := (-12 : Int32)) g (by decide) dX9_shift_75 ?_
              exact x_ireturn (pc := 77) g hrt dX9_shift_77
        · refine x_bipush (pc := 50) (v := (-11 : Int32)) g (by decide) dX9_shift_50 ?_
          exact x_ireturn (pc := 52) g hrt dX9_shift_52
    · refine x_iconst (pc := 14) (v := (-1 : Int32)) g (by decide) dX9_shift_14 ?_
      exact x_ireturn (pc := 15) g hrt dX9_shift_15
def F_X9_taken (N : Nat) (a0 : Int32) (a1 : Int32) (σ0 : Sx) : Option (Int32 × Sx) := clx (F_X9_isShelf a0 σ0) (fun v1 σ1 => (if v1 = 0 then some ((-1 : Int32), σ1) else (if a1 < 0 then some ((-1 : Int32), σ1) else (if a1 < (8 : Int32) then aRx 6 a0 (fun k11 => (if (siI σ1 (10 + k11) 0) = (-1 : Int32) then some ((-11 : Int32), σ1) else (if (siI σ1 (10 + k11) 0) = (5 : Int32) then clx (F_X0_isUnder N (siI σ1 (10 + k11) 2) a1 σ1) (fun v2 σ2 => (if v2 = 0 then some ((-12 : Int32), σ2) else some ((siI σ2 (10 + k11) 2), σ2))) else some ((-12 : Int32), σ1)))) else some ((-1 : Int32), σ1)))))
set_option maxRecDepth 100000 in
set_option maxHeartbeats 4000000 in
theorem mc_X9_taken {D : va_G} {al : Nat → Nat} {cA : Nat → ClassId} {ba : Nat} (N : Nat) (a0 : Int32) (a1 : Int32) : MCx D al cA ba yX9_taken cX9_taken 4 (some .int) 2 43 rvI [.ref (al 0), .int a0, .int a1] (F_X9_taken N a0 a1) := by
  refine MCx_of (by decide +kernel) (Nat.le_of_ble_eq_true rfl) ?_
  intro p l e s m args below meth c σ0 g hrt
  unfold F_X9_taken
  refine x_lv (lv' := [(0, .ref (al 0)), (1, .int a0), (2, .int a1)]) [0, 1, 2] rfl ?_
  refine x_iload_n (pc := 0) g rfl 1 rfl dX9_taken_0 ?_
  refine x_callSI (pc := 1) (As := [.int a0]) g (mc_X9_isShelf a0) cw_X9_isShelf lk_X9_107 rfl ⟨Nat.le_of_ble_eq_true rfl, Nat.le_of_ble_eq_true rfl⟩ rfl (Nat.le_of_ble_eq_true rfl) dX9_taken_1 (fun v1 σ1 => ?_)
  refine x_if_eq (pc := 4) (tgt := 17) g (by decide) dX9_taken_4 ?_ ?_
  · refine x_iconst (pc := 17) (v := (-1 : Int32)) g (by decide) dX9_taken_17 ?_
    exact x_ireturn (pc := 18) g hrt dX9_taken_18
  · refine x_iload_n (pc := 7) g rfl 2 rfl dX9_taken_7 ?_
    refine x_if_lt (pc := 8) (tgt := 17) g (by decide) dX9_taken_8 ?_ ?_
    · refine x_iconst (pc := 17) (v := (-1 : Int32)) g (by decide) dX9_taken_17 ?_
      exact x_ireturn (pc := 18) g hrt dX9_taken_18
    · refine x_iload_n (pc := 11) g rfl 2 rfl dX9_taken_11 ?_
      refine x_bipush (pc := 12) (v := (8 : Int32)) g (by decide) dX9_taken_12 ?_
      refine x_icmp_lt (pc := 14) (tgt := 19) g (by decide) dX9_taken_14 ?_ ?_
      · refine x_aload_n (pc := 19) g rfl 0 rfl dX9_taken_19 ?_
        refine x_getR (pc := 20) g sh_0 fl_X9_72 rfl dX9_taken_20 ?_
        refine x_iload_n (pc := 23) g rfl 1 rfl dX9_taken_23 ?_
        refine x_aaldS (pc := 24) g sh_9 (by decide) dX9_taken_24 (fun k11 hk11 => ?_)
        refine x_astore_n (pc := 25) (lv' := [(3, .ref (al (10 + k11))), (0, .ref (al 0)), (1, .int a0), (2, .int a1)]) g rfl (by decide) rfl dX9_taken_25 ?_
        refine x_aload_n (pc := 26) g rfl 0 rfl dX9_taken_26 ?_
        refine x_getI (pc := 27) g (shf_10 k11 hk11) fl_X9_324 rfl dX9_taken_27 ?_
        refine x_iconst (pc := 30) (v := (-1 : Int32)) g (by decide) dX9_taken_30 ?_
        refine x_icmp_ne (pc := 31) (tgt := 37) g (by decide) dX9_taken_31 ?_ ?_
        · refine x_aload_n (pc := 37) g rfl 0 rfl dX9_taken_37 ?_
          refine x_getI (pc := 38) g (shf_10 k11 hk11) fl_X9_324 rfl dX9_taken_38 ?_
          refine x_iconst (pc := 41) (v := (5 : Int32)) g (by decide) dX9_taken_41 ?_
          refine x_icmp_ne (pc := 42) (tgt := 63) g (by decide) dX9_taken_42 ?_ ?_
          · refine x_bipush (pc := 63) (v := (-12 : Int32)) g (by decide) dX9_taken_63 ?_
            exact x_ireturn (pc := 65) g hrt dX9_taken_65
          · refine x_aload_n (pc := 45) g rfl 0 rfl dX9_taken_45 ?_
            refine x_getI (pc := 46) g (shf_10 k11 hk11) fl_X9_333 rfl dX9_taken_46 ?_
            refine x_iload_n (pc := 49) g rfl 3 rfl dX9_taken_49 ?_
            refine x_callSI (pc := 50) (As := [.int (siI σ1 (10 + k11) 2), .int a1]) g (mc_X0_isUnder N (siI σ1 (10 + k11) 2) a1) cw_X0_isUnder lk_X9_336 rfl ⟨Nat.le_of_ble_eq_true rfl, Nat.le_of_ble_eq_true rfl⟩ rfl (Nat.le_of_ble_eq_true rfl) dX9_taken_50 (fun v2 σ2 => ?_)
            refine x_if_eq (pc := 53) (tgt := 63) g (by decide) dX9_taken_53 ?_ ?_
            · refine x_bipush (pc := 63) (v := (-12 : Int32)) g (by decide) dX9_taken_63 ?_
              exact x_ireturn (pc := 65) g hrt dX9_taken_65
            · refine x_aload_n (pc := 56) g rfl 0 rfl dX9_taken_56 ?_
              refine x_getI (pc := 57) g (shf_10 k11 hk11) fl_X9_333 rfl dX9_taken_57 ?_
              refine x_goto (pc := 60) (tgt := 65) g (by decide) dX9_taken_60 ?_
              exact x_ireturn (pc := 65) g hrt dX9_taken_65
        · refine x_bipush (pc := 34) (v := (-11 : Int32)) g (by decide) dX9_taken_34 ?_
          exact x_ireturn (pc := 36) g hrt dX9_taken_36
      · refine x_iconst (pc := 17) (v := (-1 : Int32)) g (by decide) dX9_taken_17 ?_
        exact x_ireturn (pc := 18) g hrt dX9_taken_18
def F_X9_count (N : Nat) (a0 : Int32) (σ0 : Sx) : Option (Int32 × Sx) := (if a0 = (0 : Int32) then some ((siI σ0 1 0), σ0) else (if a0 = (1 : Int32) then clx (F_X8_waysOfAll N  σ0) (fun v1 σ1 => some (v1, σ1)) else (if a0 = (2 : Int32) then some ((siI σ0 2 0), σ0) else (if a0 = (3 : Int32) then some ((siI σ0 7 1), σ0) else (if a0 = (4 : Int32) then some ((siI σ0 8 0), σ0) else (if a0 = (5 : Int32) then some ((siI σ0 8 2), σ0) else some ((-1 : Int32), σ0)))))))
set_option maxRecDepth 100000 in
set_option maxHeartbeats 4000000 in
theorem mc_X9_count {D : va_G} {al : Nat → Nat} {cA : Nat → ClassId} {ba : Nat} (N : Nat) (a0 : Int32) : MCx D al cA ba yX9_count cX9_count 2 (some .int) 1 22 rvI [.ref (al 0), .int a0] (F_X9_count N a0) := by
  refine MCx_of (by decide +kernel) (Nat.le_of_ble_eq_true rfl) ?_
  intro p l e s m args below meth c σ0 g hrt
  unfold F_X9_count
  refine x_lv (lv' := [(0, .ref (al 0)), (1, .int a0)]) [0, 1] rfl ?_
  refine x_iload_n (pc := 0) g rfl 1 rfl dX9_count_0 ?_
  refine x_eqs ?_ (fun hs1 => ?_)
  · refine x_tabIn (pc := 1) (tgt := 40) (off := 39) g (by decide) (by decide) dX9_count_1 ?_
    refine x_aload_n (pc := 40) g rfl 0 rfl dX9_count_40 ?_
    refine x_getR (pc := 41) g sh_0 fl_X9_18 rfl dX9_count_41 ?_
    refine x_getI (pc := 44) g sh_1 fl_X9_80 rfl dX9_count_44 ?_
    exact x_ireturn (pc := 47) g hrt dX9_count_47
  refine x_eqs ?_ (fun hs2 => ?_)
  · refine x_tabIn (pc := 1) (tgt := 48) (off := 47) g (by decide) (by decide) dX9_count_1 ?_
    refine x_aload_n (pc := 48) g rfl 0 rfl dX9_count_48 ?_
    refine x_getR (pc := 49) g sh_0 fl_X9_18 rfl dX9_count_49 ?_
    refine x_callVI (pc := 52) (As := []) g sh_1 (mc_X8_waysOfAll N ) cw_X8_waysOfAll lk_X9_339 rfl ⟨Nat.le_of_ble_eq_true rfl, Nat.le_of_ble_eq_true rfl⟩ rfl (Nat.le_of_ble_eq_true rfl) dX9_count_52 (fun v1 σ1 => ?_)
    exact x_ireturn (pc := 55) g hrt dX9_count_55
  refine x_eqs ?_ (fun hs3 => ?_)
  · refine x_tabIn (pc := 1) (tgt := 56) (off := 55) g (by decide) (by decide) dX9_count_1 ?_
    refine x_aload_n (pc := 56) g rfl 0 rfl dX9_count_56 ?_
    refine x_getR (pc := 57) g sh_0 fl_X9_24 rfl dX9_count_57 ?_
    refine x_getI (pc := 60) g sh_2 fl_X9_151 rfl dX9_count_60 ?_
    exact x_ireturn (pc := 63) g hrt dX9_count_63
  refine x_eqs ?_ (fun hs4 => ?_)
  · refine x_tabIn (pc := 1) (tgt := 64) (off := 63) g (by decide) (by decide) dX9_count_1 ?_
    refine x_aload_n (pc := 64) g rfl 0 rfl dX9_count_64 ?_
    refine x_getR (pc := 65) g sh_0 fl_X9_58 rfl dX9_count_65 ?_
    refine x_getI (pc := 68) g sh_7 fl_X9_272 rfl dX9_count_68 ?_
    exact x_ireturn (pc := 71) g hrt dX9_count_71
  refine x_eqs ?_ (fun hs5 => ?_)
  · refine x_tabIn (pc := 1) (tgt := 72) (off := 71) g (by decide) (by decide) dX9_count_1 ?_
    refine x_aload_n (pc := 72) g rfl 0 rfl dX9_count_72 ?_
    refine x_getR (pc := 73) g sh_0 fl_X9_65 rfl dX9_count_73 ?_
    refine x_getI (pc := 76) g sh_8 fl_X9_342 rfl dX9_count_76 ?_
    exact x_ireturn (pc := 79) g hrt dX9_count_79
  refine x_eqs ?_ (fun hs6 => ?_)
  · refine x_tabIn (pc := 1) (tgt := 80) (off := 79) g (by decide) (by decide) dX9_count_1 ?_
    refine x_aload_n (pc := 80) g rfl 0 rfl dX9_count_80 ?_
    refine x_getR (pc := 81) g sh_0 fl_X9_65 rfl dX9_count_81 ?_
    refine x_getI (pc := 84) g sh_8 fl_X9_345 rfl dX9_count_84 ?_
    exact x_ireturn (pc := 87) g hrt dX9_count_87
  refine x_tabOut (pc := 1) (tgt := 88) g (fun i h1 h2 => ?_) (by decide) dX9_count_1 ?_
  · rcases (show i = 0 ∨ i = 1 ∨ i = 2 ∨ i = 3 ∨ i = 4 ∨ i = 5 by omega) with rfl | rfl | rfl | rfl | rfl | rfl
    · exact hs1
    · exact hs2
    · exact hs3
    · exact hs4
    · exact hs5
    · exact hs6
  · refine x_iconst (pc := 88) (v := (-1 : Int32)) g (by decide) dX9_count_88 ?_
    exact x_ireturn (pc := 89) g hrt dX9_count_89
