def B_X1_dropOldest_L2 (N : Nat) (j32 : Sx → Option (Unit × Sx)) (r2 : Int32 → Sx → Option (Unit × Sx)) (x1 : Int32) (σ3 : Sx) : Option (Unit × Sx) := (if (3 : Int32) < x1 then j32 σ3 else aRx 4 x1 (fun k11 => aRx 4 x1 (fun k12 => cIx (97 + k11) 40 (1 : Int32) (97 + k12) 40 (0 : Int32) (39 : Int32) σ3 (fun σ4 => r2 (x1 + (1 : Int32)) σ4))))
def F_X1_dropOldest (N : Nat) (σ0 : Sx) : Option (Unit × Sx) := nmx (fun (σ1 : Sx) => pIx 7 1 (39 : Int32) σ1 (fun σ2 => some ((), σ2))) (fun (j32 : Sx → Option (Unit × Sx)) => lpx1 (B_X1_dropOldest_L2 N j32) N (0 : Int32) σ0)
set_option maxRecDepth 100000 in
set_option maxHeartbeats 4000000 in
theorem mc_X1_dropOldest {D : va_G} {al : Nat → Nat} {cA : Nat → ClassId} {ba : Nat} (N : Nat)  : MCx D al cA ba yX1_dropOldest cX1_dropOldest 2 none 1 60 rvU [.ref (al 7)] (F_X1_dropOldest N) := by
  refine MCx_of (by decide +kernel) (Nat.le_of_ble_eq_true rfl) ?_
  intro p l e s m args below meth c σ0 g hrt
  unfold F_X1_dropOldest
  refine x_lv (lv' := [(0, .ref (al 7))]) [0] rfl ?_
  refine x_iconst (pc := 0) (v := (0 : Int32)) g (by decide) dX1_dropOldest_0 ?_
  refine x_istore_n (pc := 1) (lv' := [(1, .int (0 : Int32)), (0, .ref (al 7))]) g rfl (by decide) rfl dX1_dropOldest_1 ?_
  refine x_jn (fun (j32 : Sx → Option (Unit × Sx)) => ∀ (σ1 : Sx), XTx p l e { frames := 1, cells := 0, slots := 0, locals := 60 } s m args below meth c D al cA ba 2 (MQx rvU D al cA ba below args s) 0 0 32 [(0, .ref (al 7))] [] σ1 (j32 σ1)) (fun σ1 => ?_) (fun j32 hj32 => ?_)
  · refine x_aload_n (pc := 32) g rfl 0 rfl dX1_dropOldest_32 ?_
    refine x_bipush (pc := 33) (v := (39 : Int32)) g (by decide) dX1_dropOldest_33 ?_
    refine x_putI (pc := 35) g sh_7 fl_X1_14 rfl dX1_dropOldest_35 (fun σ2 => ?_)
    exact x_return (pc := 38) g hrt dX1_dropOldest_38
  · refine x_lv [1, 0] rfl ?_
    refine lpx1_ind (fun (x1 : Int32) (σ3 : Sx) (K : Option (Unit × Sx)) => XTx p l e { frames := 1, cells := 0, slots := 0, locals := 60 } s m args below meth c D al cA ba 2 (MQx rvU D al cA ba below args s) 0 0 2 [(0, .ref (al 7)), (1, .int x1)] [] σ3 (K)) (fun _ _ => x_no) (fun r2 hr2 x1 σ3 => ?_) N (0 : Int32) σ0
    show XTx p l e { frames := 1, cells := 0, slots := 0, locals := 60 } s m args below meth c D al cA ba 2 (MQx rvU D al cA ba below args s) 0 0 2 [(0, .ref (al 7)), (1, .int x1)] [] σ3 (B_X1_dropOldest_L2 N j32 r2 x1 σ3)
    unfold B_X1_dropOldest_L2
    refine x_iload_n (pc := 2) g rfl 1 rfl dX1_dropOldest_2 ?_
    refine x_iconst (pc := 3) (v := (3 : Int32)) g (by decide) dX1_dropOldest_3 ?_
    refine x_icmp_gt (pc := 4) (tgt := 32) g (by decide) dX1_dropOldest_4 ?_ ?_
    · refine x_lv [0] rfl ?_
      exact hj32 σ3
    · refine x_aload_n (pc := 7) g rfl 0 rfl dX1_dropOldest_7 ?_
      refine x_getR (pc := 8) g sh_7 fl_X1_11 rfl dX1_dropOldest_8 ?_
      refine x_iload_n (pc := 11) g rfl 1 rfl dX1_dropOldest_11 ?_
      refine x_aaldR (pc := 12) g sh_96 (by decide) dX1_dropOldest_12 (fun k11 hk11 => ?_)
      refine x_iconst (pc := 13) (v := (1 : Int32)) g (by decide) dX1_dropOldest_13 ?_
      refine x_aload_n (pc := 14) g rfl 0 rfl dX1_dropOldest_14 ?_
      refine x_getR (pc := 15) g sh_7 fl_X1_11 rfl dX1_dropOldest_15 ?_
      refine x_iload_n (pc := 18) g rfl 1 rfl dX1_dropOldest_18 ?_
      refine x_aaldR (pc := 19) g sh_96 (by decide) dX1_dropOldest_19 (fun k12 hk12 => ?_)
      refine x_iconst (pc := 20) (v := (0 : Int32)) g (by decide) dX1_dropOldest_20 ?_
      refine x_bipush (pc := 21) (v := (39 : Int32)) g (by decide) dX1_dropOldest_21 ?_
      refine x_copyI (pc := 23) g (shf_97 k11 hk11) (shf_97 k12 hk12) (by decide) (by decide) lk_X1_24 (Nat.le_of_ble_eq_true rfl) (Nat.le_of_ble_eq_true rfl) dX1_dropOldest_23 (Nat.le_of_ble_eq_true rfl) (fun σ4 => ?_)
      refine x_iinc (pc := 26) (v := (x1 + (1 : Int32))) (lv' := [(1, .int (x1 + (1 : Int32))), (0, .ref (al 7))]) g 1 rfl (by rfl) (by decide) rfl dX1_dropOldest_26 ?_
      refine x_goto (pc := 29) (tgt := 2) g (by decide) dX1_dropOldest_29 ?_
      refine x_lv [1, 0] rfl ?_
      exact hr2 (x1 + (1 : Int32)) σ4
def F_X1_note (N : Nat) (a0 : Int32) (a1 : Int32) (a2 : Int32) (a3 : Int32) (σ0 : Sx) : Option (Unit × Sx) := nmx (fun (σ1 : Sx) => aRx 4 (0 : Int32) (fun k11 => sIx (97 + k11) 40 (siI σ1 7 1) a0 σ1 (fun σ2 => aRx 4 (1 : Int32) (fun k12 => sIx (97 + k12) 40 (siI σ2 7 1) a1 σ2 (fun σ3 => aRx 4 (2 : Int32) (fun k13 => sIx (97 + k13) 40 (siI σ3 7 1) a2 σ3 (fun σ4 => aRx 4 (3 : Int32) (fun k14 => sIx (97 + k14) 40 (siI σ4 7 1) a3 σ4 (fun σ5 => pIx 7 1 ((siI σ5 7 1) + (1 : Int32)) σ5 (fun σ6 => pIx 7 2 (siI σ6 7 1) σ6 (fun σ7 => some ((), σ7)))))))))))) (fun (j13 : Sx → Option (Unit × Sx)) => (if (siI σ0 7 1) < (40 : Int32) then j13 σ0 else clx (F_X1_dropOldest N  σ0) (fun _ σ8 => j13 σ8)))
set_option maxRecDepth 100000 in
set_option maxHeartbeats 4000000 in
theorem mc_X1_note {D : va_G} {al : Nat → Nat} {cA : Nat → ClassId} {ba : Nat} (N : Nat) (a0 : Int32) (a1 : Int32) (a2 : Int32) (a3 : Int32) : MCx D al cA ba yX1_note cX1_note 5 none 2 81 rvU [.ref (al 7), .int a0, .int a1, .int a2, .int a3] (F_X1_note N a0 a1 a2 a3) := by
  refine MCx_of (by decide +kernel) (Nat.le_of_ble_eq_true rfl) ?_
  intro p l e s m args below meth c σ0 g hrt
  unfold F_X1_note
  refine x_lv (lv' := [(0, .ref (al 7)), (1, .int a0), (2, .int a1), (3, .int a2), (4, .int a3)]) [0, 1, 2, 3, 4] rfl ?_
  refine x_aload_n (pc := 0) g rfl 0 rfl dX1_note_0 ?_
  refine x_getI (pc := 1) g sh_7 fl_X1_14 rfl dX1_note_1 ?_
  refine x_bipush (pc := 4) (v := (40 : Int32)) g (by decide) dX1_note_4 ?_
  refine x_jn (fun (j13 : Sx → Option (Unit × Sx)) => ∀ (σ1 : Sx), XTx p l e { frames := 2, cells := 0, slots := 0, locals := 81 } s m args below meth c D al cA ba 5 (MQx rvU D al cA ba below args s) 0 0 13 [(0, .ref (al 7)), (1, .int a0), (2, .int a1), (3, .int a2), (4, .int a3)] [] σ1 (j13 σ1)) (fun σ1 => ?_) (fun j13 hj13 => ?_)
  · refine x_aload_n (pc := 13) g rfl 0 rfl dX1_note_13 ?_
    refine x_getR (pc := 14) g sh_7 fl_X1_11 rfl dX1_note_14 ?_
    refine x_iconst (pc := 17) (v := (0 : Int32)) g (by decide) dX1_note_17 ?_
    refine x_aaldR (pc := 18) g sh_96 (by decide) dX1_note_18 (fun k11 hk11 => ?_)
    refine x_aload_n (pc := 19) g rfl 0 rfl dX1_note_19 ?_
    refine x_getI (pc := 20) g sh_7 fl_X1_14 rfl dX1_note_20 ?_
    refine x_iload_n (pc := 23) g rfl 1 rfl dX1_note_23 ?_
    refine x_iast (pc := 24) g (shf_97 k11 hk11) (by decide) dX1_note_24 (fun σ2 => ?_)
    refine x_aload_n (pc := 25) g rfl 0 rfl dX1_note_25 ?_
    refine x_getR (pc := 26) g sh_7 fl_X1_11 rfl dX1_note_26 ?_
    refine x_iconst (pc := 29) (v := (1 : Int32)) g (by decide) dX1_note_29 ?_
    refine x_aaldR (pc := 30) g sh_96 (by decide) dX1_note_30 (fun k12 hk12 => ?_)
    refine x_aload_n (pc := 31) g rfl 0 rfl dX1_note_31 ?_
    refine x_getI (pc := 32) g sh_7 fl_X1_14 rfl dX1_note_32 ?_
    refine x_iload_n (pc := 35) g rfl 2 rfl dX1_note_35 ?_
    refine x_iast (pc := 36) g (shf_97 k12 hk12) (by decide) dX1_note_36 (fun σ3 => ?_)
    refine x_aload_n (pc := 37) g rfl 0 rfl dX1_note_37 ?_
    refine x_getR (pc := 38) g sh_7 fl_X1_11 rfl dX1_note_38 ?_
    refine x_iconst (pc := 41) (v := (2 : Int32)) g (by decide) dX1_note_41 ?_
    refine x_aaldR (pc := 42) g sh_96 (by decide) dX1_note_42 (fun k13 hk13 => ?_)
    refine x_aload_n (pc := 43) g rfl 0 rfl dX1_note_43 ?_
    refine x_getI (pc := 44) g sh_7 fl_X1_14 rfl dX1_note_44 ?_
    refine x_iload_n (pc := 47) g rfl 3 rfl dX1_note_47 ?_
    refine x_iast (pc := 48) g (shf_97 k13 hk13) (by decide) dX1_note_48 (fun σ4 => ?_)
    refine x_aload_n (pc := 49) g rfl 0 rfl dX1_note_49 ?_
    refine x_getR (pc := 50) g sh_7 fl_X1_11 rfl dX1_note_50 ?_
    refine x_iconst (pc := 53) (v := (3 : Int32)) g (by decide) dX1_note_53 ?_
    refine x_aaldR (pc := 54) g sh_96 (by decide) dX1_note_54 (fun k14 hk14 => ?_)
    refine x_aload_n (pc := 55) g rfl 0 rfl dX1_note_55 ?_
    refine x_getI (pc := 56) g sh_7 fl_X1_14 rfl dX1_note_56 ?_
    refine x_iload (pc := 59) g 4 rfl dX1_note_59 ?_
    refine x_iast (pc := 61) g (shf_97 k14 hk14) (by decide) dX1_note_61 (fun σ5 => ?_)
    refine x_aload_n (pc := 62) g rfl 0 rfl dX1_note_62 ?_
    refine x_dup (pc := 63) g rfl dX1_note_63 ?_
    refine x_getI (pc := 64) g sh_7 fl_X1_14 rfl dX1_note_64 ?_
    refine x_iconst (pc := 67) (v := (1 : Int32)) g (by decide) dX1_note_67 ?_
    refine x_iadd (pc := 68) g dX1_note_68 ?_
    refine x_putI (pc := 69) g sh_7 fl_X1_14 rfl dX1_note_69 (fun σ6 => ?_)
    refine x_aload_n (pc := 72) g rfl 0 rfl dX1_note_72 ?_
    refine x_aload_n (pc := 73) g rfl 0 rfl dX1_note_73 ?_
    refine x_getI (pc := 74) g sh_7 fl_X1_14 rfl dX1_note_74 ?_
    refine x_putI (pc := 77) g sh_7 fl_X1_21 rfl dX1_note_77 (fun σ7 => ?_)
    exact x_return (pc := 80) g hrt dX1_note_80
  · refine x_icmp_lt (pc := 6) (tgt := 13) g (by decide) dX1_note_6 ?_ ?_
    · exact hj13 σ0
    · refine x_aload_n (pc := 9) g rfl 0 rfl dX1_note_9 ?_
      refine x_callVU (pc := 10) (As := []) g sh_7 (mc_X1_dropOldest N ) cw_X1_dropOldest lk_X1_18 rfl ⟨Nat.le_of_ble_eq_true rfl, Nat.le_of_ble_eq_true rfl⟩ rfl (Nat.le_of_ble_eq_true rfl) dX1_note_10 (fun _ σ8 => ?_)
      exact hj13 σ8
def F_X1_unmake (N : Nat) (σ0 : Sx) : Option (Int32 × Sx) := (if 0 < (siI σ0 7 1) then pIx 7 1 ((siI σ0 7 1) - (1 : Int32)) σ0 (fun σ1 => aRx 4 (1 : Int32) (fun k11 => aIx (97 + k11) 40 (siI σ1 7 1) σ1 (fun v1 => aRx 4 (0 : Int32) (fun k12 => aIx (97 + k12) 40 (siI σ1 7 1) σ1 (fun v2 => aRx 4 (2 : Int32) (fun k13 => aIx (97 + k13) 40 (siI σ1 7 1) σ1 (fun v3 => clx (F_X8_tell N v1 v2 v3 σ1) (fun _ σ2 => some ((1 : Int32), σ2))))))))) else some ((0 : Int32), σ0))
set_option maxRecDepth 100000 in
set_option maxHeartbeats 4000000 in
theorem mc_X1_unmake {D : va_G} {al : Nat → Nat} {cA : Nat → ClassId} {ba : Nat} (N : Nat)  : MCx D al cA ba yX1_unmake cX1_unmake 2 (some .boolean) 4 89 rvI [.ref (al 7), .ref (al 1)] (F_X1_unmake N) := by
  refine MCx_of (by decide +kernel) (Nat.le_of_ble_eq_true rfl) ?_
  intro p l e s m args below meth c σ0 g hrt
  unfold F_X1_unmake
  refine x_lv (lv' := [(0, .ref (al 7)), (1, .ref (al 1))]) [0, 1] rfl ?_
  refine x_aload_n (pc := 0) g rfl 0 rfl dX1_unmake_0 ?_
  refine x_getI (pc := 1) g sh_7 fl_X1_14 rfl dX1_unmake_1 ?_
  refine x_if_gt (pc := 4) (tgt := 9) g (by decide) dX1_unmake_4 ?_ ?_
  · refine x_aload_n (pc := 9) g rfl 0 rfl dX1_unmake_9 ?_
    refine x_dup (pc := 10) g rfl dX1_unmake_10 ?_
    refine x_getI (pc := 11) g sh_7 fl_X1_14 rfl dX1_unmake_11 ?_
    refine x_iconst (pc := 14) (v := (1 : Int32)) g (by decide) dX1_unmake_14 ?_
    refine x_isub (pc := 15) g dX1_unmake_15 ?_
    refine x_putI (pc := 16) g sh_7 fl_X1_14 rfl dX1_unmake_16 (fun σ1 => ?_)
    refine x_aload_n (pc := 19) g rfl 1 rfl dX1_unmake_19 ?_
    refine x_aload_n (pc := 20) g rfl 0 rfl dX1_unmake_20 ?_
    refine x_getR (pc := 21) g sh_7 fl_X1_11 rfl dX1_unmake_21 ?_
    refine x_iconst (pc := 24) (v := (1 : Int32)) g (by decide) dX1_unmake_24 ?_
    refine x_aaldR (pc := 25) g sh_96 (by decide) dX1_unmake_25 (fun k11 hk11 => ?_)
    refine x_aload_n (pc := 26) g rfl 0 rfl dX1_unmake_26 ?_
    refine x_getI (pc := 27) g sh_7 fl_X1_14 rfl dX1_unmake_27 ?_
    refine x_iald (pc := 30) g (shf_97 k11 hk11) (by decide) dX1_unmake_30 (fun v1 => ?_)
    refine x_aload_n (pc := 31) g rfl 0 rfl dX1_unmake_31 ?_
    refine x_getR (pc := 32) g sh_7 fl_X1_11 rfl dX1_unmake_32 ?_
    refine x_iconst (pc := 35) (v := (0 : Int32)) g (by decide) dX1_unmake_35 ?_
    refine x_aaldR (pc := 36) g sh_96 (by decide) dX1_unmake_36 (fun k12 hk12 => ?_)
    refine x_aload_n (pc := 37) g rfl 0 rfl dX1_unmake_37 ?_
    refine x_getI (pc := 38) g sh_7 fl_X1_14 rfl dX1_unmake_38 ?_
    refine x_iald (pc := 41) g (shf_97 k12 hk12) (by decide) dX1_unmake_41 (fun v2 => ?_)
    refine x_aload_n (pc := 42) g rfl 0 rfl dX1_unmake_42 ?_
    refine x_getR (pc := 43) g sh_7 fl_X1_11 rfl dX1_unmake_43 ?_
    refine x_iconst (pc := 46) (v := (2 : Int32)) g (by decide) dX1_unmake_46 ?_
    refine x_aaldR (pc := 47) g sh_96 (by decide) dX1_unmake_47 (fun k13 hk13 => ?_)
    refine x_aload_n (pc := 48) g rfl 0 rfl dX1_unmake_48 ?_
    refine x_getI (pc := 49) g sh_7 fl_X1_14 rfl dX1_unmake_49 ?_
    refine x_iald (pc := 52) g (shf_97 k13 hk13) (by decide) dX1_unmake_52 (fun v3 => ?_)
    refine x_callVU (pc := 53) (As := [.int v1, .int v2, .int v3]) g sh_1 (mc_X8_tell N v1 v2 v3) cw_X8_tell lk_X1_30 rfl ⟨Nat.le_of_ble_eq_true rfl, Nat.le_of_ble_eq_true rfl⟩ rfl (Nat.le_of_ble_eq_true rfl) dX1_unmake_53 (fun _ σ2 => ?_)
    refine x_iconst (pc := 56) (v := (1 : Int32)) g (by decide) dX1_unmake_56 ?_
    exact x_zreturn (pc := 57) g hrt (by decide) dX1_unmake_57
  · refine x_iconst (pc := 7) (v := (0 : Int32)) g (by decide) dX1_unmake_7 ?_
    exact x_zreturn (pc := 8) g hrt (by decide) dX1_unmake_8
def F_X1_remake (N : Nat) (σ0 : Sx) : Option (Int32 × Sx) := (if (siI σ0 7 1) < (siI σ0 7 2) then aRx 4 (1 : Int32) (fun k11 => aIx (97 + k11) 40 (siI σ0 7 1) σ0 (fun v1 => aRx 4 (0 : Int32) (fun k12 => aIx (97 + k12) 40 (siI σ0 7 1) σ0 (fun v2 => aRx 4 (3 : Int32) (fun k13 => aIx (97 + k13) 40 (siI σ0 7 1) σ0 (fun v3 => clx (F_X8_tell N v1 v2 v3 σ0) (fun _ σ1 => pIx 7 1 ((siI σ1 7 1) + (1 : Int32)) σ1 (fun σ2 => some ((1 : Int32), σ2))))))))) else some ((0 : Int32), σ0))
set_option maxRecDepth 100000 in
set_option maxHeartbeats 4000000 in
theorem mc_X1_remake {D : va_G} {al : Nat → Nat} {cA : Nat → ClassId} {ba : Nat} (N : Nat)  : MCx D al cA ba yX1_remake cX1_remake 2 (some .boolean) 4 89 rvI [.ref (al 7), .ref (al 1)] (F_X1_remake N) := by
  refine MCx_of (by decide +kernel) (Nat.le_of_ble_eq_true rfl) ?_
  intro p l e s m args below meth c σ0 g hrt
  unfold F_X1_remake
  refine x_lv (lv' := [(0, .ref (al 7)), (1, .ref (al 1))]) [0, 1] rfl ?_
  refine x_aload_n (pc := 0) g rfl 0 rfl dX1_remake_0 ?_
  refine x_getI (pc := 1) g sh_7 fl_X1_14 rfl dX1_remake_1 ?_
  refine x_aload_n (pc := 4) g rfl 0 rfl dX1_remake_4 ?_
  refine x_getI (pc := 5) g sh_7 fl_X1_21 rfl dX1_remake_5 ?_
  refine x_icmp_lt (pc := 8) (tgt := 13) g (by decide) dX1_remake_8 ?_ ?_
  · refine x_aload_n (pc := 13) g rfl 1 rfl dX1_remake_13 ?_
    refine x_aload_n (pc := 14) g rfl 0 rfl dX1_remake_14 ?_
    refine x_getR (pc := 15) g sh_7 fl_X1_11 rfl dX1_remake_15 ?_
    refine x_iconst (pc := 18) (v := (1 : Int32)) g (by decide) dX1_remake_18 ?_
    refine x_aaldR (pc := 19) g sh_96 (by decide) dX1_remake_19 (fun k11 hk11 => ?_)
    refine x_aload_n (pc := 20) g rfl 0 rfl dX1_remake_20 ?_
    refine x_getI (pc := 21) g sh_7 fl_X1_14 rfl dX1_remake_21 ?_
    refine x_iald (pc := 24) g (shf_97 k11 hk11) (by decide) dX1_remake_24 (fun v1 => ?_)
    refine x_aload_n (pc := 25) g rfl 0 rfl dX1_remake_25 ?_
    refine x_getR (pc := 26) g sh_7 fl_X1_11 rfl dX1_remake_26 ?_
    refine x_iconst (pc := 29) (v := (0 : Int32)) g (by decide) dX1_remake_29 ?_
    refine x_aaldR (pc := 30) g sh_96 (by decide) dX1_remake_30 (fun k12 hk12 => ?_)
    refine x_aload_n (pc := 31) g rfl 0 rfl dX1_remake_31 ?_
    refine x_getI (pc := 32) g sh_7 fl_X1_14 rfl dX1_remake_32 ?_
    refine x_iald (pc := 35) g (shf_97 k12 hk12) (by decide) dX1_remake_35 (fun v2 => ?_)
    refine x_aload_n (pc := 36) g rfl 0 rfl dX1_remake_36 ?_
    refine x_getR (pc := 37) g sh_7 fl_X1_11 rfl dX1_remake_37 ?_
    refine x_iconst (pc := 40) (v := (3 : Int32)) g (by decide) dX1_remake_40 ?_
    refine x_aaldR (pc := 41) g sh_96 (by decide) dX1_remake_41 (fun k13 hk13 => ?_)
    refine x_aload_n (pc := 42) g rfl 0 rfl dX1_remake_42 ?_
    refine x_getI (pc := 43) g sh_7 fl_X1_14 rfl dX1_remake_43 ?_
    refine x_iald (pc := 46) g (shf_97 k13 hk13) (by decide) dX1_remake_46 (fun v3 => ?_)
    refine x_callVU (pc := 47) (As := [.int v1, .int v2, .int v3]) g sh_1 (mc_X8_tell N v1 v2 v3) cw_X8_tell lk_X1_30 rfl ⟨Nat.le_of_ble_eq_true rfl, Nat.le_of_ble_eq_true rfl⟩ rfl (Nat.le_of_ble_eq_true rfl) dX1_remake_47 (fun _ σ1 => ?_)
    refine x_aload_n (pc := 50) g rfl 0 rfl dX1_remake_50 ?_
    refine x_dup (pc := 51) g rfl dX1_remake_51 ?_
    refine x_getI (pc := 52) g sh_7 fl_X1_14 rfl dX1_remake_52 ?_
    refine x_iconst (pc := 55) (v := (1 : Int32)) g (by decide) dX1_remake_55 ?_
    refine x_iadd (pc := 56) g dX1_remake_56 ?_
    refine x_putI (pc := 57) g sh_7 fl_X1_14 rfl dX1_remake_57 (fun σ2 => ?_)
    refine x_iconst (pc := 60) (v := (1 : Int32)) g (by decide) dX1_remake_60 ?_
    exact x_zreturn (pc := 61) g hrt (by decide) dX1_remake_61
  · refine x_iconst (pc := 11) (v := (0 : Int32)) g (by decide) dX1_remake_11 ?_
    exact x_zreturn (pc := 12) g hrt (by decide) dX1_remake_12
def F_X1_unmade (σ0 : Sx) : Option (Int32 × Sx) := some (((siI σ0 7 2) - (siI σ0 7 1)), σ0)
set_option maxRecDepth 100000 in
set_option maxHeartbeats 4000000 in
theorem mc_X1_unmade {D : va_G} {al : Nat → Nat} {cA : Nat → ClassId} {ba : Nat}  : MCx D al cA ba yX1_unmade cX1_unmade 1 (some .int) 0 0 rvI [.ref (al 7)] (F_X1_unmade ) := by
  refine MCx_of (by decide +kernel) (Nat.le_of_ble_eq_true rfl) ?_
  intro p l e s m args below meth c σ0 g hrt
  unfold F_X1_unmade
  refine x_lv (lv' := [(0, .ref (al 7))]) [0] rfl ?_
  refine x_aload_n (pc := 0) g rfl 0 rfl dX1_unmade_0 ?_
  refine x_getI (pc := 1) g sh_7 fl_X1_21 rfl dX1_unmade_1 ?_
  refine x_aload_n (pc := 4) g rfl 0 rfl dX1_unmade_4 ?_
  refine x_getI (pc := 5) g sh_7 fl_X1_14 rfl dX1_unmade_5 ?_
  refine x_isub (pc := 8) g dX1_unmade_8 ?_
  exact x_ireturn (pc := 9) g hrt dX1_unmade_9
