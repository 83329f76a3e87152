def F_X2_spoil (σ0 : Sx) : Option (Unit × Sx) := pZx 3 2 (1 : Int32) σ0 (fun σ1 => some ((), σ1))
set_option maxRecDepth 100000 in
set_option maxHeartbeats 4000000 in
theorem mc_X2_spoil {D : va_G} {al : Nat → Nat} {cA : Nat → ClassId} {ba : Nat}  : MCx D al cA ba yX2_spoil cX2_spoil 1 none 0 0 rvU [.ref (al 3)] (F_X2_spoil ) := by
  refine MCx_of (by decide +kernel) (Nat.le_of_ble_eq_true rfl) ?_
  intro p l e s m args below meth c σ0 g hrt
  unfold F_X2_spoil
  refine x_lv (lv' := [(0, .ref (al 3))]) [0] rfl ?_
  refine x_aload_n (pc := 0) g rfl 0 rfl dX2_spoil_0 ?_
  refine x_iconst (pc := 1) (v := (1 : Int32)) g (by decide) dX2_spoil_1 ?_
  refine x_putZ (pc := 2) g sh_3 fl_X2_9 rfl dX2_spoil_2 (fun σ1 => ?_)
  exact x_return (pc := 5) g hrt dX2_spoil_5
def B_X2_spread_L109 (N : Nat) (a0 : Int32) (v1 : Int32) (r109 : Int32 → Sx → Option (Unit × Sx)) (x1 : Int32) (σ2 : Sx) : Option (Unit × Sx) := (if v1 ≤ x1 then some ((), σ2) else aIx 84 1024 x1 σ2 (fun v2 => clx (F_X8_wayIndex a0 (0 : Int32) σ2) (fun v3 σ3 => sIx 84 1024 x1 (v2 ||| (jshl (1 : Int32) v3)) σ3 (fun σ4 => r109 (x1 + (1 : Int32)) σ4))))
def B_X2_spread_L23 (N : Nat) (a0 : Int32) (v1 : Int32) (x2 : Int32) (j101 : Sx → Option (Unit × Sx)) (r23 : Int32 → Sx → Option (Unit × Sx)) (x3 : Int32) (σ7 : Sx) : Option (Unit × Sx) := (if v1 ≤ x3 then j101 σ7 else (if (1024 : Int32) ≤ (siI σ7 3 5) then j101 σ7 else aIx 83 1024 x3 σ7 (fun v5 => sIx 83 1024 (siI σ7 3 5) (v5 ||| (jshl x2 ((2 : Int32) * a0))) σ7 (fun σ8 => aIx 84 1024 x3 σ8 (fun v6 => clx (F_X8_wayIndex a0 x2 σ8) (fun v7 σ9 => sIx 84 1024 (siI σ8 3 5) (v6 ||| (jshl (1 : Int32) v7)) σ9 (fun σ10 => pIx 3 5 ((siI σ10 3 5) + (1 : Int32)) σ10 (fun σ11 => r23 (x3 + (1 : Int32)) σ11))))))))
def B_X2_spread_L7 (N : Nat) (a0 : Int32) (v1 : Int32) (j107 : Sx → Option (Unit × Sx)) (r7 : Int32 → Sx → Option (Unit × Sx)) (x2 : Int32) (σ5 : Sx) : Option (Unit × Sx) := aIx 35 5 a0 σ5 (fun v4 => (if v4 ≤ x2 then j107 σ5 else nmx (fun (σ6 : Sx) => r7 (x2 + (1 : Int32)) σ6) (fun (j101 : Sx → Option (Unit × Sx)) => lpx1 (B_X2_spread_L23 N a0 v1 x2 j101) N (0 : Int32) σ5)))
def F_X2_spread (N : Nat) (a0 : Int32) (σ0 : Sx) : Option (Unit × Sx) := nmx ((siI σ0 3 5)) (fun v1 => nmx (fun (σ1 : Sx) => lpx1 (B_X2_spread_L109 N a0 v1) N (0 : Int32) σ1) (fun (j107 : Sx → Option (Unit × Sx)) => lpx1 (B_X2_spread_L7 N a0 v1 j107) N (1 : Int32) σ0))
set_option maxRecDepth 100000 in
set_option maxHeartbeats 4000000 in
theorem mc_X2_spread {D : va_G} {al : Nat → Nat} {cA : Nat → ClassId} {ba : Nat} (N : Nat) (a0 : Int32) : MCx D al cA ba yX2_spread cX2_spread 5 none 1 21 rvU [.ref (al 3), .int a0] (F_X2_spread N a0) := by
  refine MCx_of (by decide +kernel) (Nat.le_of_ble_eq_true rfl) ?_
  intro p l e s m args below meth c σ0 g hrt
  unfold F_X2_spread
  refine x_lv (lv' := [(0, .ref (al 3)), (1, .int a0)]) [0, 1] rfl ?_
  refine x_aload_n (pc := 0) g rfl 0 rfl dX2_spread_0 ?_
  refine x_getI (pc := 1) g sh_3 fl_X2_58 rfl dX2_spread_1 ?_
  refine x_nm (fun v1 => ?_)
  refine x_istore_n (pc := 4) (lv' := [(2, .int v1), (0, .ref (al 3)), (1, .int a0)]) g rfl (by decide) rfl dX2_spread_4 ?_
  refine x_iconst (pc := 5) (v := (1 : Int32)) g (by decide) dX2_spread_5 ?_
  refine x_istore_n (pc := 6) (lv' := [(3, .int (1 : Int32)), (2, .int v1), (0, .ref (al 3)), (1, .int a0)]) g rfl (by decide) rfl dX2_spread_6 ?_
  refine x_jn (fun (j107 : Sx → Option (Unit × Sx)) => ∀ (σ1 : Sx), XTx p l e { frames := 1, cells := 0, slots := 0, locals := 21 } s m args below meth c D al cA ba 5 (MQx rvU D al cA ba below args s) 0 0 107 [(0, .ref (al 3)), (1, .int a0), (2, .int v1)] [] σ1 (j107 σ1)) (fun σ1 => ?_) (fun j107 hj107 => ?_)
  · refine x_iconst (pc := 107) (v := (0 : Int32)) g (by decide) dX2_spread_107 ?_
    refine x_istore_n (pc := 108) (lv' := [(3, .int (0 : Int32)), (0, .ref (al 3)), (1, .int a0), (2, .int v1)]) g rfl (by decide) rfl dX2_spread_108 ?_
    refine x_lv [1, 2, 3, 0] rfl ?_
    refine lpx1_ind (fun (x1 : Int32) (σ2 : Sx) (K : Option (Unit × Sx)) => XTx p l e { frames := 1, cells := 0, slots := 0, locals := 21 } s m args below meth c D al cA ba 5 (MQx rvU D al cA ba below args s) 0 0 109 [(0, .ref (al 3)), (1, .int a0), (2, .int v1), (3, .int x1)] [] σ2 (K)) (fun _ _ => x_no) (fun r109 hr109 x1 σ2 => ?_) N (0 : Int32) σ1
    show XTx p l e { frames := 1, cells := 0, slots := 0, locals := 21 } s m args below meth c D al cA ba 5 (MQx rvU D al cA ba below args s) 0 0 109 [(0, .ref (al 3)), (1, .int a0), (2, .int v1), (3, .int x1)] [] σ2 (B_X2_spread_L109 N a0 v1 r109 x1 σ2)
    unfold B_X2_spread_L109
    refine x_iload_n (pc := 109) g rfl 3 rfl dX2_spread_109 ?_
    refine x_iload_n (pc := 110) g rfl 2 rfl dX2_spread_110 ?_
    refine x_icmp_ge (pc := 111) (tgt := 136) g (by decide) dX2_spread_111 ?_ ?_
    · exact x_return (pc := 136) g hrt dX2_spread_136
    · refine x_aload_n (pc := 114) g rfl 0 rfl dX2_spread_114 ?_
      refine x_getR (pc := 115) g sh_3 fl_X2_19 rfl dX2_spread_115 ?_
      refine x_iload_n (pc := 118) g rfl 3 rfl dX2_spread_118 ?_
      refine x_dup2 (pc := 119) g rfl rfl dX2_spread_119 ?_
      refine x_iald (pc := 120) g sh_84 (by decide) dX2_spread_120 (fun v2 => ?_)
      refine x_iconst (pc := 121) (v := (1 : Int32)) g (by decide) dX2_spread_121 ?_
      refine x_iload_n (pc := 122) g rfl 1 rfl dX2_spread_122 ?_
      refine x_iconst (pc := 123) (v := (0 : Int32)) g (by decide) dX2_spread_123 ?_
      refine x_callSI (pc := 124) (As := [.int a0, .int (0 : Int32)]) g (mc_X8_wayIndex a0 (0 : Int32)) cw_X8_wayIndex lk_X2_74 rfl ⟨Nat.le_of_ble_eq_true rfl, Nat.le_of_ble_eq_true rfl⟩ rfl (Nat.le_of_ble_eq_true rfl) dX2_spread_124 (fun v3 σ3 => ?_)
      refine x_ishl (pc := 127) g dX2_spread_127 ?_
      refine x_ior (pc := 128) g dX2_spread_128 ?_
      refine x_iast (pc := 129) g sh_84 (by decide) dX2_spread_129 (fun σ4 => ?_)
      refine x_iinc (pc := 130) (v := (x1 + (1 : Int32))) (lv' := [(3, .int (x1 + (1 : Int32))), (0, .ref (al 3)), (1, .int a0), (2, .int v1)]) g 3 rfl (by rfl) (by decide) rfl dX2_spread_130 ?_
      refine x_goto (pc := 133) (tgt := 109) g (by decide) dX2_spread_133 ?_
      refine x_lv [1, 2, 3, 0] rfl ?_
      exact hr109 (x1 + (1 : Int32)) σ4
  · refine x_lv [2, 3, 1, 0] rfl ?_
    refine lpx1_ind (fun (x2 : Int32) (σ5 : Sx) (K : Option (Unit × Sx)) => XTx p l e { frames := 1, cells := 0, slots := 0, locals := 21 } s m args below meth c D al cA ba 5 (MQx rvU D al cA ba below args s) 0 0 7 [(0, .ref (al 3)), (1, .int a0), (2, .int v1), (3, .int x2)] [] σ5 (K)) (fun _ _ => x_no) (fun r7 hr7 x2 σ5 => ?_) N (1 : Int32) σ0
    show XTx p l e { frames := 1, cells := 0, slots := 0, locals := 21 } s m args below meth c D al cA ba 5 (MQx rvU D al cA ba below args s) 0 0 7 [(0, .ref (al 3)), (1, .int a0), (2, .int v1), (3, .int x2)] [] σ5 (B_X2_spread_L7 N a0 v1 j107 r7 x2 σ5)
    unfold B_X2_spread_L7
    refine x_iload_n (pc := 7) g rfl 3 rfl dX2_spread_7 ?_
    refine x_aload_n (pc := 8) g rfl 0 rfl dX2_spread_8 ?_
    refine x_getR (pc := 9) g sh_3 fl_X2_37 rfl dX2_spread_9 ?_
    refine x_getR (pc := 12) g sh_1 fl_X2_71 rfl dX2_spread_12 ?_
    refine x_iload_n (pc := 15) g rfl 1 rfl dX2_spread_15 ?_
    refine x_iald (pc := 16) g sh_35 (by decide) dX2_spread_16 (fun v4 => ?_)
    refine x_icmp_ge (pc := 17) (tgt := 107) g (by decide) dX2_spread_17 ?_ ?_
    · refine x_lv [0, 1, 2] rfl ?_
      exact hj107 σ5
    · refine x_iconst (pc := 20) (v := (0 : Int32)) g (by decide) dX2_spread_20 ?_
      refine x_istore (pc := 21) (lv' := [(4, .int (0 : Int32)), (0, .ref (al 3)), (1, .int a0), (2, .int v1), (3, .int x2)]) g (by decide) rfl dX2_spread_21 ?_
      refine x_jn (fun (j101 : Sx → Option (Unit × Sx)) => ∀ (σ6 : Sx), XTx p l e { frames := 1, cells := 0, slots := 0, locals := 21 } s m args below meth c D al cA ba 5 (MQx rvU D al cA ba below args s) 0 0 101 [(0, .ref (al 3)), (1, .int a0), (2, .int v1), (3, .int x2)] [] σ6 (j101 σ6)) (fun σ6 => ?_) (fun j101 hj101 => ?_)
      · refine x_iinc (pc := 101) (v := (x2 + (1 : Int32))) (lv' := [(3, .int (x2 + (1 : Int32))), (0, .ref (al 3)), (1, .int a0), (2, .int v1)]) g 3 rfl (by rfl) (by decide) rfl dX2_spread_101 ?_
        refine x_goto (pc := 104) (tgt := 7) g (by decide) dX2_spread_104 ?_
        refine x_lv [1, 2, 3, 0] rfl ?_
        exact hr7 (x2 + (1 : Int32)) σ6
      · refine x_lv [1, 2, 3, 4, 0] rfl ?_
        refine lpx1_ind (fun (x3 : Int32) (σ7 : Sx) (K : Option (Unit × Sx)) => XTx p l e { frames := 1, cells := 0, slots := 0, locals := 21 } s m args below meth c D al cA ba 5 (MQx rvU D al cA ba below args s) 0 0 23 [(0, .ref (al 3)), (1, .int a0), (2, .int v1), (3, .int x2), (4, .int x3)] [] σ7 (K)) (fun _ _ => x_no) (fun r23 hr23 x3 σ7 => ?_) N (0 : Int32) σ5
        show XTx p l e { frames := 1, cells := 0, slots := 0, locals := 21 } s m args below meth c D al cA ba 5 (MQx rvU D al cA ba below args s) 0 0 23 [(0, .ref (al 3)), (1, .int a0), (2, .int v1), (3, .int x2), (4, .int x3)] [] σ7 (B_X2_spread_L23 N a0 v1 x2 j101 r23 x3 σ7)
        unfold B_X2_spread_L23
        refine x_iload (pc := 23) g 4 rfl dX2_spread_23 ?_
        refine x_iload_n (pc := 25) g rfl 2 rfl dX2_spread_25 ?_
        refine x_icmp_ge (pc := 26) (tgt := 101) g (by decide) dX2_spread_26 ?_ ?_
        · refine x_lv [0, 1, 2, 3] rfl ?_
          exact hj101 σ7
        · refine x_aload_n (pc := 29) g rfl 0 rfl dX2_spread_29 ?_
          refine x_getI (pc := 30) g sh_3 fl_X2_58 rfl dX2_spread_30 ?_
          refine x_sipush (pc := 33) (v := (1024 : Int32)) g (by decide) dX2_spread_33 ?_
          refine x_icmp_ge (pc := 36) (tgt := 101) g (by decide) dX2_spread_36 ?_ ?_
          · refine x_lv [0, 1, 2, 3] rfl ?_
            exact hj101 σ7
          · refine x_aload_n (pc := 39) g rfl 0 rfl dX2_spread_39 ?_
            refine x_getR (pc := 40) g sh_3 fl_X2_15 rfl dX2_spread_40 ?_
            refine x_aload_n (pc := 43) g rfl 0 rfl dX2_spread_43 ?_
            refine x_getI (pc := 44) g sh_3 fl_X2_58 rfl dX2_spread_44 ?_
            refine x_aload_n (pc := 47) g rfl 0 rfl dX2_spread_47 ?_
            refine x_getR (pc := 48) g sh_3 fl_X2_15 rfl dX2_spread_48 ?_
            refine x_iload (pc := 51) g 4 rfl dX2_spread_51 ?_
            refine x_iald (pc := 53) g sh_83 (by decide) dX2_spread_53 (fun v5 => ?_)
            refine x_iload_n (pc := 54) g rfl 3 rfl dX2_spread_54 ?_
            refine x_iconst (pc := 55) (v := (2 : Int32)) g (by decide) dX2_spread_55 ?_
            refine x_iload_n (pc := 56) g rfl 1 rfl dX2_spread_56 ?_
            refine x_imul (pc := 57) g dX2_spread_57 ?_
            refine x_ishl (pc := 58) g dX2_spread_58 ?_
            refine x_ior (pc := 59) g dX2_spread_59 ?_
            refine x_iast (pc := 60) g sh_83 (by decide) dX2_spread_60 (fun σ8 => ?_)
            refine x_aload_n (pc := 61) g rfl 0 rfl dX2_spread_61 ?_
            refine x_getR (pc := 62) g sh_3 fl_X2_19 rfl dX2_spread_62 ?_
            refine x_aload_n (pc := 65) g rfl 0 rfl dX2_spread_65 ?_
            refine x_getI (pc := 66) g sh_3 fl_X2_58 rfl dX2_spread_66 ?_
            refine x_aload_n (pc := 69) g rfl 0 rfl dX2_spread_69 ?_
            refine x_getR (pc := 70) g sh_3 fl_X2_19 rfl dX2_spread_70 ?_
            refine x_iload (pc := 73) g 4 rfl dX2_spread_73 ?_
            refine x_iald (pc := 75) g sh_84 (by decide) dX2_spread_75 (fun v6 => ?_)
            refine x_iconst (pc := 76) (v := (1 : Int32)) g (by decide) dX2_spread_76 ?_
            refine x_iload_n (pc := 77) g rfl 1 rfl dX2_spread_77 ?_
            refine x_iload_n (pc := 78) g rfl 3 rfl dX2_spread_78 ?_
            refine x_callSI (pc := 79) (As := [.int a0, .int x2]) g (mc_X8_wayIndex a0 x2) cw_X8_wayIndex lk_X2_74 rfl ⟨Nat.le_of_ble_eq_true rfl, Nat.le_of_ble_eq_true rfl⟩ rfl (Nat.le_of_ble_eq_true rfl) dX2_spread_79 (fun v7 σ9 => ?_)
            refine x_ishl (pc := 82) g dX2_spread_82 ?_
            refine x_ior (pc := 83) g dX2_spread_83 ?_
            refine x_iast (pc := 84) g sh_84 (by decide) dX2_spread_84 (fun σ10 => ?_)
            refine x_aload_n (pc := 85) g rfl 0 rfl dX2_spread_85 ?_
            refine x_dup (pc := 86) g rfl dX2_spread_86 ?_
            refine x_getI (pc := 87) g sh_3 fl_X2_58 rfl dX2_spread_87 ?_
            refine x_iconst (pc := 90) (v := (1 : Int32)) g (by decide) dX2_spread_90 ?_
            refine x_iadd (pc := 91) g dX2_spread_91 ?_
            refine x_putI (pc := 92) g sh_3 fl_X2_58 rfl dX2_spread_92 (fun σ11 => ?_)
            refine x_iinc (pc := 95) (v := (x3 + (1 : Int32))) (lv' := [(4, .int (x3 + (1 : Int32))), (0, .ref (al 3)), (1, .int a0), (2, .int v1), (3, .int x2)]) g 4 rfl (by rfl) (by decide) rfl dX2_spread_95 ?_
            refine x_goto (pc := 98) (tgt := 23) g (by decide) dX2_spread_98 ?_
            refine x_lv [1, 2, 3, 4, 0] rfl ?_
            exact hr23 (x3 + (1 : Int32)) σ11
def B_X2_list_L21 (N : Nat) (r21 : Int32 → Sx → Option (Unit × Sx)) (x1 : Int32) (σ4 : Sx) : Option (Unit × Sx) := (if (siI σ4 1 0) ≤ x1 then some ((), σ4) else clx (F_X2_spread N x1 σ4) (fun _ σ5 => r21 (x1 + (1 : Int32)) σ5))
def F_X2_list (N : Nat) (σ0 : Sx) : Option (Unit × Sx) := sIx 83 1024 (0 : Int32) (0 : Int32) σ0 (fun σ1 => sIx 84 1024 (0 : Int32) (0 : Int32) σ1 (fun σ2 => pIx 3 5 (1 : Int32) σ2 (fun σ3 => lpx1 (B_X2_list_L21 N) N (0 : Int32) σ3)))
set_option maxRecDepth 100000 in
set_option maxHeartbeats 4000000 in
theorem mc_X2_list {D : va_G} {al : Nat → Nat} {cA : Nat → ClassId} {ba : Nat} (N : Nat)  : MCx D al cA ba yX2_list cX2_list 2 none 2 45 rvU [.ref (al 3)] (F_X2_list N) := by
  refine MCx_of (by decide +kernel) (Nat.le_of_ble_eq_true rfl) ?_
  intro p l e s m args below meth c σ0 g hrt
  unfold F_X2_list
  refine x_lv (lv' := [(0, .ref (al 3))]) [0] rfl ?_
  refine x_aload_n (pc := 0) g rfl 0 rfl dX2_list_0 ?_
  refine x_getR (pc := 1) g sh_3 fl_X2_15 rfl dX2_list_1 ?_
  refine x_iconst (pc := 4) (v := (0 : Int32)) g (by decide) dX2_list_4 ?_
  refine x_iconst (pc := 5) (v := (0 : Int32)) g (by decide) dX2_list_5 ?_
  refine x_iast (pc := 6) g sh_83 (by decide) dX2_list_6 (fun σ1 => ?_)
  refine x_aload_n (pc := 7) g rfl 0 rfl dX2_list_7 ?_
  refine x_getR (pc := 8) g sh_3 fl_X2_19 rfl dX2_list_8 ?_
  refine x_iconst (pc := 11) (v := (0 : Int32)) g (by decide) dX2_list_11 ?_
  refine x_iconst (pc := 12) (v := (0 : Int32)) g (by decide) dX2_list_12 ?_
  refine x_iast (pc := 13) g sh_84 (by decide) dX2_list_13 (fun σ2 => ?_)
  refine x_aload_n (pc := 14) g rfl 0 rfl dX2_list_14 ?_
  refine x_iconst (pc := 15) (v := (1 : Int32)) g (by decide) dX2_list_15 ?_
  refine x_putI (pc := 16) g sh_3 fl_X2_58 rfl dX2_list_16 (fun σ3 => ?_)
  refine x_iconst (pc := 19) (v := (0 : Int32)) g (by decide) dX2_list_19 ?_
  refine x_istore_n (pc := 20) (lv' := [(1, .int (0 : Int32)), (0, .ref (al 3))]) g rfl (by decide) rfl dX2_list_20 ?_
  refine x_lv [1, 0] rfl ?_
  refine lpx1_ind (fun (x1 : Int32) (σ4 : Sx) (K : Option (Unit × Sx)) => XTx p l e { frames := 2, cells := 0, slots := 0, locals := 45 } s m args below meth c D al cA ba 2 (MQx rvU D al cA ba below args s) 0 0 21 [(0, .ref (al 3)), (1, .int x1)] [] σ4 (K)) (fun _ _ => x_no) (fun r21 hr21 x1 σ4 => ?_) N (0 : Int32) σ3
  show XTx p l e { frames := 2, cells := 0, slots := 0, locals := 45 } s m args below meth c D al cA ba 2 (MQx rvU D al cA ba below args s) 0 0 21 [(0, .ref (al 3)), (1, .int x1)] [] σ4 (B_X2_list_L21 N r21 x1 σ4)
  unfold B_X2_list_L21
  refine x_iload_n (pc := 21) g rfl 1 rfl dX2_list_21 ?_
  refine x_aload_n (pc := 22) g rfl 0 rfl dX2_list_22 ?_
  refine x_getR (pc := 23) g sh_3 fl_X2_37 rfl dX2_list_23 ?_
  refine x_getI (pc := 26) g sh_1 fl_X2_62 rfl dX2_list_26 ?_
  refine x_icmp_ge (pc := 29) (tgt := 43) g (by decide) dX2_list_29 ?_ ?_
  · exact x_return (pc := 43) g hrt dX2_list_43
  · refine x_aload_n (pc := 32) g rfl 0 rfl dX2_list_32 ?_
    refine x_iload_n (pc := 33) g rfl 1 rfl dX2_list_33 ?_
    refine x_callVU (pc := 34) (As := [.int x1]) g sh_3 (mc_X2_spread N x1) cw_X2_spread lk_X2_67 rfl ⟨Nat.le_of_ble_eq_true rfl, Nat.le_of_ble_eq_true rfl⟩ rfl (Nat.le_of_ble_eq_true rfl) dX2_list_34 (fun _ σ5 => ?_)
    refine x_iinc (pc := 37) (v := (x1 + (1 : Int32))) (lv' := [(1, .int (x1 + (1 : Int32))), (0, .ref (al 3))]) g 1 rfl (by rfl) (by decide) rfl dX2_list_37 ?_
    refine x_goto (pc := 40) (tgt := 21) g (by decide) dX2_list_40 ?_
    refine x_lv [1, 0] rfl ?_
    exact hr21 (x1 + (1 : Int32)) σ5
def F_X2_firstPlace (a0 : Int32) (σ0 : Sx) : Option (Int32 × Sx) := clx (F_X8_wayIndex a0 (0 : Int32) σ0) (fun v1 σ1 => aRx 20 v1 (fun k11 => aIx (38 + k11) 8 (0 : Int32) σ1 (fun v2 => some (v2, σ1))))
set_option maxRecDepth 100000 in
set_option maxHeartbeats 4000000 in
theorem mc_X2_firstPlace {D : va_G} {al : Nat → Nat} {cA : Nat → ClassId} {ba : Nat} (a0 : Int32) : MCx D al cA ba yX2_firstPlace cX2_firstPlace 2 (some .int) 1 21 rvI [.ref (al 3), .int a0] (F_X2_firstPlace a0) := by
  refine MCx_of (by decide +kernel) (Nat.le_of_ble_eq_true rfl) ?_
  intro p l e s m args below meth c σ0 g hrt
  unfold F_X2_firstPlace
  refine x_lv (lv' := [(0, .ref (al 3)), (1, .int a0)]) [0, 1] rfl ?_
  refine x_aload_n (pc := 0) g rfl 0 rfl dX2_firstPlace_0 ?_
  refine x_getR (pc := 1) g sh_3 fl_X2_37 rfl dX2_firstPlace_1 ?_
  refine x_getR (pc := 4) g sh_1 fl_X2_97 rfl dX2_firstPlace_4 ?_
  refine x_iload_n (pc := 7) g rfl 1 rfl dX2_firstPlace_7 ?_
  refine x_iconst (pc := 8) (v := (0 : Int32)) g (by decide) dX2_firstPlace_8 ?_
  refine x_callSI (pc := 9) (As := [.int a0, .int (0 : Int32)]) g (mc_X8_wayIndex a0 (0 : Int32)) cw_X8_wayIndex lk_X2_74 rfl ⟨Nat.le_of_ble_eq_true rfl, Nat.le_of_ble_eq_true rfl⟩ rfl (Nat.le_of_ble_eq_true rfl) dX2_firstPlace_9 (fun v1 σ1 => ?_)
  refine x_aaldR (pc := 12) g sh_37 (by decide) dX2_firstPlace_12 (fun k11 hk11 => ?_)
  refine x_iconst (pc := 13) (v := (0 : Int32)) g (by decide) dX2_firstPlace_13 ?_
  refine x_iald (pc := 14) g (shf_38 k11 hk11) (by decide) dX2_firstPlace_14 (fun v2 => ?_)
  exact x_ireturn (pc := 15) g hrt dX2_firstPlace_15
def B_X2_observe_L4 (N : Nat) (j76 : Int32 → Sx → Option (Int32 × Sx)) (r4 : Int32 → Int32 → Sx → Option (Int32 × Sx)) (x2 : Int32) (x3 : Int32) (σ3 : Sx) : Option (Int32 × Sx) := (if (siI σ3 1 0) ≤ x3 then j76 x2 σ3 else clx (F_X2_firstPlace x3 σ3) (fun v1 σ4 => clx (F_X8_start x3 σ4) (fun v2 σ5 => clx (F_X8_tracks N v1 v2 σ5) (fun v3 σ6 => clx (F_X8_allWaysOf x3 σ6) (fun v4 σ7 => nmx ((v3 &&& (v4 ^^^ (-1 : Int32)))) (fun v5 => nmx (fun (y1 : Int32) (σ8 : Sx) => sIx 85 5 x3 v5 σ8 (fun σ9 => r4 y1 (x3 + (1 : Int32)) σ9)) (fun (j62 : Int32 → Sx → Option (Int32 × Sx)) => nmx (fun (σ10 : Sx) => j62 (1 : Int32) σ10) (fun (j57 : Sx → Option (Int32 × Sx)) => (if x2 = 0 then aIx 85 5 x3 σ7 (fun v6 => (if v5 = v6 then j62 (0 : Int32) σ7 else j57 σ7)) else j57 σ7)))))))))
def F_X2_observe (N : Nat) (σ0 : Sx) : Option (Int32 × Sx) := nmx (fun (x1 : Int32) (σ1 : Sx) => clx (F_J7_fill_53178 N 86 5 (0 : Int32) σ1) (fun _ σ2 => rZx x1 σ2)) (fun (j76 : Int32 → Sx → Option (Int32 × Sx)) => lpx2 (B_X2_observe_L4 N j76) N (0 : Int32) (0 : Int32) σ0)
set_option maxRecDepth 100000 in
set_option maxHeartbeats 4000000 in
theorem mc_X2_observe {D : va_G} {al : Nat → Nat} {cA : Nat → ClassId} {ba : Nat} (N : Nat)  : MCx D al cA ba yX2_observe cX2_observe 4 (some .boolean) 3 71 rvI [.ref (al 3)] (F_X2_observe N) := by
  refine MCx_of (by decide +kernel) (Nat.le_of_ble_eq_true rfl) ?_
  intro p l e s m args below meth c σ0 g hrt
  unfold F_X2_observe
  refine x_lv (lv' := [(0, .ref (al 3))]) [0] rfl ?_
  refine x_iconst (pc := 0) (v := (0 : Int32)) g (by decide) dX2_observe_0 ?_
  refine x_istore_n (pc := 1) (lv' := [(1, .int (0 : Int32)), (0, .ref (al 3))]) g rfl (by decide) rfl dX2_observe_1 ?_
  refine x_iconst (pc := 2) (v := (0 : Int32)) g (by decide) dX2_observe_2 ?_
  refine x_istore_n (pc := 3) (lv' := [(2, .int (0 : Int32)), (1, .int (0 : Int32)), (0, .ref (al 3))]) g rfl (by decide) rfl dX2_observe_3 ?_
  refine x_jn (fun (j76 : Int32 → Sx → Option (Int32 × Sx)) => ∀ (x1 : Int32) (σ1 : Sx), XTx p l e { frames := 3, cells := 0, slots := 0, locals := 71 } s m args below meth c D al cA ba 4 (MQx rvI D al cA ba below args s) 0 0 76 [(0, .ref (al 3)), (1, .int x1)] [] σ1 (j76 x1 σ1)) (fun x1 σ1 => ?_) (fun j76 hj76 => ?_)
  · refine x_aload_n (pc := 76) g rfl 0 rfl dX2_observe_76 ?_
    refine x_getR (pc := 77) g sh_3 fl_X2_25 rfl dX2_observe_77 ?_
    refine x_iconst (pc := 80) (v := (0 : Int32)) g (by decide) dX2_observe_80 ?_
    refine x_callSU (pc := 81) (As := [.ref (al 86), .int (0 : Int32)]) g (mc_J7_fill_53178 N 86 5 sh_86 (by decide) (0 : Int32)) cw_J7_fill_53178 lk_X2_91 rfl ⟨Nat.le_of_ble_eq_true rfl, Nat.le_of_ble_eq_true rfl⟩ rfl (Nat.le_of_ble_eq_true rfl) dX2_observe_81 (fun _ σ2 => ?_)
    refine x_iload_n (pc := 84) g rfl 1 rfl dX2_observe_84 ?_
    exact x_rZ (pc := 85) g hrt dX2_observe_85
  · refine x_lv [2, 1, 0] rfl ?_
    refine lpx2_ind (fun (x2 : Int32) (x3 : Int32) (σ3 : Sx) (K : Option (Int32 × Sx)) => XTx p l e { frames := 3, cells := 0, slots := 0, locals := 71 } s m args below meth c D al cA ba 4 (MQx rvI D al cA ba below args s) 0 0 4 [(0, .ref (al 3)), (1, .int x2), (2, .int x3)] [] σ3 (K)) (fun _ _ _ => x_no) (fun r4 hr4 x2 x3 σ3 => ?_) N (0 : Int32) (0 : Int32) σ0
    show XTx p l e { frames := 3, cells := 0, slots := 0, locals := 71 } s m args below meth c D al cA ba 4 (MQx rvI D al cA ba below args s) 0 0 4 [(0, .ref (al 3)), (1, .int x2), (2, .int x3)] [] σ3 (B_X2_observe_L4 N j76 r4 x2 x3 σ3)
    unfold B_X2_observe_L4
    refine x_iload_n (pc := 4) g rfl 2 rfl dX2_observe_4 ?_
    refine x_aload_n (pc := 5) g rfl 0 rfl dX2_observe_5 ?_
    refine x_getR (pc := 6) g sh_3 fl_X2_37 rfl dX2_observe_6 ?_
    refine x_getI (pc := 9) g sh_1 fl_X2_62 rfl dX2_observe_9 ?_
    refine x_icmp_ge (pc := 12) (tgt := 76) g (by decide) dX2_observe_12 ?_ ?_
    · refine x_lv [0, 1] rfl ?_
      exact hj76 x2 σ3
    · refine x_aload_n (pc := 15) g rfl 0 rfl dX2_observe_15 ?_
      refine x_getR (pc := 16) g sh_3 fl_X2_37 rfl dX2_observe_16 ?_
      refine x_aload_n (pc := 19) g rfl 0 rfl dX2_observe_19 ?_
      refine x_iload_n (pc := 20) g rfl 2 rfl dX2_observe_20 ?_
      refine x_callVI (pc := 21) (As := [.int x3]) g sh_3 (mc_X2_firstPlace x3) cw_X2_firstPlace lk_X2_78 rfl ⟨Nat.le_of_ble_eq_true rfl, Nat.le_of_ble_eq_true rfl⟩ rfl (Nat.le_of_ble_eq_true rfl) dX2_observe_21 (fun v1 σ4 => ?_)
      refine x_aload_n (pc := 24) g rfl 0 rfl dX2_observe_24 ?_
      refine x_getR (pc := 25) g sh_3 fl_X2_37 rfl dX2_observe_25 ?_
      refine x_iload_n (pc := 28) g rfl 2 rfl dX2_observe_28 ?_
      refine x_callVI (pc := 29) (As := [.int x3]) g sh_1 (mc_X8_start x3) cw_X8_start lk_X2_82 rfl ⟨Nat.le_of_ble_eq_true rfl, Nat.le_of_ble_eq_true rfl⟩ rfl (Nat.le_of_ble_eq_true rfl) dX2_observe_29 (fun v2 σ5 => ?_)
      refine x_callVI (pc := 32) (As := [.int v1, .int v2]) g sh_1 (mc_X8_tracks N v1 v2) cw_X8_tracks lk_X2_85 rfl ⟨Nat.le_of_ble_eq_true rfl, Nat.le_of_ble_eq_true rfl⟩ rfl (Nat.le_of_ble_eq_true rfl) dX2_observe_32 (fun v3 σ6 => ?_)
      refine x_iload_n (pc := 35) g rfl 2 rfl dX2_observe_35 ?_
      refine x_callSI (pc := 36) (As := [.int x3]) g (mc_X8_allWaysOf x3) cw_X8_allWaysOf lk_X2_88 rfl ⟨Nat.le_of_ble_eq_true rfl, Nat.le_of_ble_eq_true rfl⟩ rfl (Nat.le_of_ble_eq_true rfl) dX2_observe_36 (fun v4 σ7 => ?_)
      refine x_iconst (pc := 39) (v := (-1 : Int32)) g (by decide) dX2_observe_39 ?_
      refine x_ixor (pc := 40) g dX2_observe_40 ?_
      refine x_iand (pc := 41) g dX2_observe_41 ?_
      refine x_nm (fun v5 => ?_)
      refine x_istore_n (pc := 42) (lv' := [(3, .int v5), (0, .ref (al 3)), (1, .int x2), (2, .int x3)]) g rfl (by decide) rfl dX2_observe_42 ?_
      refine x_iload_n (pc := 43) g rfl 2 rfl dX2_observe_43 ?_
      refine x_jn (fun (j62 : Int32 → Sx → Option (Int32 × Sx)) => ∀ (y1 : Int32) (σ8 : Sx), XTx p l e { frames := 3, cells := 0, slots := 0, locals := 71 } s m args below meth c D al cA ba 4 (MQx rvI D al cA ba below args s) 0 0 62 [(0, .ref (al 3)), (2, .int x3), (3, .int v5)] [.int y1] σ8 (j62 y1 σ8)) (fun y1 σ8 => ?_) (fun j62 hj62 => ?_)
      · refine x_istore_n (pc := 62) (lv' := [(1, .int y1), (0, .ref (al 3)), (2, .int x3), (3, .int v5)]) g rfl (by decide) rfl dX2_observe_62 ?_
        refine x_aload_n (pc := 63) g rfl 1 rfl dX2_observe_63 ?_
        refine x_getR (pc := 64) g sh_3 fl_X2_22 rfl dX2_observe_64 ?_
        refine x_iload_n (pc := 67) g rfl 2 rfl dX2_observe_67 ?_
        refine x_iload_n (pc := 68) g rfl 3 rfl dX2_observe_68 ?_
        refine x_iast (pc := 69) g sh_85 (by decide) dX2_observe_69 (fun σ9 => ?_)
        refine x_iinc (pc := 70) (v := (x3 + (1 : Int32))) (lv' := [(2, .int (x3 + (1 : Int32))), (1, .int y1), (0, .ref (al 3)), (3, .int v5)]) g 2 rfl (by rfl) (by decide) rfl dX2_observe_70 ?_
        refine x_goto (pc := 73) (tgt := 4) g (by decide) dX2_observe_73 ?_
        refine x_lv [2, 1, 0] rfl ?_
        exact hr4 y1 (x3 + (1 : Int32)) σ9
      · refine x_jn (fun (j57 : Sx → Option (Int32 × Sx)) => ∀ (σ10 : Sx), XTx p l e { frames := 3, cells := 0, slots := 0, locals := 71 } s m args below meth c D al cA ba 4 (MQx rvI D al cA ba below args s) 0 0 57 [(0, .ref (al 3)), (2, .int x3), (3, .int v5)] [] σ10 (j57 σ10)) (fun σ10 => ?_) (fun j57 hj57 => ?_)
        · refine x_iconst (pc := 57) (v := (1 : Int32)) g (by decide) dX2_observe_57 ?_
          refine x_goto (pc := 58) (tgt := 62) g (by decide) dX2_observe_58 ?_
          exact hj62 (1 : Int32) σ10
        · refine x_if_ne (pc := 44) (tgt := 57) g (by decide) dX2_observe_44 ?_ ?_
          · refine x_lv [1, 3, 0] rfl ?_
            exact hj57 σ7
          · refine x_iload_n (pc := 47) g rfl 0 rfl dX2_observe_47 ?_
            refine x_aload_n (pc := 48) g rfl 1 rfl dX2_observe_48 ?_
            refine x_getR (pc := 49) g sh_3 fl_X2_22 rfl dX2_observe_49 ?_
            refine x_iload_n (pc := 52) g rfl 3 rfl dX2_observe_52 ?_
            refine x_iald (pc := 53) g sh_85 (by decide) dX2_observe_53 (fun v6 => ?_)
            refine x_icmp_eq (pc := 54) (tgt := 61) g (by decide) dX2_observe_54 ?_ ?_
            · refine x_iconst (pc := 61) (v := (0 : Int32)) g (by decide) dX2_observe_61 ?_
              refine x_lv [1, 3, 0] rfl ?_
              exact hj62 (0 : Int32) σ7
            · refine x_lv [1, 3, 0] rfl ?_
              exact hj57 σ7
def F_X2_forget (N : Nat) (σ0 : Sx) : Option (Unit × Sx) := clx (F_J7_fill_53178 N 87 160 (0 : Int32) σ0) (fun _ σ1 => some ((), σ1))
set_option maxRecDepth 100000 in
set_option maxHeartbeats 4000000 in
theorem mc_X2_forget {D : va_G} {al : Nat → Nat} {cA : Nat → ClassId} {ba : Nat} (N : Nat)  : MCx D al cA ba yX2_forget cX2_forget 1 none 1 23 rvU [.ref (al 3)] (F_X2_forget N) := by
  refine MCx_of (by decide +kernel) (Nat.le_of_ble_eq_true rfl) ?_
  intro p l e s m args below meth c σ0 g hrt
  unfold F_X2_forget
  refine x_lv (lv' := [(0, .ref (al 3))]) [0] rfl ?_
  refine x_aload_n (pc := 0) g rfl 0 rfl dX2_forget_0 ?_
  refine x_getR (pc := 1) g sh_3 fl_X2_28 rfl dX2_forget_1 ?_
  refine x_iconst (pc := 4) (v := (0 : Int32)) g (by decide) dX2_forget_4 ?_
  refine x_callSU (pc := 5) (As := [.ref (al 87), .int (0 : Int32)]) g (mc_J7_fill_53178 N 87 160 sh_87 (by decide) (0 : Int32)) cw_J7_fill_53178 lk_X2_91 rfl ⟨Nat.le_of_ble_eq_true rfl, Nat.le_of_ble_eq_true rfl⟩ rfl (Nat.le_of_ble_eq_true rfl) dX2_forget_5 (fun _ σ1 => ?_)
  exact x_return (pc := 8) g hrt dX2_forget_8
def F_X2_lawful (N : Nat) (a0 : Int32) (a1 : Int32) (σ0 : Sx) : Option (Int32 × Sx) := aIx 85 5 a0 σ0 (fun v1 => clx (F_X8_walkersOf (v1 &&& a1) σ0) (fun v2 σ1 => aIx 86 5 a0 σ1 (fun v3 => nmx ((v2 ||| v3)) (fun v4 => aIx 87 160 ((a0 * (32 : Int32)) + v4) σ1 (fun v5 => nmx (fun (x1 : Int32) (σ2 : Sx) => some ((x1 - (1 : Int32)), σ2)) (fun (j108 : Int32 → Sx → Option (Int32 × Sx)) => (if v5 = 0 then clx (F_X8_lead a0 σ1) (fun v6 σ3 => aIx 35 5 a0 σ3 (fun v7 => clx (F_X8_start a0 σ3) (fun v8 σ4 => clx (F_X4_gives N v4 a0 v6 v7 v8 σ4) (fun v9 σ5 => aIx 35 5 a0 σ5 (fun v10 => clx (F_J9_max_7cf53 v10 (1 : Int32) σ5) (fun v11 σ6 => clx (F_J9_floorMod_7cf53 v9 v11 σ6) (fun v12 σ7 => nmx (((1 : Int32) + v12)) (fun v13 => sIx 87 160 ((a0 * (32 : Int32)) + v4) v13 σ7 (fun σ8 => j108 v13 σ8))))))))) else j108 v5 σ1)))))))
set_option maxRecDepth 100000 in
set_option maxHeartbeats 4000000 in
theorem mc_X2_lawful {D : va_G} {al : Nat → Nat} {cA : Nat → ClassId} {ba : Nat} (N : Nat) (a0 : Int32) (a1 : Int32) : MCx D al cA ba yX2_lawful cX2_lawful 6 (some .int) 2 55 rvI [.ref (al 3), .int a0, .int a1] (F_X2_lawful N a0 a1) := by
  refine MCx_of (by decide +kernel) (Nat.le_of_ble_eq_true rfl) ?_
  intro p l e s m args below meth c σ0 g hrt
  unfold F_X2_lawful
  refine x_lv (lv' := [(0, .ref (al 3)), (1, .int a0), (2, .int a1)]) [0, 1, 2] rfl ?_
  refine x_aload_n (pc := 0) g rfl 0 rfl dX2_lawful_0 ?_
  refine x_getR (pc := 1) g sh_3 fl_X2_22 rfl dX2_lawful_1 ?_
  refine x_iload_n (pc := 4) g rfl 1 rfl dX2_lawful_4 ?_
  refine x_iald (pc := 5) g sh_85 (by decide) dX2_lawful_5 (fun v1 => ?_)
  refine x_iload_n (pc := 6) g rfl 2 rfl dX2_lawful_6 ?_
  refine x_iand (pc := 7) g dX2_lawful_7 ?_
  refine x_callSI (pc := 8) (As := [.int (v1 &&& a1)]) g (mc_X8_walkersOf (v1 &&& a1)) cw_X8_walkersOf lk_X2_119 rfl ⟨Nat.le_of_ble_eq_true rfl, Nat.le_of_ble_eq_true rfl⟩ rfl (Nat.le_of_ble_eq_true rfl) dX2_lawful_8 (fun v2 σ1 => ?_)
  refine x_aload_n (pc := 11) g rfl 0 rfl dX2_lawful_11 ?_
  refine x_getR (pc := 12) g sh_3 fl_X2_25 rfl dX2_lawful_12 ?_
  refine x_iload_n (pc := 15) g rfl 1 rfl dX2_lawful_15 ?_
  refine x_iald (pc := 16) g sh_86 (by decide) dX2_lawful_16 (fun v3 => ?_)
  refine x_ior (pc := 17) g dX2_lawful_17 ?_
  refine x_nm (fun v4 => ?_)
  refine x_istore_n (pc := 18) (lv' := [(3, .int v4), (0, .ref (al 3)), (1, .int a0), (2, .int a1)]) g rfl (by decide) rfl dX2_lawful_18 ?_
  refine x_aload_n (pc := 19) g rfl 1 rfl dX2_lawful_19 ?_
  refine x_getR (pc := 20) g sh_3 fl_X2_28 rfl dX2_lawful_20 ?_
  refine x_iload_n (pc := 23) g rfl 2 rfl dX2_lawful_23 ?_
  refine x_bipush (pc := 24) (v := (32 : Int32)) g (by decide) dX2_lawful_24 ?_
  refine x_imul (pc := 26) g dX2_lawful_26 ?_
  refine x_iload_n (pc := 27) g rfl 0 rfl dX2_lawful_27 ?_
  refine x_iadd (pc := 28) g dX2_lawful_28 ?_
  refine x_iald (pc := 29) g sh_87 (by decide) dX2_lawful_29 (fun v5 => ?_)
  refine x_istore (pc := 30) (lv' := [(4, .int v5), (3, .int v4), (0, .ref (al 3)), (1, .int a0), (2, .int a1)]) g (by decide) rfl dX2_lawful_30 ?_
  refine x_iload (pc := 32) g 0 rfl dX2_lawful_32 ?_
  refine x_jn (fun (j108 : Int32 → Sx → Option (Int32 × Sx)) => ∀ (x1 : Int32) (σ2 : Sx), XTx p l e { frames := 2, cells := 0, slots := 0, locals := 55 } s m args below meth c D al cA ba 6 (MQx rvI D al cA ba below args s) 0 0 108 [(4, .int x1)] [] σ2 (j108 x1 σ2)) (fun x1 σ2 => ?_) (fun j108 hj108 => ?_)
  · refine x_iload (pc := 108) g 0 rfl dX2_lawful_108 ?_
    refine x_iconst (pc := 110) (v := (1 : Int32)) g (by decide) dX2_lawful_110 ?_
    refine x_isub (pc := 111) g dX2_lawful_111 ?_
    exact x_ireturn (pc := 112) g hrt dX2_lawful_112
  · refine x_if_ne (pc := 34) (tgt := 108) g (by decide) dX2_lawful_34 ?_ ?_
    · refine x_lv [0] rfl ?_
      exact hj108 v5 σ1
    · refine x_aload_n (pc := 37) g rfl 2 rfl dX2_lawful_37 ?_
      refine x_getR (pc := 38) g sh_3 fl_X2_41 rfl dX2_lawful_38 ?_
      refine x_iload_n (pc := 41) g rfl 1 rfl dX2_lawful_41 ?_
      refine x_iload_n (pc := 42) g rfl 3 rfl dX2_lawful_42 ?_
      refine x_aload_n (pc := 43) g rfl 2 rfl dX2_lawful_43 ?_
      refine x_getR (pc := 44) g sh_3 fl_X2_37 rfl dX2_lawful_44 ?_
      refine x_iload_n (pc := 47) g rfl 3 rfl dX2_lawful_47 ?_
      refine x_callVI (pc := 48) (As := [.int a0]) g sh_1 (mc_X8_lead a0) cw_X8_lead lk_X2_122 rfl ⟨Nat.le_of_ble_eq_true rfl, Nat.le_of_ble_eq_true rfl⟩ rfl (Nat.le_of_ble_eq_true rfl) dX2_lawful_48 (fun v6 σ3 => ?_)
      refine x_aload_n (pc := 51) g rfl 2 rfl dX2_lawful_51 ?_
      refine x_getR (pc := 52) g sh_3 fl_X2_37 rfl dX2_lawful_52 ?_
      refine x_getR (pc := 55) g sh_1 fl_X2_71 rfl dX2_lawful_55 ?_
      refine x_iload_n (pc := 58) g rfl 3 rfl dX2_lawful_58 ?_
      refine x_iald (pc := 59) g sh_35 (by decide) dX2_lawful_59 (fun v7 => ?_)
      refine x_aload_n (pc := 60) g rfl 2 rfl dX2_lawful_60 ?_
      refine x_getR (pc := 61) g sh_3 fl_X2_37 rfl dX2_lawful_61 ?_
      refine x_iload_n (pc := 64) g rfl 3 rfl dX2_lawful_64 ?_
      refine x_callVI (pc := 65) (As := [.int a0]) g sh_1 (mc_X8_start a0) cw_X8_start lk_X2_82 rfl ⟨Nat.le_of_ble_eq_true rfl, Nat.le_of_ble_eq_true rfl⟩ rfl (Nat.le_of_ble_eq_true rfl) dX2_lawful_65 (fun v8 σ4 => ?_)
      refine x_callVI (pc := 68) (As := [.int v4, .int a0, .int v6, .int v7, .int v8]) g sh_2 (mc_X4_gives N v4 a0 v6 v7 v8) cw_X4_gives lk_X2_125 rfl ⟨Nat.le_of_ble_eq_true rfl, Nat.le_of_ble_eq_true rfl⟩ rfl (Nat.le_of_ble_eq_true rfl) dX2_lawful_68 (fun v9 σ5 => ?_)
      refine x_istore (pc := 71) (lv' := [(5, .int v9), (4, .int v5), (3, .int v4), (0, .ref (al 3)), (1, .int a0), (2, .int a1)]) g (by decide) rfl dX2_lawful_71 ?_
      refine x_iconst (pc := 73) (v := (1 : Int32)) g (by decide) dX2_lawful_73 ?_
      refine x_iload (pc := 74) g 0 rfl dX2_lawful_74 ?_
      refine x_aload_n (pc := 76) g rfl 3 rfl dX2_lawful_76 ?_
      refine x_getR (pc := 77) g sh_3 fl_X2_37 rfl dX2_lawful_77 ?_
      refine x_getR (pc := 80) g sh_1 fl_X2_71 rfl dX2_lawful_80 ?_
      refine x_iload_n (pc := 83) g rfl 4 rfl dX2_lawful_83 ?_
      refine x_iald (pc := 84) g sh_35 (by decide) dX2_lawful_84 (fun v10 => ?_)
      refine x_iconst (pc := 85) (v := (1 : Int32)) g (by decide) dX2_lawful_85 ?_
      refine x_callSI (pc := 86) (As := [.int v10, .int (1 : Int32)]) g (mc_J9_max_7cf53 v10 (1 : Int32)) cw_J9_max_7cf53 lk_X2_104 rfl ⟨Nat.le_of_ble_eq_true rfl, Nat.le_of_ble_eq_true rfl⟩ rfl (Nat.le_of_ble_eq_true rfl) dX2_lawful_86 (fun v11 σ6 => ?_)
      refine x_callSI (pc := 89) (As := [.int v9, .int v11]) g (mc_J9_floorMod_7cf53 v9 v11) cw_J9_floorMod_7cf53 lk_X2_131 rfl ⟨Nat.le_of_ble_eq_true rfl, Nat.le_of_ble_eq_true rfl⟩ rfl (Nat.le_of_ble_eq_true rfl) dX2_lawful_89 (fun v12 σ7 => ?_)
      refine x_iadd (pc := 92) g dX2_lawful_92 ?_
      refine x_nm (fun v13 => ?_)
      refine x_istore (pc := 93) (lv' := [(4, .int v13), (5, .int v9), (3, .int v4), (0, .ref (al 3)), (1, .int a0), (2, .int a1)]) g (by decide) rfl dX2_lawful_93 ?_
      refine x_aload_n (pc := 95) g rfl 3 rfl dX2_lawful_95 ?_
      refine x_getR (pc := 96) g sh_3 fl_X2_28 rfl dX2_lawful_96 ?_
      refine x_iload_n (pc := 99) g rfl 4 rfl dX2_lawful_99 ?_
      refine x_bipush (pc := 100) (v := (32 : Int32)) g (by decide) dX2_lawful_100 ?_
      refine x_imul (pc := 102) g dX2_lawful_102 ?_
      refine x_iload_n (pc := 103) g rfl 2 rfl dX2_lawful_103 ?_
      refine x_iadd (pc := 104) g dX2_lawful_104 ?_
      refine x_iload (pc := 105) g 0 rfl dX2_lawful_105 ?_
      refine x_iast (pc := 107) g sh_87 (by decide) dX2_lawful_107 (fun σ8 => ?_)
      refine x_lv [0] rfl ?_
      exact hj108 v13 σ8
def B_X2_isHeld_L2 (N : Nat) (a0 : Int32) (a1 : Int32) (r2 : Int32 → Sx → Option (Int32 × Sx)) (x1 : Int32) (σ1 : Sx) : Option (Int32 × Sx) := (if (siI σ1 1 0) ≤ x1 then some ((1 : Int32), σ1) else clx (F_X2_lawful N x1 a1 σ1) (fun v1 σ2 => clx (F_X8_choice a0 x1 σ2) (fun v2 σ3 => (if v1 = v2 then r2 (x1 + (1 : Int32)) σ3 else some ((0 : Int32), σ3)))))
def F_X2_isHeld (N : Nat) (a0 : Int32) (a1 : Int32) (σ0 : Sx) : Option (Int32 × Sx) := lpx1 (B_X2_isHeld_L2 N a0 a1) N (0 : Int32) σ0
set_option maxRecDepth 100000 in
set_option maxHeartbeats 4000000 in
theorem mc_X2_isHeld {D : va_G} {al : Nat → Nat} {cA : Nat → ClassId} {ba : Nat} (N : Nat) (a0 : Int32) (a1 : Int32) : MCx D al cA ba yX2_isHeld cX2_isHeld 4 (some .boolean) 3 80 rvI [.ref (al 3), .int a0, .int a1] (F_X2_isHeld N a0 a1) := by
  refine MCx_of (by decide +kernel) (Nat.le_of_ble_eq_true rfl) ?_
  intro p l e s m args below meth c σ0 g hrt
  unfold F_X2_isHeld
  refine x_lv (lv' := [(0, .ref (al 3)), (1, .int a0), (2, .int a1)]) [0, 1, 2] rfl ?_
  refine x_iconst (pc := 0) (v := (0 : Int32)) g (by decide) dX2_isHeld_0 ?_
  refine x_istore_n (pc := 1) (lv' := [(3, .int (0 : Int32)), (0, .ref (al 3)), (1, .int a0), (2, .int a1)]) g rfl (by decide) rfl dX2_isHeld_1 ?_
  refine x_lv [1, 2, 3, 0] rfl ?_
  refine lpx1_ind (fun (x1 : Int32) (σ1 : Sx) (K : Option (Int32 × Sx)) => XTx p l e { frames := 3, cells := 0, slots := 0, locals := 80 } s m args below meth c D al cA ba 4 (MQx rvI D al cA ba below args s) 0 0 2 [(0, .ref (al 3)), (1, .int a0), (2, .int a1), (3, .int x1)] [] σ1 (K)) (fun _ _ => x_no) (fun r2 hr2 x1 σ1 => ?_) N (0 : Int32) σ0
  show XTx p l e { frames := 3, cells := 0, slots := 0, locals := 80 } s m args below meth c D al cA ba 4 (MQx rvI D al cA ba below args s) 0 0 2 [(0, .ref (al 3)), (1, .int a0), (2, .int a1), (3, .int x1)] [] σ1 (B_X2_isHeld_L2 N a0 a1 r2 x1 σ1)
  unfold B_X2_isHeld_L2
  refine x_iload_n (pc := 2) g rfl 3 rfl dX2_isHeld_2 ?_
  refine x_aload_n (pc := 3) g rfl 0 rfl dX2_isHeld_3 ?_
  refine x_getR (pc := 4) g sh_3 fl_X2_37 rfl dX2_isHeld_4 ?_
  refine x_getI (pc := 7) g sh_1 fl_X2_62 rfl dX2_isHeld_7 ?_
  refine x_icmp_ge (pc := 10) (tgt := 35) g (by decide) dX2_isHeld_10 ?_ ?_
  · refine x_iconst (pc := 35) (v := (1 : Int32)) g (by decide) dX2_isHeld_35 ?_
    exact x_zreturn (pc := 36) g hrt (by decide) dX2_isHeld_36
  · refine x_aload_n (pc := 13) g rfl 0 rfl dX2_isHeld_13 ?_
    refine x_iload_n (pc := 14) g rfl 3 rfl dX2_isHeld_14 ?_
    refine x_iload_n (pc := 15) g rfl 2 rfl dX2_isHeld_15 ?_
    refine x_callVI (pc := 16) (As := [.int x1, .int a1]) g sh_3 (mc_X2_lawful N x1 a1) cw_X2_lawful lk_X2_109 rfl ⟨Nat.le_of_ble_eq_true rfl, Nat.le_of_ble_eq_true rfl⟩ rfl (Nat.le_of_ble_eq_true rfl) dX2_isHeld_16 (fun v1 σ2 => ?_)
    refine x_iload_n (pc := 19) g rfl 1 rfl dX2_isHeld_19 ?_
    refine x_iload_n (pc := 20) g rfl 3 rfl dX2_isHeld_20 ?_
    refine x_callSI (pc := 21) (As := [.int a0, .int x1]) g (mc_X8_choice a0 x1) cw_X8_choice lk_X2_116 rfl ⟨Nat.le_of_ble_eq_true rfl, Nat.le_of_ble_eq_true rfl⟩ rfl (Nat.le_of_ble_eq_true rfl) dX2_isHeld_21 (fun v2 σ3 => ?_)
    refine x_icmp_eq (pc := 24) (tgt := 29) g (by decide) dX2_isHeld_24 ?_ ?_
    · refine x_iinc (pc := 29) (v := (x1 + (1 : Int32))) (lv' := [(3, .int (x1 + (1 : Int32))), (0, .ref (al 3)), (1, .int a0), (2, .int a1)]) g 3 rfl (by rfl) (by decide) rfl dX2_isHeld_29 ?_
      refine x_goto (pc := 32) (tgt := 2) g (by decide) dX2_isHeld_32 ?_
      refine x_lv [1, 2, 3, 0] rfl ?_
      exact hr2 (x1 + (1 : Int32)) σ3
    · refine x_iconst (pc := 27) (v := (0 : Int32)) g (by decide) dX2_isHeld_27 ?_
      exact x_zreturn (pc := 28) g hrt (by decide) dX2_isHeld_28
def B_X2_gather_L21 (N : Nat) (v2 : Int32) (r21 : Int32 → Sx → Option (Unit × Sx)) (x1 : Int32) (σ3 : Sx) : Option (Unit × Sx) := (if (siI σ3 3 5) ≤ x1 then some ((), σ3) else nmx (fun (y1 : Int32) (σ4 : Sx) => nmx (fun (σ5 : Sx) => nmx ((x1 + v2)) (fun v3 => r21 v3 σ5)) (fun (j114 : Sx → Option (Unit × Sx)) => (if (siI σ4 3 5) ≤ y1 then j114 σ4 else (if (1024 : Int32) ≤ (siI σ4 3 10) then j114 σ4 else aIx 83 1024 y1 σ4 (fun v4 => aIx 84 1024 y1 σ4 (fun v5 => clx (F_X2_isHeld N v4 v5 σ4) (fun v6 σ6 => (if v6 = 0 then j114 σ6 else sIx 88 1024 (siI σ6 3 10) y1 σ6 (fun σ7 => pIx 3 10 ((siI σ7 3 10) + (1 : Int32)) σ7 (fun σ8 => j114 σ8)))))))))) (fun (j56 : Int32 → Sx → Option (Unit × Sx)) => (if (siI σ3 1 0) ≤ 0 then j56 x1 σ3 else aIx 84 1024 x1 σ3 (fun v7 => clx (F_X2_lawful N (0 : Int32) v7 σ3) (fun v8 σ9 => j56 (x1 + v8) σ9)))))
def F_X2_gather (N : Nat) (σ0 : Sx) : Option (Unit × Sx) := pIx 3 10 (0 : Int32) σ0 (fun σ1 => aIx 35 5 (0 : Int32) σ1 (fun v1 => clx (F_J9_max_7cf53 v1 (1 : Int32) σ1) (fun v2 σ2 => lpx1 (B_X2_gather_L21 N v2) N (0 : Int32) σ2)))
set_option maxRecDepth 100000 in
set_option maxHeartbeats 4000000 in
theorem mc_X2_gather {D : va_G} {al : Nat → Nat} {cA : Nat → ClassId} {ba : Nat} (N : Nat)  : MCx D al cA ba yX2_gather cX2_gather 4 none 4 103 rvU [.ref (al 3)] (F_X2_gather N) := by
  refine MCx_of (by decide +kernel) (Nat.le_of_ble_eq_true rfl) ?_
  intro p l e s m args below meth c σ0 g hrt
  unfold F_X2_gather
  refine x_lv (lv' := [(0, .ref (al 3))]) [0] rfl ?_
  refine x_aload_n (pc := 0) g rfl 0 rfl dX2_gather_0 ?_
  refine x_iconst (pc := 1) (v := (0 : Int32)) g (by decide) dX2_gather_1 ?_
  refine x_putI (pc := 2) g sh_3 fl_X2_101 rfl dX2_gather_2 (fun σ1 => ?_)
  refine x_aload_n (pc := 5) g rfl 0 rfl dX2_gather_5 ?_
  refine x_getR (pc := 6) g sh_3 fl_X2_37 rfl dX2_gather_6 ?_
  refine x_getR (pc := 9) g sh_1 fl_X2_71 rfl dX2_gather_9 ?_
  refine x_iconst (pc := 12) (v := (0 : Int32)) g (by decide) dX2_gather_12 ?_
  refine x_iald (pc := 13) g sh_35 (by decide) dX2_gather_13 (fun v1 => ?_)
  refine x_iconst (pc := 14) (v := (1 : Int32)) g (by decide) dX2_gather_14 ?_
  refine x_callSI (pc := 15) (As := [.int v1, .int (1 : Int32)]) g (mc_J9_max_7cf53 v1 (1 : Int32)) cw_J9_max_7cf53 lk_X2_104 rfl ⟨Nat.le_of_ble_eq_true rfl, Nat.le_of_ble_eq_true rfl⟩ rfl (Nat.le_of_ble_eq_true rfl) dX2_gather_15 (fun v2 σ2 => ?_)
  refine x_istore_n (pc := 18) (lv' := [(1, .int v2), (0, .ref (al 3))]) g rfl (by decide) rfl dX2_gather_18 ?_
  refine x_iconst (pc := 19) (v := (0 : Int32)) g (by decide) dX2_gather_19 ?_
  refine x_istore_n (pc := 20) (lv' := [(2, .int (0 : Int32)), (1, .int v2), (0, .ref (al 3))]) g rfl (by decide) rfl dX2_gather_20 ?_
  refine x_lv [2, 1, 0] rfl ?_
  refine lpx1_ind (fun (x1 : Int32) (σ3 : Sx) (K : Option (Unit × Sx)) => XTx p l e { frames := 4, cells := 0, slots := 0, locals := 103 } s m args below meth c D al cA ba 4 (MQx rvU D al cA ba below args s) 0 0 21 [(0, .ref (al 3)), (1, .int v2), (2, .int x1)] [] σ3 (K)) (fun _ _ => x_no) (fun r21 hr21 x1 σ3 => ?_) N (0 : Int32) σ2
  show XTx p l e { frames := 4, cells := 0, slots := 0, locals := 103 } s m args below meth c D al cA ba 4 (MQx rvU D al cA ba below args s) 0 0 21 [(0, .ref (al 3)), (1, .int v2), (2, .int x1)] [] σ3 (B_X2_gather_L21 N v2 r21 x1 σ3)
  unfold B_X2_gather_L21
  refine x_iload_n (pc := 21) g rfl 2 rfl dX2_gather_21 ?_
  refine x_aload_n (pc := 22) g rfl 0 rfl dX2_gather_22 ?_
  refine x_getI (pc := 23) g sh_3 fl_X2_58 rfl dX2_gather_23 ?_
  refine x_icmp_ge (pc := 26) (tgt := 121) g (by decide) dX2_gather_26 ?_ ?_
  · exact x_return (pc := 121) g hrt dX2_gather_121
  · refine x_aload_n (pc := 29) g rfl 0 rfl dX2_gather_29 ?_
    refine x_getR (pc := 30) g sh_3 fl_X2_37 rfl dX2_gather_30 ?_
    refine x_getI (pc := 33) g sh_1 fl_X2_62 rfl dX2_gather_33 ?_
    refine x_jn (fun (j56 : Int32 → Sx → Option (Unit × Sx)) => ∀ (y1 : Int32) (σ4 : Sx), XTx p l e { frames := 4, cells := 0, slots := 0, locals := 103 } s m args below meth c D al cA ba 4 (MQx rvU D al cA ba below args s) 0 0 56 [(0, .ref (al 3)), (1, .int v2), (2, .int x1)] [.int y1] σ4 (j56 y1 σ4)) (fun y1 σ4 => ?_) (fun j56 hj56 => ?_)
    · refine x_istore_n (pc := 56) (lv' := [(3, .int y1), (0, .ref (al 3)), (1, .int v2), (2, .int x1)]) g rfl (by decide) rfl dX2_gather_56 ?_
      refine x_iload_n (pc := 57) g rfl 0 rfl dX2_gather_57 ?_
      refine x_aload_n (pc := 58) g rfl 1 rfl dX2_gather_58 ?_
      refine x_getI (pc := 59) g sh_3 fl_X2_58 rfl dX2_gather_59 ?_
      refine x_jn (fun (j114 : Sx → Option (Unit × Sx)) => ∀ (σ5 : Sx), XTx p l e { frames := 4, cells := 0, slots := 0, locals := 103 } s m args below meth c D al cA ba 4 (MQx rvU D al cA ba below args s) 0 0 114 [(0, .ref (al 3)), (1, .int v2), (2, .int x1)] [] σ5 (j114 σ5)) (fun σ5 => ?_) (fun j114 hj114 => ?_)
      · refine x_iload_n (pc := 114) g rfl 2 rfl dX2_gather_114 ?_
        refine x_iload_n (pc := 115) g rfl 1 rfl dX2_gather_115 ?_
        refine x_iadd (pc := 116) g dX2_gather_116 ?_
        refine x_nm (fun v3 => ?_)
        refine x_istore_n (pc := 117) (lv' := [(2, .int v3), (0, .ref (al 3)), (1, .int v2)]) g rfl (by decide) rfl dX2_gather_117 ?_
        refine x_goto (pc := 118) (tgt := 21) g (by decide) dX2_gather_118 ?_
        refine x_lv [1, 2, 0] rfl ?_
        exact hr21 v3 σ5
      · refine x_icmp_ge (pc := 62) (tgt := 114) g (by decide) dX2_gather_62 ?_ ?_
        · refine x_lv [1, 2, 3] rfl ?_
          exact hj114 σ4
        · refine x_aload_n (pc := 65) g rfl 1 rfl dX2_gather_65 ?_
          refine x_getI (pc := 66) g sh_3 fl_X2_101 rfl dX2_gather_66 ?_
          refine x_sipush (pc := 69) (v := (1024 : Int32)) g (by decide) dX2_gather_69 ?_
          refine x_icmp_ge (pc := 72) (tgt := 114) g (by decide) dX2_gather_72 ?_ ?_
          · refine x_lv [1, 2, 3] rfl ?_
            exact hj114 σ4
          · refine x_aload_n (pc := 75) g rfl 1 rfl dX2_gather_75 ?_
            refine x_aload_n (pc := 76) g rfl 1 rfl dX2_gather_76 ?_
            refine x_getR (pc := 77) g sh_3 fl_X2_15 rfl dX2_gather_77 ?_
            refine x_iload_n (pc := 80) g rfl 0 rfl dX2_gather_80 ?_
            refine x_iald (pc := 81) g sh_83 (by decide) dX2_gather_81 (fun v4 => ?_)
            refine x_aload_n (pc := 82) g rfl 1 rfl dX2_gather_82 ?_
            refine x_getR (pc := 83) g sh_3 fl_X2_19 rfl dX2_gather_83 ?_
            refine x_iload_n (pc := 86) g rfl 0 rfl dX2_gather_86 ?_
            refine x_iald (pc := 87) g sh_84 (by decide) dX2_gather_87 (fun v5 => ?_)
            refine x_callVI (pc := 88) (As := [.int v4, .int v5]) g sh_3 (mc_X2_isHeld N v4 v5) cw_X2_isHeld lk_X2_112 rfl ⟨Nat.le_of_ble_eq_true rfl, Nat.le_of_ble_eq_true rfl⟩ rfl (Nat.le_of_ble_eq_true rfl) dX2_gather_88 (fun v6 σ6 => ?_)
            refine x_if_eq (pc := 91) (tgt := 114) g (by decide) dX2_gather_91 ?_ ?_
            · refine x_lv [1, 2, 3] rfl ?_
              exact hj114 σ6
            · refine x_aload_n (pc := 94) g rfl 1 rfl dX2_gather_94 ?_
              refine x_getR (pc := 95) g sh_3 fl_X2_31 rfl dX2_gather_95 ?_
              refine x_aload_n (pc := 98) g rfl 1 rfl dX2_gather_98 ?_
              refine x_getI (pc := 99) g sh_3 fl_X2_101 rfl dX2_gather_99 ?_
              refine x_iload_n (pc := 102) g rfl 0 rfl dX2_gather_102 ?_
              refine x_iast (pc := 103) g sh_88 (by decide) dX2_gather_103 (fun σ7 => ?_)
              refine x_aload_n (pc := 104) g rfl 1 rfl dX2_gather_104 ?_
              refine x_dup (pc := 105) g rfl dX2_gather_105 ?_
              refine x_getI (pc := 106) g sh_3 fl_X2_101 rfl dX2_gather_106 ?_
              refine x_iconst (pc := 109) (v := (1 : Int32)) g (by decide) dX2_gather_109 ?_
              refine x_iadd (pc := 110) g dX2_gather_110 ?_
              refine x_putI (pc := 111) g sh_3 fl_X2_101 rfl dX2_gather_111 (fun σ8 => ?_)
              refine x_lv [1, 2, 3] rfl ?_
              exact hj114 σ8
    · refine x_if_le (pc := 36) (tgt := 55) g (by decide) dX2_gather_36 ?_ ?_
      · refine x_iload_n (pc := 55) g rfl 2 rfl dX2_gather_55 ?_
        exact hj56 x1 σ3
      · refine x_iload_n (pc := 39) g rfl 2 rfl dX2_gather_39 ?_
        refine x_aload_n (pc := 40) g rfl 0 rfl dX2_gather_40 ?_
        refine x_iconst (pc := 41) (v := (0 : Int32)) g (by decide) dX2_gather_41 ?_
        refine x_aload_n (pc := 42) g rfl 0 rfl dX2_gather_42 ?_
        refine x_getR (pc := 43) g sh_3 fl_X2_19 rfl dX2_gather_43 ?_
        refine x_iload_n (pc := 46) g rfl 2 rfl dX2_gather_46 ?_
        refine x_iald (pc := 47) g sh_84 (by decide) dX2_gather_47 (fun v7 => ?_)
        refine x_callVI (pc := 48) (As := [.int (0 : Int32), .int v7]) g sh_3 (mc_X2_lawful N (0 : Int32) v7) cw_X2_lawful lk_X2_109 rfl ⟨Nat.le_of_ble_eq_true rfl, Nat.le_of_ble_eq_true rfl⟩ rfl (Nat.le_of_ble_eq_true rfl) dX2_gather_48 (fun v8 σ9 => ?_)
        refine x_iadd (pc := 51) g dX2_gather_51 ?_
        refine x_goto (pc := 52) (tgt := 56) g (by decide) dX2_gather_52 ?_
        exact hj56 (x1 + v8) σ9
def F_X2_settle (N : Nat) (σ0 : Sx) : Option (Unit × Sx) := (if (siI σ0 3 2) = 0 then some ((), σ0) else clx (F_X2_list N  σ0) (fun _ σ1 => clx (F_X2_observe N  σ1) (fun v1 σ2 => clx (F_X2_forget N  σ2) (fun _ σ3 => clx (F_X2_gather N  σ3) (fun _ σ4 => pZx 3 2 (0 : Int32) σ4 (fun σ5 => some ((), σ5)))))))
set_option maxRecDepth 100000 in
set_option maxHeartbeats 4000000 in
theorem mc_X2_settle {D : va_G} {al : Nat → Nat} {cA : Nat → ClassId} {ba : Nat} (N : Nat)  : MCx D al cA ba yX2_settle cX2_settle 1 none 5 126 rvU [.ref (al 3)] (F_X2_settle N) := by
  refine MCx_of (by decide +kernel) (Nat.le_of_ble_eq_true rfl) ?_
  intro p l e s m args below meth c σ0 g hrt
  unfold F_X2_settle
  refine x_lv (lv' := [(0, .ref (al 3))]) [0] rfl ?_
  refine x_aload_n (pc := 0) g rfl 0 rfl dX2_settle_0 ?_
  refine x_getI (pc := 1) g sh_3 fl_X2_9 rfl dX2_settle_1 ?_
  refine x_if_eq (pc := 4) (tgt := 29) g (by decide) dX2_settle_4 ?_ ?_
  · exact x_return (pc := 29) g hrt dX2_settle_29
  · refine x_aload_n (pc := 7) g rfl 0 rfl dX2_settle_7 ?_
    refine x_callVU (pc := 8) (As := []) g sh_3 (mc_X2_list N ) cw_X2_list lk_X2_45 rfl ⟨Nat.le_of_ble_eq_true rfl, Nat.le_of_ble_eq_true rfl⟩ rfl (Nat.le_of_ble_eq_true rfl) dX2_settle_8 (fun _ σ1 => ?_)
    refine x_aload_n (pc := 11) g rfl 0 rfl dX2_settle_11 ?_
    refine x_callVI (pc := 12) (As := []) g sh_3 (mc_X2_observe N ) cw_X2_observe lk_X2_48 rfl ⟨Nat.le_of_ble_eq_true rfl, Nat.le_of_ble_eq_true rfl⟩ rfl (Nat.le_of_ble_eq_true rfl) dX2_settle_12 (fun v1 σ2 => ?_)
    refine x_pop (pc := 15) g rfl dX2_settle_15 ?_
    refine x_aload_n (pc := 16) g rfl 0 rfl dX2_settle_16 ?_
    refine x_callVU (pc := 17) (As := []) g sh_3 (mc_X2_forget N ) cw_X2_forget lk_X2_52 rfl ⟨Nat.le_of_ble_eq_true rfl, Nat.le_of_ble_eq_true rfl⟩ rfl (Nat.le_of_ble_eq_true rfl) dX2_settle_17 (fun _ σ3 => ?_)
    refine x_aload_n (pc := 20) g rfl 0 rfl dX2_settle_20 ?_
    refine x_callVU (pc := 21) (As := []) g sh_3 (mc_X2_gather N ) cw_X2_gather lk_X2_55 rfl ⟨Nat.le_of_ble_eq_true rfl, Nat.le_of_ble_eq_true rfl⟩ rfl (Nat.le_of_ble_eq_true rfl) dX2_settle_21 (fun _ σ4 => ?_)
    refine x_aload_n (pc := 24) g rfl 0 rfl dX2_settle_24 ?_
    refine x_iconst (pc := 25) (v := (0 : Int32)) g (by decide) dX2_settle_25 ?_
    refine x_putZ (pc := 26) g sh_3 fl_X2_9 rfl dX2_settle_26 (fun σ5 => ?_)
    exact x_return (pc := 29) g hrt dX2_settle_29
def B_X2_forgetOne_L2 (N : Nat) (a0 : Int32) (r2 : Int32 → Sx → Option (Unit × Sx)) (x1 : Int32) (σ1 : Sx) : Option (Unit × Sx) := (if (32 : Int32) ≤ x1 then some ((), σ1) else sIx 87 160 ((a0 * (32 : Int32)) + x1) (0 : Int32) σ1 (fun σ2 => r2 (x1 + (1 : Int32)) σ2))
def F_X2_forgetOne (N : Nat) (a0 : Int32) (σ0 : Sx) : Option (Unit × Sx) := lpx1 (B_X2_forgetOne_L2 N a0) N (0 : Int32) σ0
set_option maxRecDepth 100000 in
set_option maxHeartbeats 4000000 in
theorem mc_X2_forgetOne {D : va_G} {al : Nat → Nat} {cA : Nat → ClassId} {ba : Nat} (N : Nat) (a0 : Int32) : MCx D al cA ba yX2_forgetOne cX2_forgetOne 3 none 0 0 rvU [.ref (al 3), .int a0] (F_X2_forgetOne N a0) := by
  refine MCx_of (by decide +kernel) (Nat.le_of_ble_eq_true rfl) ?_
  intro p l e s m args below meth c σ0 g hrt
  unfold F_X2_forgetOne
  refine x_lv (lv' := [(0, .ref (al 3)), (1, .int a0)]) [0, 1] rfl ?_
  refine x_iconst (pc := 0) (v := (0 : Int32)) g (by decide) dX2_forgetOne_0 ?_
  refine x_istore_n (pc := 1) (lv' := [(2, .int (0 : Int32)), (0, .ref (al 3)), (1, .int a0)]) g rfl (by decide) rfl dX2_forgetOne_1 ?_
  refine x_lv [1, 2, 0] rfl ?_
  refine lpx1_ind (fun (x1 : Int32) (σ1 : Sx) (K : Option (Unit × Sx)) => XTx p l e { frames := 0, cells := 0, slots := 0, locals := 0 } s m args below meth c D al cA ba 3 (MQx rvU D al cA ba below args s) 0 0 2 [(0, .ref (al 3)), (1, .int a0), (2, .int x1)] [] σ1 (K)) (fun _ _ => x_no) (fun r2 hr2 x1 σ1 => ?_) N (0 : Int32) σ0
  show XTx p l e { frames := 0, cells := 0, slots := 0, locals := 0 } s m args below meth c D al cA ba 3 (MQx rvU D al cA ba below args s) 0 0 2 [(0, .ref (al 3)), (1, .int a0), (2, .int x1)] [] σ1 (B_X2_forgetOne_L2 N a0 r2 x1 σ1)
  unfold B_X2_forgetOne_L2
  refine x_iload_n (pc := 2) g rfl 2 rfl dX2_forgetOne_2 ?_
  refine x_bipush (pc := 3) (v := (32 : Int32)) g (by decide) dX2_forgetOne_3 ?_
  refine x_icmp_ge (pc := 5) (tgt := 26) g (by decide) dX2_forgetOne_5 ?_ ?_
  · exact x_return (pc := 26) g hrt dX2_forgetOne_26
  · refine x_aload_n (pc := 8) g rfl 0 rfl dX2_forgetOne_8 ?_
    refine x_getR (pc := 9) g sh_3 fl_X2_28 rfl dX2_forgetOne_9 ?_
    refine x_iload_n (pc := 12) g rfl 1 rfl dX2_forgetOne_12 ?_
    refine x_bipush (pc := 13) (v := (32 : Int32)) g (by decide) dX2_forgetOne_13 ?_
    refine x_imul (pc := 15) g dX2_forgetOne_15 ?_
    refine x_iload_n (pc := 16) g rfl 2 rfl dX2_forgetOne_16 ?_
    refine x_iadd (pc := 17) g dX2_forgetOne_17 ?_
    refine x_iconst (pc := 18) (v := (0 : Int32)) g (by decide) dX2_forgetOne_18 ?_
    refine x_iast (pc := 19) g sh_87 (by decide) dX2_forgetOne_19 (fun σ2 => ?_)
    refine x_iinc (pc := 20) (v := (x1 + (1 : Int32))) (lv' := [(2, .int (x1 + (1 : Int32))), (0, .ref (al 3)), (1, .int a0)]) g 2 rfl (by rfl) (by decide) rfl dX2_forgetOne_20 ?_
    refine x_goto (pc := 23) (tgt := 2) g (by decide) dX2_forgetOne_23 ?_
    refine x_lv [1, 2, 0] rfl ?_
    exact hr2 (x1 + (1 : Int32)) σ2
def F_X2_heldDay (a0 : Int32) (σ0 : Sx) : Option (Int32 × Sx) := (if a0 < 0 then some ((-2 : Int32), σ0) else (if (siI σ0 3 10) ≤ a0 then some ((-2 : Int32), σ0) else aIx 88 1024 a0 σ0 (fun v1 => aIx 83 1024 v1 σ0 (fun v2 => some (v2, σ0)))))
set_option maxRecDepth 100000 in
set_option maxHeartbeats 4000000 in
theorem mc_X2_heldDay {D : va_G} {al : Nat → Nat} {cA : Nat → ClassId} {ba : Nat} (a0 : Int32) : MCx D al cA ba yX2_heldDay cX2_heldDay 2 (some .int) 0 0 rvI [.ref (al 3), .int a0] (F_X2_heldDay a0) := by
  refine MCx_of (by decide +kernel) (Nat.le_of_ble_eq_true rfl) ?_
  intro p l e s m args below meth c σ0 g hrt
  unfold F_X2_heldDay
  refine x_lv (lv' := [(0, .ref (al 3)), (1, .int a0)]) [0, 1] rfl ?_
  refine x_iload_n (pc := 0) g rfl 1 rfl dX2_heldDay_0 ?_
  refine x_if_lt (pc := 1) (tgt := 26) g (by decide) dX2_heldDay_1 ?_ ?_
  · refine x_bipush (pc := 26) (v := (-2 : Int32)) g (by decide) dX2_heldDay_26 ?_
    exact x_ireturn (pc := 28) g hrt dX2_heldDay_28
  · refine x_iload_n (pc := 4) g rfl 1 rfl dX2_heldDay_4 ?_
    refine x_aload_n (pc := 5) g rfl 0 rfl dX2_heldDay_5 ?_
    refine x_getI (pc := 6) g sh_3 fl_X2_101 rfl dX2_heldDay_6 ?_
    refine x_icmp_ge (pc := 9) (tgt := 26) g (by decide) dX2_heldDay_9 ?_ ?_
    · refine x_bipush (pc := 26) (v := (-2 : Int32)) g (by decide) dX2_heldDay_26 ?_
      exact x_ireturn (pc := 28) g hrt dX2_heldDay_28
    · refine x_aload_n (pc := 12) g rfl 0 rfl dX2_heldDay_12 ?_
      refine x_getR (pc := 13) g sh_3 fl_X2_15 rfl dX2_heldDay_13 ?_
      refine x_aload_n (pc := 16) g rfl 0 rfl dX2_heldDay_16 ?_
      refine x_getR (pc := 17) g sh_3 fl_X2_31 rfl dX2_heldDay_17 ?_
      refine x_iload_n (pc := 20) g rfl 1 rfl dX2_heldDay_20 ?_
      refine x_iald (pc := 21) g sh_88 (by decide) dX2_heldDay_21 (fun v1 => ?_)
      refine x_iald (pc := 22) g sh_83 (by decide) dX2_heldDay_22 (fun v2 => ?_)
      refine x_goto (pc := 23) (tgt := 28) g (by decide) dX2_heldDay_23 ?_
      exact x_ireturn (pc := 28) g hrt dX2_heldDay_28
def B_X2_costOf_L5 (N : Nat) (a0 : Int32) (a1 : Int32) (r5 : Int32 → Int32 → Sx → Option (Int32 × Sx)) (x1 : Int32) (x2 : Int32) (σ1 : Sx) : Option (Int32 × Sx) := (if (siI σ1 1 0) ≤ x2 then some (x1, σ1) else clx (F_X2_lawful N x2 a1 σ1) (fun v1 σ2 => clx (F_X8_choice a0 x2 σ2) (fun v2 σ3 => nmx (fun (x3 : Int32) (σ4 : Sx) => r5 x3 (x2 + (1 : Int32)) σ4) (fun (j46 : Int32 → Sx → Option (Int32 × Sx)) => (if v1 = v2 then j46 x1 σ3 else clx (F_X8_told x2 (2 : Int32) σ3) (fun v3 σ5 => nmx ((x1 + v3)) (fun v4 => j46 v4 σ5)))))))
def F_X2_costOf (N : Nat) (a0 : Int32) (a1 : Int32) (σ0 : Sx) : Option (Int32 × Sx) := lpx2 (B_X2_costOf_L5 N a0 a1) N (0 : Int32) (0 : Int32) σ0
set_option maxRecDepth 100000 in
set_option maxHeartbeats 4000000 in
theorem mc_X2_costOf {D : va_G} {al : Nat → Nat} {cA : Nat → ClassId} {ba : Nat} (N : Nat) (a0 : Int32) (a1 : Int32) : MCx D al cA ba yX2_costOf cX2_costOf 5 (some .int) 3 80 rvI [.ref (al 3), .int a0, .int a1] (F_X2_costOf N a0 a1) := by
  refine MCx_of (by decide +kernel) (Nat.le_of_ble_eq_true rfl) ?_
  intro p l e s m args below meth c σ0 g hrt
  unfold F_X2_costOf
  refine x_lv (lv' := [(0, .ref (al 3)), (1, .int a0), (2, .int a1)]) [0, 1, 2] rfl ?_
  refine x_iconst (pc := 0) (v := (0 : Int32)) g (by decide) dX2_costOf_0 ?_
  refine x_istore_n (pc := 1) (lv' := [(3, .int (0 : Int32)), (0, .ref (al 3)), (1, .int a0), (2, .int a1)]) g rfl (by decide) rfl dX2_costOf_1 ?_
  refine x_iconst (pc := 2) (v := (0 : Int32)) g (by decide) dX2_costOf_2 ?_
  refine x_istore (pc := 3) (lv' := [(4, .int (0 : Int32)), (3, .int (0 : Int32)), (0, .ref (al 3)), (1, .int a0), (2, .int a1)]) g (by decide) rfl dX2_costOf_3 ?_
  refine x_lv [2, 3, 4, 1, 0] rfl ?_
  refine lpx2_ind (fun (x1 : Int32) (x2 : Int32) (σ1 : Sx) (K : Option (Int32 × Sx)) => XTx p l e { frames := 3, cells := 0, slots := 0, locals := 80 } s m args below meth c D al cA ba 5 (MQx rvI D al cA ba below args s) 0 0 5 [(0, .ref (al 3)), (1, .int a0), (2, .int a1), (3, .int x1), (4, .int x2)] [] σ1 (K)) (fun _ _ _ => x_no) (fun r5 hr5 x1 x2 σ1 => ?_) N (0 : Int32) (0 : Int32) σ0
  show XTx p l e { frames := 3, cells := 0, slots := 0, locals := 80 } s m args below meth c D al cA ba 5 (MQx rvI D al cA ba below args s) 0 0 5 [(0, .ref (al 3)), (1, .int a0), (2, .int a1), (3, .int x1), (4, .int x2)] [] σ1 (B_X2_costOf_L5 N a0 a1 r5 x1 x2 σ1)
  unfold B_X2_costOf_L5
  refine x_iload (pc := 5) g 4 rfl dX2_costOf_5 ?_
  refine x_aload_n (pc := 7) g rfl 0 rfl dX2_costOf_7 ?_
  refine x_getR (pc := 8) g sh_3 fl_X2_37 rfl dX2_costOf_8 ?_
  refine x_getI (pc := 11) g sh_1 fl_X2_62 rfl dX2_costOf_11 ?_
  refine x_icmp_ge (pc := 14) (tgt := 52) g (by decide) dX2_costOf_14 ?_ ?_
  · refine x_iload_n (pc := 52) g rfl 3 rfl dX2_costOf_52 ?_
    exact x_ireturn (pc := 53) g hrt dX2_costOf_53
  · refine x_aload_n (pc := 17) g rfl 0 rfl dX2_costOf_17 ?_
    refine x_iload (pc := 18) g 4 rfl dX2_costOf_18 ?_
    refine x_iload_n (pc := 20) g rfl 2 rfl dX2_costOf_20 ?_
    refine x_callVI (pc := 21) (As := [.int x2, .int a1]) g sh_3 (mc_X2_lawful N x2 a1) cw_X2_lawful lk_X2_109 rfl ⟨Nat.le_of_ble_eq_true rfl, Nat.le_of_ble_eq_true rfl⟩ rfl (Nat.le_of_ble_eq_true rfl) dX2_costOf_21 (fun v1 σ2 => ?_)
    refine x_iload_n (pc := 24) g rfl 1 rfl dX2_costOf_24 ?_
    refine x_iload (pc := 25) g 4 rfl dX2_costOf_25 ?_
    refine x_callSI (pc := 27) (As := [.int a0, .int x2]) g (mc_X8_choice a0 x2) cw_X8_choice lk_X2_116 rfl ⟨Nat.le_of_ble_eq_true rfl, Nat.le_of_ble_eq_true rfl⟩ rfl (Nat.le_of_ble_eq_true rfl) dX2_costOf_27 (fun v2 σ3 => ?_)
    refine x_jn (fun (j46 : Int32 → Sx → Option (Int32 × Sx)) => ∀ (x3 : Int32) (σ4 : Sx), XTx p l e { frames := 3, cells := 0, slots := 0, locals := 80 } s m args below meth c D al cA ba 5 (MQx rvI D al cA ba below args s) 0 0 46 [(0, .ref (al 3)), (1, .int a0), (2, .int a1), (3, .int x3), (4, .int x2)] [] σ4 (j46 x3 σ4)) (fun x3 σ4 => ?_) (fun j46 hj46 => ?_)
    · refine x_iinc (pc := 46) (v := (x2 + (1 : Int32))) (lv' := [(4, .int (x2 + (1 : Int32))), (0, .ref (al 3)), (1, .int a0), (2, .int a1), (3, .int x3)]) g 4 rfl (by rfl) (by decide) rfl dX2_costOf_46 ?_
      refine x_goto (pc := 49) (tgt := 5) g (by decide) dX2_costOf_49 ?_
      refine x_lv [1, 2, 3, 4, 0] rfl ?_
      exact hr5 x3 (x2 + (1 : Int32)) σ4
    · refine x_icmp_eq (pc := 30) (tgt := 46) g (by decide) dX2_costOf_30 ?_ ?_
      · exact hj46 x1 σ3
      · refine x_iload_n (pc := 33) g rfl 3 rfl dX2_costOf_33 ?_
        refine x_aload_n (pc := 34) g rfl 0 rfl dX2_costOf_34 ?_
        refine x_getR (pc := 35) g sh_3 fl_X2_37 rfl dX2_costOf_35 ?_
        refine x_iload (pc := 38) g 4 rfl dX2_costOf_38 ?_
        refine x_iconst (pc := 40) (v := (2 : Int32)) g (by decide) dX2_costOf_40 ?_
        refine x_callVI (pc := 41) (As := [.int x2, .int (2 : Int32)]) g sh_1 (mc_X8_told x2 (2 : Int32)) cw_X8_told lk_X2_134 rfl ⟨Nat.le_of_ble_eq_true rfl, Nat.le_of_ble_eq_true rfl⟩ rfl (Nat.le_of_ble_eq_true rfl) dX2_costOf_41 (fun v3 σ5 => ?_)
        refine x_iadd (pc := 44) g dX2_costOf_44 ?_
        refine x_nm (fun v4 => ?_)
        refine x_istore_n (pc := 45) (lv' := [(3, .int v4), (0, .ref (al 3)), (1, .int a0), (2, .int a1), (4, .int x2)]) g rfl (by decide) rfl dX2_costOf_45 ?_
        refine x_lv [1, 2, 3, 0, 4] rfl ?_
        exact hj46 v4 σ5
def B_X2_nextDay_L14 (N : Nat) (v1 : Int32) (r14 : Int32 → Int32 → Sx → Option (Int32 × Sx)) (x1 : Int32) (x2 : Int32) (σ2 : Sx) : Option (Int32 × Sx) := (if (siI σ2 1 0) ≤ x2 then some (x1, σ2) else clx (F_X2_lawful N x2 v1 σ2) (fun v2 σ3 => nmx ((x1 ||| (jshl v2 ((2 : Int32) * x2)))) (fun v3 => r14 v3 (x2 + (1 : Int32)) σ3)))
def F_X2_nextDay (N : Nat) (a0 : Int32) (σ0 : Sx) : Option (Int32 × Sx) := clx (F_X8_waysOn N a0 σ0) (fun v1 σ1 => lpx2 (B_X2_nextDay_L14 N v1) N (0 : Int32) (0 : Int32) σ1)
set_option maxRecDepth 100000 in
set_option maxHeartbeats 4000000 in
theorem mc_X2_nextDay {D : va_G} {al : Nat → Nat} {cA : Nat → ClassId} {ba : Nat} (N : Nat) (a0 : Int32) : MCx D al cA ba yX2_nextDay cX2_nextDay 5 (some .int) 3 80 rvI [.ref (al 3), .int a0] (F_X2_nextDay N a0) := by
  refine MCx_of (by decide +kernel) (Nat.le_of_ble_eq_true rfl) ?_
  intro p l e s m args below meth c σ0 g hrt
  unfold F_X2_nextDay
  refine x_lv (lv' := [(0, .ref (al 3)), (1, .int a0)]) [0, 1] rfl ?_
  refine x_aload_n (pc := 0) g rfl 0 rfl dX2_nextDay_0 ?_
  refine x_getR (pc := 1) g sh_3 fl_X2_37 rfl dX2_nextDay_1 ?_
  refine x_iload_n (pc := 4) g rfl 1 rfl dX2_nextDay_4 ?_
  refine x_callVI (pc := 5) (As := [.int a0]) g sh_1 (mc_X8_waysOn N a0) cw_X8_waysOn lk_X2_137 rfl ⟨Nat.le_of_ble_eq_true rfl, Nat.le_of_ble_eq_true rfl⟩ rfl (Nat.le_of_ble_eq_true rfl) dX2_nextDay_5 (fun v1 σ1 => ?_)
  refine x_istore_n (pc := 8) (lv' := [(2, .int v1), (0, .ref (al 3)), (1, .int a0)]) g rfl (by decide) rfl dX2_nextDay_8 ?_
  refine x_iconst (pc := 9) (v := (0 : Int32)) g (by decide) dX2_nextDay_9 ?_
  refine x_istore_n (pc := 10) (lv' := [(3, .int (0 : Int32)), (2, .int v1), (0, .ref (al 3)), (1, .int a0)]) g rfl (by decide) rfl dX2_nextDay_10 ?_
  refine x_iconst (pc := 11) (v := (0 : Int32)) g (by decide) dX2_nextDay_11 ?_
  refine x_istore (pc := 12) (lv' := [(4, .int (0 : Int32)), (3, .int (0 : Int32)), (2, .int v1), (0, .ref (al 3)), (1, .int a0)]) g (by decide) rfl dX2_nextDay_12 ?_
  refine x_lv [3, 2, 1, 0] rfl ?_
  refine lpx2_ind (fun (x1 : Int32) (x2 : Int32) (σ2 : Sx) (K : Option (Int32 × Sx)) => XTx p l e { frames := 3, cells := 0, slots := 0, locals := 80 } s m args below meth c D al cA ba 5 (MQx rvI D al cA ba below args s) 0 0 14 [(0, .ref (al 3)), (2, .int v1), (3, .int x1), (4, .int x2)] [] σ2 (K)) (fun _ _ _ => x_no) (fun r14 hr14 x1 x2 σ2 => ?_) N (0 : Int32) (0 : Int32) σ1
  show XTx p l e { frames := 3, cells := 0, slots := 0, locals := 80 } s m args below meth c D al cA ba 5 (MQx rvI D al cA ba below args s) 0 0 14 [(0, .ref (al 3)), (2, .int v1), (3, .int x1), (4, .int x2)] [] σ2 (B_X2_nextDay_L14 N v1 r14 x1 x2 σ2)
  unfold B_X2_nextDay_L14
  refine x_iload (pc := 14) g 3 rfl dX2_nextDay_14 ?_
  refine x_aload_n (pc := 16) g rfl 0 rfl dX2_nextDay_16 ?_
  refine x_getR (pc := 17) g sh_3 fl_X2_37 rfl dX2_nextDay_17 ?_
  refine x_getI (pc := 20) g sh_1 fl_X2_62 rfl dX2_nextDay_20 ?_
  refine x_icmp_ge (pc := 23) (tgt := 47) g (by decide) dX2_nextDay_23 ?_ ?_
  · refine x_iload_n (pc := 47) g rfl 2 rfl dX2_nextDay_47 ?_
    exact x_ireturn (pc := 48) g hrt dX2_nextDay_48
  · refine x_iload_n (pc := 26) g rfl 2 rfl dX2_nextDay_26 ?_
    refine x_aload_n (pc := 27) g rfl 0 rfl dX2_nextDay_27 ?_
    refine x_iload (pc := 28) g 3 rfl dX2_nextDay_28 ?_
    refine x_iload_n (pc := 30) g rfl 1 rfl dX2_nextDay_30 ?_
    refine x_callVI (pc := 31) (As := [.int x2, .int v1]) g sh_3 (mc_X2_lawful N x2 v1) cw_X2_lawful lk_X2_109 rfl ⟨Nat.le_of_ble_eq_true rfl, Nat.le_of_ble_eq_true rfl⟩ rfl (Nat.le_of_ble_eq_true rfl) dX2_nextDay_31 (fun v2 σ3 => ?_)
    refine x_iconst (pc := 34) (v := (2 : Int32)) g (by decide) dX2_nextDay_34 ?_
    refine x_iload (pc := 35) g 3 rfl dX2_nextDay_35 ?_
    refine x_imul (pc := 37) g dX2_nextDay_37 ?_
    refine x_ishl (pc := 38) g dX2_nextDay_38 ?_
    refine x_ior (pc := 39) g dX2_nextDay_39 ?_
    refine x_nm (fun v3 => ?_)
    refine x_istore_n (pc := 40) (lv' := [(3, .int v3), (0, .ref (al 3)), (2, .int v1), (4, .int x2)]) g rfl (by decide) rfl dX2_nextDay_40 ?_
    refine x_iinc (pc := 41) (v := (x2 + (1 : Int32))) (lv' := [(4, .int (x2 + (1 : Int32))), (3, .int v3), (0, .ref (al 3)), (2, .int v1)]) g 3 rfl (by rfl) (by decide) rfl dX2_nextDay_41 ?_
    refine x_goto (pc := 44) (tgt := 14) g (by decide) dX2_nextDay_44 ?_
    refine x_lv [2, 3, 1, 0] rfl ?_
    exact hr14 v3 (x2 + (1 : Int32)) σ3
def B_X2_followed_L13 (N : Nat) (j50 : Int32 → Int32 → Sx → Option (Int32 × Sx)) (r13 : Int32 → Int32 → Sx → Option (Int32 × Sx)) (x3 : Int32) (x4 : Int32) (σ3 : Sx) : Option (Int32 × Sx) := (if (1024 : Int32) ≤ x4 then j50 x3 x4 σ3 else aIx 89 1024 x3 σ3 (fun v2 => (if 0 ≤ v2 then j50 x3 x4 σ3 else sIx 89 1024 x3 x4 σ3 (fun σ4 => clx (F_X2_nextDay N x3 σ4) (fun v3 σ5 => r13 v3 (x4 + (1 : Int32)) σ5)))))
def F_X2_followed (N : Nat) (a0 : Int32) (a1 : Int32) (σ0 : Sx) : Option (Int32 × Sx) := clx (F_J7_fill_53178 N 89 1024 (-1 : Int32) σ0) (fun _ σ1 => nmx (fun (x1 : Int32) (x2 : Int32) (σ2 : Sx) => (if a1 = 0 then some (x2, σ2) else (if a1 = (1 : Int32) then aIx 89 1024 x1 σ2 (fun v1 => some ((x2 - v1), σ2)) else some (x1, σ2)))) (fun (j50 : Int32 → Int32 → Sx → Option (Int32 × Sx)) => lpx2 (B_X2_followed_L13 N j50) N a0 (0 : Int32) σ1))
set_option maxRecDepth 100000 in
set_option maxHeartbeats 4000000 in
theorem mc_X2_followed {D : va_G} {al : Nat → Nat} {cA : Nat → ClassId} {ba : Nat} (N : Nat) (a0 : Int32) (a1 : Int32) : MCx D al cA ba yX2_followed cX2_followed 5 (some .int) 4 104 rvI [.ref (al 3), .int a0, .int a1] (F_X2_followed N a0 a1) := by
  refine MCx_of (by decide +kernel) (Nat.le_of_ble_eq_true rfl) ?_
  intro p l e s m args below meth c σ0 g hrt
  unfold F_X2_followed
  refine x_lv (lv' := [(0, .ref (al 3)), (1, .int a0), (2, .int a1)]) [0, 1, 2] rfl ?_
  refine x_aload_n (pc := 0) g rfl 0 rfl dX2_followed_0 ?_
  refine x_getR (pc := 1) g sh_3 fl_X2_34 rfl dX2_followed_1 ?_
  refine x_iconst (pc := 4) (v := (-1 : Int32)) g (by decide) dX2_followed_4 ?_
  refine x_callSU (pc := 5) (As := [.ref (al 89), .int (-1 : Int32)]) g (mc_J7_fill_53178 N 89 1024 sh_89 (by decide) (-1 : Int32)) cw_J7_fill_53178 lk_X2_91 rfl ⟨Nat.le_of_ble_eq_true rfl, Nat.le_of_ble_eq_true rfl⟩ rfl (Nat.le_of_ble_eq_true rfl) dX2_followed_5 (fun _ σ1 => ?_)
  refine x_iload_n (pc := 8) g rfl 1 rfl dX2_followed_8 ?_
  refine x_istore_n (pc := 9) (lv' := [(3, .int a0), (0, .ref (al 3)), (1, .int a0), (2, .int a1)]) g rfl (by decide) rfl dX2_followed_9 ?_
  refine x_iconst (pc := 10) (v := (0 : Int32)) g (by decide) dX2_followed_10 ?_
  refine x_istore (pc := 11) (lv' := [(4, .int (0 : Int32)), (3, .int a0), (0, .ref (al 3)), (1, .int a0), (2, .int a1)]) g (by decide) rfl dX2_followed_11 ?_
  refine x_jn (fun (j50 : Int32 → Int32 → Sx → Option (Int32 × Sx)) => ∀ (x1 : Int32) (x2 : Int32) (σ2 : Sx), XTx p l e { frames := 4, cells := 0, slots := 0, locals := 104 } s m args below meth c D al cA ba 5 (MQx rvI D al cA ba below args s) 0 0 50 [(0, .ref (al 3)), (2, .int a1), (3, .int x1), (4, .int x2)] [] σ2 (j50 x1 x2 σ2)) (fun x1 x2 σ2 => ?_) (fun j50 hj50 => ?_)
  · refine x_iload_n (pc := 50) g rfl 1 rfl dX2_followed_50 ?_
    refine x_if_ne (pc := 51) (tgt := 57) g (by decide) dX2_followed_51 ?_ ?_
    · refine x_iload_n (pc := 57) g rfl 1 rfl dX2_followed_57 ?_
      refine x_iconst (pc := 58) (v := (1 : Int32)) g (by decide) dX2_followed_58 ?_
      refine x_icmp_ne (pc := 59) (tgt := 74) g (by decide) dX2_followed_59 ?_ ?_
      · refine x_iload_n (pc := 74) g rfl 2 rfl dX2_followed_74 ?_
        exact x_ireturn (pc := 75) g hrt dX2_followed_75
      · refine x_iload (pc := 62) g 3 rfl dX2_followed_62 ?_
        refine x_aload_n (pc := 64) g rfl 0 rfl dX2_followed_64 ?_
        refine x_getR (pc := 65) g sh_3 fl_X2_34 rfl dX2_followed_65 ?_
        refine x_iload_n (pc := 68) g rfl 2 rfl dX2_followed_68 ?_
        refine x_iald (pc := 69) g sh_89 (by decide) dX2_followed_69 (fun v1 => ?_)
        refine x_isub (pc := 70) g dX2_followed_70 ?_
        refine x_goto (pc := 71) (tgt := 75) g (by decide) dX2_followed_71 ?_
        exact x_ireturn (pc := 75) g hrt dX2_followed_75
    · refine x_iload (pc := 54) g 3 rfl dX2_followed_54 ?_
      exact x_ireturn (pc := 56) g hrt dX2_followed_56
  · refine x_lv [2, 4, 1, 0] rfl ?_
    refine lpx2_ind (fun (x3 : Int32) (x4 : Int32) (σ3 : Sx) (K : Option (Int32 × Sx)) => XTx p l e { frames := 4, cells := 0, slots := 0, locals := 104 } s m args below meth c D al cA ba 5 (MQx rvI D al cA ba below args s) 0 0 13 [(0, .ref (al 3)), (2, .int a1), (3, .int x3), (4, .int x4)] [] σ3 (K)) (fun _ _ _ => x_no) (fun r13 hr13 x3 x4 σ3 => ?_) N a0 (0 : Int32) σ1
    show XTx p l e { frames := 4, cells := 0, slots := 0, locals := 104 } s m args below meth c D al cA ba 5 (MQx rvI D al cA ba below args s) 0 0 13 [(0, .ref (al 3)), (2, .int a1), (3, .int x3), (4, .int x4)] [] σ3 (B_X2_followed_L13 N j50 r13 x3 x4 σ3)
    unfold B_X2_followed_L13
    refine x_iload (pc := 13) g 3 rfl dX2_followed_13 ?_
    refine x_sipush (pc := 15) (v := (1024 : Int32)) g (by decide) dX2_followed_15 ?_
    refine x_icmp_ge (pc := 18) (tgt := 50) g (by decide) dX2_followed_18 ?_ ?_
    · exact hj50 x3 x4 σ3
    · refine x_aload_n (pc := 21) g rfl 0 rfl dX2_followed_21 ?_
      refine x_getR (pc := 22) g sh_3 fl_X2_34 rfl dX2_followed_22 ?_
      refine x_iload_n (pc := 25) g rfl 2 rfl dX2_followed_25 ?_
      refine x_iald (pc := 26) g sh_89 (by decide) dX2_followed_26 (fun v2 => ?_)
      refine x_if_ge (pc := 27) (tgt := 50) g (by decide) dX2_followed_27 ?_ ?_
      · exact hj50 x3 x4 σ3
      · refine x_aload_n (pc := 30) g rfl 0 rfl dX2_followed_30 ?_
        refine x_getR (pc := 31) g sh_3 fl_X2_34 rfl dX2_followed_31 ?_
        refine x_iload_n (pc := 34) g rfl 2 rfl dX2_followed_34 ?_
        refine x_iload (pc := 35) g 3 rfl dX2_followed_35 ?_
        refine x_iast (pc := 37) g sh_89 (by decide) dX2_followed_37 (fun σ4 => ?_)
        refine x_aload_n (pc := 38) g rfl 0 rfl dX2_followed_38 ?_
        refine x_iload_n (pc := 39) g rfl 2 rfl dX2_followed_39 ?_
        refine x_callVI (pc := 40) (As := [.int x3]) g sh_3 (mc_X2_nextDay N x3) cw_X2_nextDay lk_X2_140 rfl ⟨Nat.le_of_ble_eq_true rfl, Nat.le_of_ble_eq_true rfl⟩ rfl (Nat.le_of_ble_eq_true rfl) dX2_followed_40 (fun v3 σ5 => ?_)
        refine x_istore_n (pc := 43) (lv' := [(3, .int v3), (0, .ref (al 3)), (2, .int a1), (4, .int x4)]) g rfl (by decide) rfl dX2_followed_43 ?_
        refine x_iinc (pc := 44) (v := (x4 + (1 : Int32))) (lv' := [(4, .int (x4 + (1 : Int32))), (3, .int v3), (0, .ref (al 3)), (2, .int a1)]) g 3 rfl (by rfl) (by decide) rfl dX2_followed_44 ?_
        refine x_goto (pc := 47) (tgt := 13) g (by decide) dX2_followed_47 ?_
        refine x_lv [2, 3, 1, 0] rfl ?_
        exact hr13 v3 (x4 + (1 : Int32)) σ5
def B_X2_paint_L2 (N : Nat) (a0 : Int32) (a1 : Int32) (r2 : Int32 → Sx → Option (Unit × Sx)) (x1 : Int32) (σ1 : Sx) : Option (Unit × Sx) := (if (siI σ1 1 0) ≤ x1 then some ((), σ1) else nmx (fun (σ2 : Sx) => r2 (x1 + (1 : Int32)) σ2) (fun (j39 : Sx → Option (Unit × Sx)) => (if x1 = a0 then j39 σ1 else clx (F_X2_firstPlace x1 σ1) (fun v1 σ3 => (if v1 = a1 then aIx 86 5 x1 σ3 (fun v2 => sIx 86 5 x1 (v2 ||| (jshl (1 : Int32) a0)) σ3 (fun σ4 => j39 σ4)) else j39 σ3)))))
def F_X2_paint (N : Nat) (a0 : Int32) (a1 : Int32) (σ0 : Sx) : Option (Unit × Sx) := lpx1 (B_X2_paint_L2 N a0 a1) N (0 : Int32) σ0
set_option maxRecDepth 100000 in
set_option maxHeartbeats 4000000 in
theorem mc_X2_paint {D : va_G} {al : Nat → Nat} {cA : Nat → ClassId} {ba : Nat} (N : Nat) (a0 : Int32) (a1 : Int32) : MCx D al cA ba yX2_paint cX2_paint 4 none 2 42 rvU [.ref (al 3), .int a0, .int a1] (F_X2_paint N a0 a1) := by
  refine MCx_of (by decide +kernel) (Nat.le_of_ble_eq_true rfl) ?_
  intro p l e s m args below meth c σ0 g hrt
  unfold F_X2_paint
  refine x_lv (lv' := [(0, .ref (al 3)), (1, .int a0), (2, .int a1)]) [0, 1, 2] rfl ?_
  refine x_iconst (pc := 0) (v := (0 : Int32)) g (by decide) dX2_paint_0 ?_
  refine x_istore_n (pc := 1) (lv' := [(3, .int (0 : Int32)), (0, .ref (al 3)), (1, .int a0), (2, .int a1)]) g rfl (by decide) rfl dX2_paint_1 ?_
  refine x_lv [1, 2, 3, 0] rfl ?_
  refine lpx1_ind (fun (x1 : Int32) (σ1 : Sx) (K : Option (Unit × Sx)) => XTx p l e { frames := 2, cells := 0, slots := 0, locals := 42 } s m args below meth c D al cA ba 4 (MQx rvU D al cA ba below args s) 0 0 2 [(0, .ref (al 3)), (1, .int a0), (2, .int a1), (3, .int x1)] [] σ1 (K)) (fun _ _ => x_no) (fun r2 hr2 x1 σ1 => ?_) N (0 : Int32) σ0
  show XTx p l e { frames := 2, cells := 0, slots := 0, locals := 42 } s m args below meth c D al cA ba 4 (MQx rvU D al cA ba below args s) 0 0 2 [(0, .ref (al 3)), (1, .int a0), (2, .int a1), (3, .int x1)] [] σ1 (B_X2_paint_L2 N a0 a1 r2 x1 σ1)
  unfold B_X2_paint_L2
  refine x_iload_n (pc := 2) g rfl 3 rfl dX2_paint_2 ?_
  refine x_aload_n (pc := 3) g rfl 0 rfl dX2_paint_3 ?_
  refine x_getR (pc := 4) g sh_3 fl_X2_37 rfl dX2_paint_4 ?_
  refine x_getI (pc := 7) g sh_1 fl_X2_62 rfl dX2_paint_7 ?_
  refine x_icmp_ge (pc := 10) (tgt := 45) g (by decide) dX2_paint_10 ?_ ?_
  · exact x_return (pc := 45) g hrt dX2_paint_45
  · refine x_iload_n (pc := 13) g rfl 3 rfl dX2_paint_13 ?_
    refine x_iload_n (pc := 14) g rfl 1 rfl dX2_paint_14 ?_
    refine x_jn (fun (j39 : Sx → Option (Unit × Sx)) => ∀ (σ2 : Sx), XTx p l e { frames := 2, cells := 0, slots := 0, locals := 42 } s m args below meth c D al cA ba 4 (MQx rvU D al cA ba below args s) 0 0 39 [(0, .ref (al 3)), (1, .int a0), (2, .int a1), (3, .int x1)] [] σ2 (j39 σ2)) (fun σ2 => ?_) (fun j39 hj39 => ?_)
    · refine x_iinc (pc := 39) (v := (x1 + (1 : Int32))) (lv' := [(3, .int (x1 + (1 : Int32))), (0, .ref (al 3)), (1, .int a0), (2, .int a1)]) g 3 rfl (by rfl) (by decide) rfl dX2_paint_39 ?_
      refine x_goto (pc := 42) (tgt := 2) g (by decide) dX2_paint_42 ?_
      refine x_lv [1, 2, 3, 0] rfl ?_
      exact hr2 (x1 + (1 : Int32)) σ2
    · refine x_icmp_eq (pc := 15) (tgt := 39) g (by decide) dX2_paint_15 ?_ ?_
      · exact hj39 σ1
      · refine x_aload_n (pc := 18) g rfl 0 rfl dX2_paint_18 ?_
        refine x_iload_n (pc := 19) g rfl 3 rfl dX2_paint_19 ?_
        refine x_callVI (pc := 20) (As := [.int x1]) g sh_3 (mc_X2_firstPlace x1) cw_X2_firstPlace lk_X2_78 rfl ⟨Nat.le_of_ble_eq_true rfl, Nat.le_of_ble_eq_true rfl⟩ rfl (Nat.le_of_ble_eq_true rfl) dX2_paint_20 (fun v1 σ3 => ?_)
        refine x_iload_n (pc := 23) g rfl 2 rfl dX2_paint_23 ?_
        refine x_icmp_ne (pc := 24) (tgt := 39) g (by decide) dX2_paint_24 ?_ ?_
        · exact hj39 σ3
        · refine x_aload_n (pc := 27) g rfl 0 rfl dX2_paint_27 ?_
          refine x_getR (pc := 28) g sh_3 fl_X2_25 rfl dX2_paint_28 ?_
          refine x_iload_n (pc := 31) g rfl 3 rfl dX2_paint_31 ?_
          refine x_dup2 (pc := 32) g rfl rfl dX2_paint_32 ?_
          refine x_iald (pc := 33) g sh_86 (by decide) dX2_paint_33 (fun v2 => ?_)
          refine x_iconst (pc := 34) (v := (1 : Int32)) g (by decide) dX2_paint_34 ?_
          refine x_iload_n (pc := 35) g rfl 1 rfl dX2_paint_35 ?_
          refine x_ishl (pc := 36) g dX2_paint_36 ?_
          refine x_ior (pc := 37) g dX2_paint_37 ?_
          refine x_iast (pc := 38) g sh_86 (by decide) dX2_paint_38 (fun σ4 => ?_)
          exact hj39 σ4
def B_X2_drown_L3 (N : Nat) (a0 : Int32) (a1 : Int32) (a2 : Int32) (r3 : Int32 → Sx → Option (Unit × Sx)) (x1 : Int32) (σ1 : Sx) : Option (Unit × Sx) := (if (siI σ1 1 0) ≤ x1 then some ((), σ1) else clx (F_X2_firstPlace x1 σ1) (fun v1 σ2 => nmx (fun (σ3 : Sx) => r3 (x1 + (1 : Int32)) σ3) (fun (j59 : Sx → Option (Unit × Sx)) => (if v1 = a0 then clx (F_X8_start x1 σ2) (fun v2 σ4 => (if v2 < a1 then j59 σ4 else clx (F_X8_start x1 σ4) (fun v3 σ5 => (if a2 < v3 then j59 σ5 else sIx 85 5 x1 (0 : Int32) σ5 (fun σ6 => j59 σ6))))) else j59 σ2))))
def F_X2_drown (N : Nat) (a0 : Int32) (a1 : Int32) (a2 : Int32) (σ0 : Sx) : Option (Unit × Sx) := lpx1 (B_X2_drown_L3 N a0 a1 a2) N (0 : Int32) σ0
set_option maxRecDepth 100000 in
set_option maxHeartbeats 4000000 in
theorem mc_X2_drown {D : va_G} {al : Nat → Nat} {cA : Nat → ClassId} {ba : Nat} (N : Nat) (a0 : Int32) (a1 : Int32) (a2 : Int32) : MCx D al cA ba yX2_drown cX2_drown 5 none 2 42 rvU [.ref (al 3), .int a0, .int a1, .int a2] (F_X2_drown N a0 a1 a2) := by
  refine MCx_of (by decide +kernel) (Nat.le_of_ble_eq_true rfl) ?_
  intro p l e s m args below meth c σ0 g hrt
  unfold F_X2_drown
  refine x_lv (lv' := [(0, .ref (al 3)), (1, .int a0), (2, .int a1), (3, .int a2)]) [0, 1, 2, 3] rfl ?_
  refine x_iconst (pc := 0) (v := (0 : Int32)) g (by decide) dX2_drown_0 ?_
  refine x_istore (pc := 1) (lv' := [(4, .int (0 : Int32)), (0, .ref (al 3)), (1, .int a0), (2, .int a1), (3, .int a2)]) g (by decide) rfl dX2_drown_1 ?_
  refine x_lv [1, 2, 3, 4, 0] rfl ?_
  refine lpx1_ind (fun (x1 : Int32) (σ1 : Sx) (K : Option (Unit × Sx)) => XTx p l e { frames := 2, cells := 0, slots := 0, locals := 42 } s m args below meth c D al cA ba 5 (MQx rvU D al cA ba below args s) 0 0 3 [(0, .ref (al 3)), (1, .int a0), (2, .int a1), (3, .int a2), (4, .int x1)] [] σ1 (K)) (fun _ _ => x_no) (fun r3 hr3 x1 σ1 => ?_) N (0 : Int32) σ0
  show XTx p l e { frames := 2, cells := 0, slots := 0, locals := 42 } s m args below meth c D al cA ba 5 (MQx rvU D al cA ba below args s) 0 0 3 [(0, .ref (al 3)), (1, .int a0), (2, .int a1), (3, .int a2), (4, .int x1)] [] σ1 (B_X2_drown_L3 N a0 a1 a2 r3 x1 σ1)
  unfold B_X2_drown_L3
  refine x_iload (pc := 3) g 4 rfl dX2_drown_3 ?_
  refine x_aload_n (pc := 5) g rfl 0 rfl dX2_drown_5 ?_
  refine x_getR (pc := 6) g sh_3 fl_X2_37 rfl dX2_drown_6 ?_
  refine x_getI (pc := 9) g sh_1 fl_X2_62 rfl dX2_drown_9 ?_
  refine x_icmp_ge (pc := 12) (tgt := 65) g (by decide) dX2_drown_12 ?_ ?_
  · exact x_return (pc := 65) g hrt dX2_drown_65
  · refine x_aload_n (pc := 15) g rfl 0 rfl dX2_drown_15 ?_
    refine x_iload (pc := 16) g 4 rfl dX2_drown_16 ?_
    refine x_callVI (pc := 18) (As := [.int x1]) g sh_3 (mc_X2_firstPlace x1) cw_X2_firstPlace lk_X2_78 rfl ⟨Nat.le_of_ble_eq_true rfl, Nat.le_of_ble_eq_true rfl⟩ rfl (Nat.le_of_ble_eq_true rfl) dX2_drown_18 (fun v1 σ2 => ?_)
    refine x_iload_n (pc := 21) g rfl 1 rfl dX2_drown_21 ?_
    refine x_jn (fun (j59 : Sx → Option (Unit × Sx)) => ∀ (σ3 : Sx), XTx p l e { frames := 2, cells := 0, slots := 0, locals := 42 } s m args below meth c D al cA ba 5 (MQx rvU D al cA ba below args s) 0 0 59 [(0, .ref (al 3)), (1, .int a0), (2, .int a1), (3, .int a2), (4, .int x1)] [] σ3 (j59 σ3)) (fun σ3 => ?_) (fun j59 hj59 => ?_)
    · refine x_iinc (pc := 59) (v := (x1 + (1 : Int32))) (lv' := [(4, .int (x1 + (1 : Int32))), (0, .ref (al 3)), (1, .int a0), (2, .int a1), (3, .int a2)]) g 4 rfl (by rfl) (by decide) rfl dX2_drown_59 ?_
      refine x_goto (pc := 62) (tgt := 3) g (by decide) dX2_drown_62 ?_
      refine x_lv [1, 2, 3, 4, 0] rfl ?_
      exact hr3 (x1 + (1 : Int32)) σ3
    · refine x_icmp_ne (pc := 22) (tgt := 59) g (by decide) dX2_drown_22 ?_ ?_
      · exact hj59 σ2
      · refine x_aload_n (pc := 25) g rfl 0 rfl dX2_drown_25 ?_
        refine x_getR (pc := 26) g sh_3 fl_X2_37 rfl dX2_drown_26 ?_
        refine x_iload (pc := 29) g 4 rfl dX2_drown_29 ?_
        refine x_callVI (pc := 31) (As := [.int x1]) g sh_1 (mc_X8_start x1) cw_X8_start lk_X2_82 rfl ⟨Nat.le_of_ble_eq_true rfl, Nat.le_of_ble_eq_true rfl⟩ rfl (Nat.le_of_ble_eq_true rfl) dX2_drown_31 (fun v2 σ4 => ?_)
        refine x_iload_n (pc := 34) g rfl 2 rfl dX2_drown_34 ?_
        refine x_icmp_lt (pc := 35) (tgt := 59) g (by decide) dX2_drown_35 ?_ ?_
        · exact hj59 σ4
        · refine x_aload_n (pc := 38) g rfl 0 rfl dX2_drown_38 ?_
          refine x_getR (pc := 39) g sh_3 fl_X2_37 rfl dX2_drown_39 ?_
          refine x_iload (pc := 42) g 4 rfl dX2_drown_42 ?_
          refine x_callVI (pc := 44) (As := [.int x1]) g sh_1 (mc_X8_start x1) cw_X8_start lk_X2_82 rfl ⟨Nat.le_of_ble_eq_true rfl, Nat.le_of_ble_eq_true rfl⟩ rfl (Nat.le_of_ble_eq_true rfl) dX2_drown_44 (fun v3 σ5 => ?_)
          refine x_iload_n (pc := 47) g rfl 3 rfl dX2_drown_47 ?_
          refine x_icmp_gt (pc := 48) (tgt := 59) g (by decide) dX2_drown_48 ?_ ?_
          · exact hj59 σ5
          · refine x_aload_n (pc := 51) g rfl 0 rfl dX2_drown_51 ?_
            refine x_getR (pc := 52) g sh_3 fl_X2_22 rfl dX2_drown_52 ?_
            refine x_iload (pc := 55) g 4 rfl dX2_drown_55 ?_
            refine x_iconst (pc := 57) (v := (0 : Int32)) g (by decide) dX2_drown_57 ?_
            refine x_iast (pc := 58) g sh_85 (by decide) dX2_drown_58 (fun σ6 => ?_)
            exact hj59 σ6
def F_X2_lawNamesLead (N : Nat) (σ0 : Sx) : Option (Int32 × Sx) := clx (F_X4_namesLead N  σ0) (fun v1 σ1 => rZx v1 σ1)
set_option maxRecDepth 100000 in
set_option maxHeartbeats 4000000 in
theorem mc_X2_lawNamesLead {D : va_G} {al : Nat → Nat} {cA : Nat → ClassId} {ba : Nat} (N : Nat)  : MCx D al cA ba yX2_lawNamesLead cX2_lawNamesLead 1 (some .boolean) 1 21 rvI [.ref (al 3)] (F_X2_lawNamesLead N) := by
  refine MCx_of (by decide +kernel) (Nat.le_of_ble_eq_true rfl) ?_
  intro p l e s m args below meth c σ0 g hrt
  unfold F_X2_lawNamesLead
  refine x_lv (lv' := [(0, .ref (al 3))]) [0] rfl ?_
  refine x_aload_n (pc := 0) g rfl 0 rfl dX2_lawNamesLead_0 ?_
  refine x_getR (pc := 1) g sh_3 fl_X2_41 rfl dX2_lawNamesLead_1 ?_
  refine x_callVI (pc := 4) (As := []) g sh_2 (mc_X4_namesLead N ) cw_X4_namesLead lk_X2_143 rfl ⟨Nat.le_of_ble_eq_true rfl, Nat.le_of_ble_eq_true rfl⟩ rfl (Nat.le_of_ble_eq_true rfl) dX2_lawNamesLead_4 (fun v1 σ1 => ?_)
  exact x_rZ (pc := 7) g hrt dX2_lawNamesLead_7
