def B_X7_bestLead_L29 (N : Nat) (a0 : Int32) (v1 : Int32) (j131 : Int32 → Int32 → Sx → Option (Int32 × Sx)) (r29 : Int32 → Int32 → Int32 → Sx → Option (Int32 × Sx)) (x3 : Int32) (x4 : Int32) (x5 : Int32) (σ6 : Sx) : Option (Int32 × Sx) := (if (60 : Int32) < x5 then j131 x3 x4 σ6 else clx (F_X8_tryLead a0 x5 σ6) (fun _ σ7 => clx (F_X2_observe N  σ7) (fun v3 σ8 => nmx (fun (σ9 : Sx) => nmx (fun (σ10 : Sx) => nmx (fun (x6 : Int32) (x7 : Int32) (σ11 : Sx) => r29 x6 x7 (x5 + (1 : Int32)) σ11) (fun (j125 : Int32 → Int32 → Sx → Option (Int32 × Sx)) => (if (siI σ10 3 10) ≤ 0 then j125 x3 x4 σ10 else nmx (fun (σ12 : Sx) => nmx ((siI σ12 3 10)) (fun v4 => j125 x5 v4 σ12)) (fun (j112 : Sx → Option (Int32 × Sx)) => (if x4 = (-2 : Int32) then j112 σ10 else (if x4 ≤ (siI σ10 3 10) then j125 x3 x4 σ10 else j112 σ10)))))) (fun (j83 : Sx → Option (Int32 × Sx)) => nmx (fun (σ13 : Sx) => clx (F_X2_gather N  σ13) (fun _ σ14 => j83 σ14)) (fun (j76 : Sx → Option (Int32 × Sx)) => (if v3 = 0 then (if v1 = 0 then j83 σ9 else j76 σ9) else j76 σ9)))) (fun (j67 : Sx → Option (Int32 × Sx)) => (if v1 = 0 then j67 σ8 else clx (F_X2_forgetOne N a0 σ8) (fun _ σ15 => j67 σ15))))))
def F_X7_bestLead (N : Nat) (a0 : Int32) (a1 : Int32) (σ0 : Sx) : Option (Int32 × Sx) := clx (F_X2_lawNamesLead N  σ0) (fun v1 σ1 => clx (F_X8_lead a0 σ1) (fun v2 σ2 => nmx (fun (x1 : Int32) (x2 : Int32) (σ3 : Sx) => clx (F_X8_tryLead a0 v2 σ3) (fun _ σ4 => clx (F_X2_spoil  σ4) (fun _ σ5 => (if a1 = 0 then some (x1, σ5) else some (x2, σ5))))) (fun (j131 : Int32 → Int32 → Sx → Option (Int32 × Sx)) => lpx3 (B_X7_bestLead_L29 N a0 v1 j131) N (-2 : Int32) (-2 : Int32) (0 : Int32) σ2)))
set_option maxRecDepth 100000 in
set_option maxHeartbeats 4000000 in
theorem mc_X7_bestLead {D : va_G} {al : Nat → Nat} {cA : Nat → ClassId} {ba : Nat} (N : Nat) (a0 : Int32) (a1 : Int32) : MCx D al cA ba yX7_bestLead cX7_bestLead 9 (some .int) 5 126 rvI [.ref (al 5), .int a0, .int a1] (F_X7_bestLead N a0 a1) := by
  refine MCx_of (by decide +kernel) (Nat.le_of_ble_eq_true rfl) ?_
  intro p l e s m args below meth c σ0 g hrt
  unfold F_X7_bestLead
  refine x_lv (lv' := [(0, .ref (al 5)), (1, .int a0), (2, .int a1)]) [0, 1, 2] rfl ?_
  refine x_aload_n (pc := 0) g rfl 0 rfl dX7_bestLead_0 ?_
  refine x_getR (pc := 1) g sh_5 fl_X7_19 rfl dX7_bestLead_1 ?_
  refine x_callVI (pc := 4) (As := []) g sh_3 (mc_X2_lawNamesLead N ) cw_X2_lawNamesLead lk_X7_23 rfl ⟨Nat.le_of_ble_eq_true rfl, Nat.le_of_ble_eq_true rfl⟩ rfl (Nat.le_of_ble_eq_true rfl) dX7_bestLead_4 (fun v1 σ1 => ?_)
  refine x_istore_n (pc := 7) (lv' := [(3, .int v1), (0, .ref (al 5)), (1, .int a0), (2, .int a1)]) g rfl (by decide) rfl dX7_bestLead_7 ?_
  refine x_aload_n (pc := 8) g rfl 1 rfl dX7_bestLead_8 ?_
  refine x_getR (pc := 9) g sh_5 fl_X7_15 rfl dX7_bestLead_9 ?_
  refine x_iload_n (pc := 12) g rfl 2 rfl dX7_bestLead_12 ?_
  refine x_callVI (pc := 13) (As := [.int a0]) g sh_1 (mc_X8_lead a0) cw_X8_lead lk_X7_29 rfl ⟨Nat.le_of_ble_eq_true rfl, Nat.le_of_ble_eq_true rfl⟩ rfl (Nat.le_of_ble_eq_true rfl) dX7_bestLead_13 (fun v2 σ2 => ?_)
  refine x_istore (pc := 16) (lv' := [(4, .int v2), (3, .int v1), (0, .ref (al 5)), (1, .int a0), (2, .int a1)]) g (by decide) rfl dX7_bestLead_16 ?_
  refine x_bipush (pc := 18) (v := (-2 : Int32)) g (by decide) dX7_bestLead_18 ?_
  refine x_istore (pc := 20) (lv' := [(5, .int (-2 : Int32)), (4, .int v2), (3, .int v1), (0, .ref (al 5)), (1, .int a0), (2, .int a1)]) g (by decide) rfl dX7_bestLead_20 ?_
  refine x_bipush (pc := 22) (v := (-2 : Int32)) g (by decide) dX7_bestLead_22 ?_
  refine x_istore (pc := 24) (lv' := [(6, .int (-2 : Int32)), (5, .int (-2 : Int32)), (4, .int v2), (3, .int v1), (0, .ref (al 5)), (1, .int a0), (2, .int a1)]) g (by decide) rfl dX7_bestLead_24 ?_
  refine x_iconst (pc := 26) (v := (0 : Int32)) g (by decide) dX7_bestLead_26 ?_
  refine x_istore (pc := 27) (lv' := [(7, .int (0 : Int32)), (6, .int (-2 : Int32)), (5, .int (-2 : Int32)), (4, .int v2), (3, .int v1), (0, .ref (al 5)), (1, .int a0), (2, .int a1)]) g (by decide) rfl dX7_bestLead_27 ?_
  refine x_jn (fun (j131 : Int32 → Int32 → Sx → Option (Int32 × Sx)) => ∀ (x1 : Int32) (x2 : Int32) (σ3 : Sx), XTx p l e { frames := 5, cells := 0, slots := 0, locals := 126 } s m args below meth c D al cA ba 9 (MQx rvI D al cA ba below args s) 0 0 131 [(0, .ref (al 5)), (1, .int a0), (2, .int a1), (4, .int v2), (5, .int x1), (6, .int x2)] [] σ3 (j131 x1 x2 σ3)) (fun x1 x2 σ3 => ?_) (fun j131 hj131 => ?_)
  · refine x_aload_n (pc := 131) g rfl 0 rfl dX7_bestLead_131 ?_
    refine x_getR (pc := 132) g sh_5 fl_X7_15 rfl dX7_bestLead_132 ?_
    refine x_iload_n (pc := 135) g rfl 1 rfl dX7_bestLead_135 ?_
    refine x_iload (pc := 136) g 3 rfl dX7_bestLead_136 ?_
    refine x_callVU (pc := 138) (As := [.int a0, .int v2]) g sh_1 (mc_X8_tryLead a0 v2) cw_X8_tryLead lk_X7_35 rfl ⟨Nat.le_of_ble_eq_true rfl, Nat.le_of_ble_eq_true rfl⟩ rfl (Nat.le_of_ble_eq_true rfl) dX7_bestLead_138 (fun _ σ4 => ?_)
    refine x_aload_n (pc := 141) g rfl 0 rfl dX7_bestLead_141 ?_
    refine x_getR (pc := 142) g sh_5 fl_X7_19 rfl dX7_bestLead_142 ?_
    refine x_callVU (pc := 145) (As := []) g sh_3 (mc_X2_spoil ) cw_X2_spoil lk_X7_53 rfl ⟨Nat.le_of_ble_eq_true rfl, Nat.le_of_ble_eq_true rfl⟩ rfl (Nat.le_of_ble_eq_true rfl) dX7_bestLead_145 (fun _ σ5 => ?_)
    refine x_iload_n (pc := 148) g rfl 2 rfl dX7_bestLead_148 ?_
    refine x_if_ne (pc := 149) (tgt := 157) g (by decide) dX7_bestLead_149 ?_ ?_
    · refine x_iload (pc := 157) g 5 rfl dX7_bestLead_157 ?_
      exact x_ireturn (pc := 159) g hrt dX7_bestLead_159
    · refine x_iload (pc := 152) g 4 rfl dX7_bestLead_152 ?_
      refine x_goto (pc := 154) (tgt := 159) g (by decide) dX7_bestLead_154 ?_
      exact x_ireturn (pc := 159) g hrt dX7_bestLead_159
  · refine x_lv [5, 6, 7, 4, 3, 2, 1, 0] rfl ?_
    refine lpx3_ind (fun (x3 : Int32) (x4 : Int32) (x5 : Int32) (σ6 : Sx) (K : Option (Int32 × Sx)) => XTx p l e { frames := 5, cells := 0, slots := 0, locals := 126 } s m args below meth c D al cA ba 9 (MQx rvI D al cA ba below args s) 0 0 29 [(0, .ref (al 5)), (1, .int a0), (2, .int a1), (3, .int v1), (4, .int v2), (5, .int x3), (6, .int x4), (7, .int x5)] [] σ6 (K)) (fun _ _ _ _ => x_no) (fun r29 hr29 x3 x4 x5 σ6 => ?_) N (-2 : Int32) (-2 : Int32) (0 : Int32) σ2
    show XTx p l e { frames := 5, cells := 0, slots := 0, locals := 126 } s m args below meth c D al cA ba 9 (MQx rvI D al cA ba below args s) 0 0 29 [(0, .ref (al 5)), (1, .int a0), (2, .int a1), (3, .int v1), (4, .int v2), (5, .int x3), (6, .int x4), (7, .int x5)] [] σ6 (B_X7_bestLead_L29 N a0 v1 j131 r29 x3 x4 x5 σ6)
    unfold B_X7_bestLead_L29
    refine x_iload (pc := 29) g 7 rfl dX7_bestLead_29 ?_
    refine x_bipush (pc := 31) (v := (60 : Int32)) g (by decide) dX7_bestLead_31 ?_
    refine x_icmp_gt (pc := 33) (tgt := 131) g (by decide) dX7_bestLead_33 ?_ ?_
    · refine x_lv [0, 1, 2, 4, 5, 6] rfl ?_
      exact hj131 x3 x4 σ6
    · refine x_aload_n (pc := 36) g rfl 0 rfl dX7_bestLead_36 ?_
      refine x_getR (pc := 37) g sh_5 fl_X7_15 rfl dX7_bestLead_37 ?_
      refine x_iload_n (pc := 40) g rfl 1 rfl dX7_bestLead_40 ?_
      refine x_iload (pc := 41) g 7 rfl dX7_bestLead_41 ?_
      refine x_callVU (pc := 43) (As := [.int a0, .int x5]) g sh_1 (mc_X8_tryLead a0 x5) cw_X8_tryLead lk_X7_35 rfl ⟨Nat.le_of_ble_eq_true rfl, Nat.le_of_ble_eq_true rfl⟩ rfl (Nat.le_of_ble_eq_true rfl) dX7_bestLead_43 (fun _ σ7 => ?_)
      refine x_aload_n (pc := 46) g rfl 0 rfl dX7_bestLead_46 ?_
      refine x_getR (pc := 47) g sh_5 fl_X7_19 rfl dX7_bestLead_47 ?_
      refine x_callVI (pc := 50) (As := []) g sh_3 (mc_X2_observe N ) cw_X2_observe lk_X7_39 rfl ⟨Nat.le_of_ble_eq_true rfl, Nat.le_of_ble_eq_true rfl⟩ rfl (Nat.le_of_ble_eq_true rfl) dX7_bestLead_50 (fun v3 σ8 => ?_)
      refine x_istore (pc := 53) (lv' := [(8, .int v3), (0, .ref (al 5)), (1, .int a0), (2, .int a1), (3, .int v1), (4, .int v2), (5, .int x3), (6, .int x4), (7, .int x5)]) g (by decide) rfl dX7_bestLead_53 ?_
      refine x_iload_n (pc := 55) g rfl 4 rfl dX7_bestLead_55 ?_
      refine x_jn (fun (j67 : Sx → Option (Int32 × Sx)) => ∀ (σ9 : Sx), XTx p l e { frames := 5, cells := 0, slots := 0, locals := 126 } s m args below meth c D al cA ba 9 (MQx rvI D al cA ba below args s) 0 0 67 [(0, .ref (al 5)), (1, .int a0), (2, .int a1), (3, .int v1), (4, .int v2), (5, .int x3), (6, .int x4), (7, .int x5), (8, .int v3)] [] σ9 (j67 σ9)) (fun σ9 => ?_) (fun j67 hj67 => ?_)
      · refine x_iload (pc := 67) g 8 rfl dX7_bestLead_67 ?_
        refine x_jn (fun (j83 : Sx → Option (Int32 × Sx)) => ∀ (σ10 : Sx), XTx p l e { frames := 5, cells := 0, slots := 0, locals := 126 } s m args below meth c D al cA ba 9 (MQx rvI D al cA ba below args s) 0 0 83 [(0, .ref (al 5)), (1, .int a0), (2, .int a1), (3, .int v1), (4, .int v2), (5, .int x3), (6, .int x4), (7, .int x5)] [] σ10 (j83 σ10)) (fun σ10 => ?_) (fun j83 hj83 => ?_)
        · refine x_aload_n (pc := 83) g rfl 0 rfl dX7_bestLead_83 ?_
          refine x_getR (pc := 84) g sh_5 fl_X7_19 rfl dX7_bestLead_84 ?_
          refine x_getI (pc := 87) g sh_3 fl_X7_49 rfl dX7_bestLead_87 ?_
          refine x_jn (fun (j125 : Int32 → Int32 → Sx → Option (Int32 × Sx)) => ∀ (x6 : Int32) (x7 : Int32) (σ11 : Sx), XTx p l e { frames := 5, cells := 0, slots := 0, locals := 126 } s m args below meth c D al cA ba 9 (MQx rvI D al cA ba below args s) 0 0 125 [(0, .ref (al 5)), (1, .int a0), (2, .int a1), (3, .int v1), (4, .int v2), (5, .int x6), (6, .int x7), (7, .int x5)] [] σ11 (j125 x6 x7 σ11)) (fun x6 x7 σ11 => ?_) (fun j125 hj125 => ?_)
          · refine x_iinc (pc := 125) (v := (x5 + (1 : Int32))) (lv' := [(7, .int (x5 + (1 : Int32))), (0, .ref (al 5)), (1, .int a0), (2, .int a1), (3, .int v1), (4, .int v2), (5, .int x6), (6, .int x7)]) g 7 rfl (by rfl) (by decide) rfl dX7_bestLead_125 ?_
            refine x_goto (pc := 128) (tgt := 29) g (by decide) dX7_bestLead_128 ?_
            refine x_lv [1, 2, 3, 4, 5, 6, 7, 0] rfl ?_
            exact hr29 x6 x7 (x5 + (1 : Int32)) σ11
          · refine x_if_le (pc := 90) (tgt := 125) g (by decide) dX7_bestLead_90 ?_ ?_
            · exact hj125 x3 x4 σ10
            · refine x_iload (pc := 93) g 6 rfl dX7_bestLead_93 ?_
              refine x_bipush (pc := 95) (v := (-2 : Int32)) g (by decide) dX7_bestLead_95 ?_
              refine x_jn (fun (j112 : Sx → Option (Int32 × Sx)) => ∀ (σ12 : Sx), XTx p l e { frames := 5, cells := 0, slots := 0, locals := 126 } s m args below meth c D al cA ba 9 (MQx rvI D al cA ba below args s) 0 0 112 [(0, .ref (al 5)), (1, .int a0), (2, .int a1), (3, .int v1), (4, .int v2), (7, .int x5)] [] σ12 (j112 σ12)) (fun σ12 => ?_) (fun j112 hj112 => ?_)
              · refine x_aload_n (pc := 112) g rfl 0 rfl dX7_bestLead_112 ?_
                refine x_getR (pc := 113) g sh_5 fl_X7_19 rfl dX7_bestLead_113 ?_
                refine x_getI (pc := 116) g sh_3 fl_X7_49 rfl dX7_bestLead_116 ?_
                refine x_nm (fun v4 => ?_)
                refine x_istore (pc := 119) (lv' := [(6, .int v4), (0, .ref (al 5)), (1, .int a0), (2, .int a1), (3, .int v1), (4, .int v2), (7, .int x5)]) g (by decide) rfl dX7_bestLead_119 ?_
                refine x_iload (pc := 121) g 6 rfl dX7_bestLead_121 ?_
                refine x_istore (pc := 123) (lv' := [(5, .int x5), (6, .int v4), (0, .ref (al 5)), (1, .int a0), (2, .int a1), (3, .int v1), (4, .int v2), (7, .int x5)]) g (by decide) rfl dX7_bestLead_123 ?_
                refine x_lv [2, 3, 4, 5, 6, 0, 1, 7] rfl ?_
                exact hj125 x5 v4 σ12
              · refine x_icmp_eq (pc := 97) (tgt := 112) g (by decide) dX7_bestLead_97 ?_ ?_
                · refine x_lv [0, 1, 2, 3, 4, 7] rfl ?_
                  exact hj112 σ10
                · refine x_aload_n (pc := 100) g rfl 0 rfl dX7_bestLead_100 ?_
                  refine x_getR (pc := 101) g sh_5 fl_X7_19 rfl dX7_bestLead_101 ?_
                  refine x_getI (pc := 104) g sh_3 fl_X7_49 rfl dX7_bestLead_104 ?_
                  refine x_iload (pc := 107) g 6 rfl dX7_bestLead_107 ?_
                  refine x_icmp_ge (pc := 109) (tgt := 125) g (by decide) dX7_bestLead_109 ?_ ?_
                  · exact hj125 x3 x4 σ10
                  · refine x_lv [0, 1, 2, 3, 4, 7] rfl ?_
                    exact hj112 σ10
        · refine x_jn (fun (j76 : Sx → Option (Int32 × Sx)) => ∀ (σ13 : Sx), XTx p l e { frames := 5, cells := 0, slots := 0, locals := 126 } s m args below meth c D al cA ba 9 (MQx rvI D al cA ba below args s) 0 0 76 [(0, .ref (al 5)), (1, .int a0), (2, .int a1), (3, .int v1), (4, .int v2), (5, .int x3), (6, .int x4), (7, .int x5)] [] σ13 (j76 σ13)) (fun σ13 => ?_) (fun j76 hj76 => ?_)
          · refine x_aload_n (pc := 76) g rfl 0 rfl dX7_bestLead_76 ?_
            refine x_getR (pc := 77) g sh_5 fl_X7_19 rfl dX7_bestLead_77 ?_
            refine x_callVU (pc := 80) (As := []) g sh_3 (mc_X2_gather N ) cw_X2_gather lk_X7_46 rfl ⟨Nat.le_of_ble_eq_true rfl, Nat.le_of_ble_eq_true rfl⟩ rfl (Nat.le_of_ble_eq_true rfl) dX7_bestLead_80 (fun _ σ14 => ?_)
            exact hj83 σ14
          · refine x_if_ne (pc := 69) (tgt := 76) g (by decide) dX7_bestLead_69 ?_ ?_
            · refine x_lv [0, 1, 2, 3, 4, 5, 6, 7] rfl ?_
              exact hj76 σ9
            · refine x_iload_n (pc := 72) g rfl 3 rfl dX7_bestLead_72 ?_
              refine x_if_eq (pc := 73) (tgt := 83) g (by decide) dX7_bestLead_73 ?_ ?_
              · refine x_lv [0, 1, 2, 3, 4, 5, 6, 7] rfl ?_
                exact hj83 σ9
              · refine x_lv [0, 1, 2, 3, 4, 5, 6, 7] rfl ?_
                exact hj76 σ9
      · refine x_if_eq (pc := 56) (tgt := 67) g (by decide) dX7_bestLead_56 ?_ ?_
        · refine x_lv [1, 2, 3, 4, 5, 6, 7, 8, 0] rfl ?_
          exact hj67 σ8
        · refine x_aload_n (pc := 59) g rfl 1 rfl dX7_bestLead_59 ?_
          refine x_getR (pc := 60) g sh_5 fl_X7_19 rfl dX7_bestLead_60 ?_
          refine x_iload_n (pc := 63) g rfl 2 rfl dX7_bestLead_63 ?_
          refine x_callVU (pc := 64) (As := [.int a0]) g sh_3 (mc_X2_forgetOne N a0) cw_X2_forgetOne lk_X7_42 rfl ⟨Nat.le_of_ble_eq_true rfl, Nat.le_of_ble_eq_true rfl⟩ rfl (Nat.le_of_ble_eq_true rfl) dX7_bestLead_64 (fun _ σ15 => ?_)
          refine x_lv [1, 2, 3, 4, 5, 6, 7, 8, 0] rfl ?_
          exact hj67 σ15
def F_X7_countTried (N : Nat) (a0 : Int32) (σ0 : Sx) : Option (Int32 × Sx) := clx (F_X2_gather N  σ0) (fun _ σ1 => nmx (fun (y1 : Int32) (σ2 : Sx) => clx (F_X2_spoil  σ2) (fun _ σ3 => some (y1, σ3))) (fun (j29 : Int32 → Sx → Option (Int32 × Sx)) => (if a0 = 0 then j29 (siI σ1 3 10) σ1 else clx (F_X2_heldDay (0 : Int32) σ1) (fun v1 σ4 => j29 v1 σ4))))
set_option maxRecDepth 100000 in
set_option maxHeartbeats 4000000 in
theorem mc_X7_countTried {D : va_G} {al : Nat → Nat} {cA : Nat → ClassId} {ba : Nat} (N : Nat) (a0 : Int32) : MCx D al cA ba yX7_countTried cX7_countTried 3 (some .int) 5 126 rvI [.ref (al 5), .int a0] (F_X7_countTried N a0) := by
  refine MCx_of (by decide +kernel) (Nat.le_of_ble_eq_true rfl) ?_
  intro p l e s m args below meth c σ0 g hrt
  unfold F_X7_countTried
  refine x_lv (lv' := [(0, .ref (al 5)), (1, .int a0)]) [0, 1] rfl ?_
  refine x_aload_n (pc := 0) g rfl 0 rfl dX7_countTried_0 ?_
  refine x_getR (pc := 1) g sh_5 fl_X7_19 rfl dX7_countTried_1 ?_
  refine x_callVU (pc := 4) (As := []) g sh_3 (mc_X2_gather N ) cw_X2_gather lk_X7_46 rfl ⟨Nat.le_of_ble_eq_true rfl, Nat.le_of_ble_eq_true rfl⟩ rfl (Nat.le_of_ble_eq_true rfl) dX7_countTried_4 (fun _ σ1 => ?_)
  refine x_iload_n (pc := 7) g rfl 1 rfl dX7_countTried_7 ?_
  refine x_jn (fun (j29 : Int32 → Sx → Option (Int32 × Sx)) => ∀ (y1 : Int32) (σ2 : Sx), XTx p l e { frames := 5, cells := 0, slots := 0, locals := 126 } s m args below meth c D al cA ba 3 (MQx rvI D al cA ba below args s) 0 0 29 [(0, .ref (al 5))] [.int y1] σ2 (j29 y1 σ2)) (fun y1 σ2 => ?_) (fun j29 hj29 => ?_)
  · refine x_istore_n (pc := 29) (lv' := [(2, .int y1), (0, .ref (al 5))]) g rfl (by decide) rfl dX7_countTried_29 ?_
    refine x_aload_n (pc := 30) g rfl 1 rfl dX7_countTried_30 ?_
    refine x_getR (pc := 31) g sh_5 fl_X7_19 rfl dX7_countTried_31 ?_
    refine x_callVU (pc := 34) (As := []) g sh_3 (mc_X2_spoil ) cw_X2_spoil lk_X7_53 rfl ⟨Nat.le_of_ble_eq_true rfl, Nat.le_of_ble_eq_true rfl⟩ rfl (Nat.le_of_ble_eq_true rfl) dX7_countTried_34 (fun _ σ3 => ?_)
    refine x_iload_n (pc := 37) g rfl 0 rfl dX7_countTried_37 ?_
    exact x_ireturn (pc := 38) g hrt dX7_countTried_38
  · refine x_if_ne (pc := 8) (tgt := 21) g (by decide) dX7_countTried_8 ?_ ?_
    · refine x_aload_n (pc := 21) g rfl 0 rfl dX7_countTried_21 ?_
      refine x_getR (pc := 22) g sh_5 fl_X7_19 rfl dX7_countTried_22 ?_
      refine x_iconst (pc := 25) (v := (0 : Int32)) g (by decide) dX7_countTried_25 ?_
      refine x_callVI (pc := 26) (As := [.int (0 : Int32)]) g sh_3 (mc_X2_heldDay (0 : Int32)) cw_X2_heldDay lk_X7_66 rfl ⟨Nat.le_of_ble_eq_true rfl, Nat.le_of_ble_eq_true rfl⟩ rfl (Nat.le_of_ble_eq_true rfl) dX7_countTried_26 (fun v1 σ4 => ?_)
      refine x_lv [0] rfl ?_
      exact hj29 v1 σ4
    · refine x_aload_n (pc := 11) g rfl 0 rfl dX7_countTried_11 ?_
      refine x_getR (pc := 12) g sh_5 fl_X7_19 rfl dX7_countTried_12 ?_
      refine x_getI (pc := 15) g sh_3 fl_X7_49 rfl dX7_countTried_15 ?_
      refine x_goto (pc := 18) (tgt := 29) g (by decide) dX7_countTried_18 ?_
      refine x_lv [0] rfl ?_
      exact hj29 (siI σ1 3 10) σ1
def F_X7_withFalseTracks (N : Nat) (a0 : Int32) (a1 : Int32) (a2 : Int32) (σ0 : Sx) : Option (Int32 × Sx) := clx (F_X2_paint N a0 a1 σ0) (fun _ σ1 => clx (F_X7_countTried N a2 σ1) (fun v1 σ2 => some (v1, σ2)))
set_option maxRecDepth 100000 in
set_option maxHeartbeats 4000000 in
theorem mc_X7_withFalseTracks {D : va_G} {al : Nat → Nat} {cA : Nat → ClassId} {ba : Nat} (N : Nat) (a0 : Int32) (a1 : Int32) (a2 : Int32) : MCx D al cA ba yX7_withFalseTracks cX7_withFalseTracks 4 (some .int) 6 148 rvI [.ref (al 5), .int a0, .int a1, .int a2] (F_X7_withFalseTracks N a0 a1 a2) := by
  refine MCx_of (by decide +kernel) (Nat.le_of_ble_eq_true rfl) ?_
  intro p l e s m args below meth c σ0 g hrt
  unfold F_X7_withFalseTracks
  refine x_lv (lv' := [(0, .ref (al 5)), (1, .int a0), (2, .int a1), (3, .int a2)]) [0, 1, 2, 3] rfl ?_
  refine x_aload_n (pc := 0) g rfl 0 rfl dX7_withFalseTracks_0 ?_
  refine x_getR (pc := 1) g sh_5 fl_X7_19 rfl dX7_withFalseTracks_1 ?_
  refine x_iload_n (pc := 4) g rfl 1 rfl dX7_withFalseTracks_4 ?_
  refine x_iload_n (pc := 5) g rfl 2 rfl dX7_withFalseTracks_5 ?_
  refine x_callVU (pc := 6) (As := [.int a0, .int a1]) g sh_3 (mc_X2_paint N a0 a1) cw_X2_paint lk_X7_56 rfl ⟨Nat.le_of_ble_eq_true rfl, Nat.le_of_ble_eq_true rfl⟩ rfl (Nat.le_of_ble_eq_true rfl) dX7_withFalseTracks_6 (fun _ σ1 => ?_)
  refine x_aload_n (pc := 9) g rfl 0 rfl dX7_withFalseTracks_9 ?_
  refine x_iload_n (pc := 10) g rfl 3 rfl dX7_withFalseTracks_10 ?_
  refine x_callVI (pc := 11) (As := [.int a2]) g sh_5 (mc_X7_countTried N a2) cw_X7_countTried lk_X7_59 rfl ⟨Nat.le_of_ble_eq_true rfl, Nat.le_of_ble_eq_true rfl⟩ rfl (Nat.le_of_ble_eq_true rfl) dX7_withFalseTracks_11 (fun v1 σ2 => ?_)
  exact x_ireturn (pc := 14) g hrt dX7_withFalseTracks_14
def F_X7_withFlood (N : Nat) (a0 : Int32) (a1 : Int32) (a2 : Int32) (a3 : Int32) (σ0 : Sx) : Option (Int32 × Sx) := clx (F_X2_drown N a0 a1 a2 σ0) (fun _ σ1 => clx (F_X7_countTried N a3 σ1) (fun v1 σ2 => some (v1, σ2)))
set_option maxRecDepth 100000 in
set_option maxHeartbeats 4000000 in
theorem mc_X7_withFlood {D : va_G} {al : Nat → Nat} {cA : Nat → ClassId} {ba : Nat} (N : Nat) (a0 : Int32) (a1 : Int32) (a2 : Int32) (a3 : Int32) : MCx D al cA ba yX7_withFlood cX7_withFlood 5 (some .int) 6 148 rvI [.ref (al 5), .int a0, .int a1, .int a2, .int a3] (F_X7_withFlood N a0 a1 a2 a3) := by
  refine MCx_of (by decide +kernel) (Nat.le_of_ble_eq_true rfl) ?_
  intro p l e s m args below meth c σ0 g hrt
  unfold F_X7_withFlood
  refine x_lv (lv' := [(0, .ref (al 5)), (1, .int a0), (2, .int a1), (3, .int a2), (4, .int a3)]) [0, 1, 2, 3, 4] rfl ?_
  refine x_aload_n (pc := 0) g rfl 0 rfl dX7_withFlood_0 ?_
  refine x_getR (pc := 1) g sh_5 fl_X7_19 rfl dX7_withFlood_1 ?_
  refine x_iload_n (pc := 4) g rfl 1 rfl dX7_withFlood_4 ?_
  refine x_iload_n (pc := 5) g rfl 2 rfl dX7_withFlood_5 ?_
  refine x_iload_n (pc := 6) g rfl 3 rfl dX7_withFlood_6 ?_
  refine x_callVU (pc := 7) (As := [.int a0, .int a1, .int a2]) g sh_3 (mc_X2_drown N a0 a1 a2) cw_X2_drown lk_X7_62 rfl ⟨Nat.le_of_ble_eq_true rfl, Nat.le_of_ble_eq_true rfl⟩ rfl (Nat.le_of_ble_eq_true rfl) dX7_withFlood_7 (fun _ σ1 => ?_)
  refine x_aload_n (pc := 10) g rfl 0 rfl dX7_withFlood_10 ?_
  refine x_iload (pc := 11) g 4 rfl dX7_withFlood_11 ?_
  refine x_callVI (pc := 13) (As := [.int a3]) g sh_5 (mc_X7_countTried N a3) cw_X7_countTried lk_X7_59 rfl ⟨Nat.le_of_ble_eq_true rfl, Nat.le_of_ble_eq_true rfl⟩ rfl (Nat.le_of_ble_eq_true rfl) dX7_withFlood_13 (fun v1 σ2 => ?_)
  exact x_ireturn (pc := 16) g hrt dX7_withFlood_16
def B_X7_keepLeads_L2 (N : Nat) (r2 : Int32 → Sx → Option (Unit × Sx)) (x1 : Int32) (σ1 : Sx) : Option (Unit × Sx) := (if (siI σ1 1 0) ≤ x1 then some ((), σ1) else clx (F_X8_lead x1 σ1) (fun v1 σ2 => sIx 93 5 x1 v1 σ2 (fun σ3 => r2 (x1 + (1 : Int32)) σ3)))
def F_X7_keepLeads (N : Nat) (σ0 : Sx) : Option (Unit × Sx) := lpx1 (B_X7_keepLeads_L2 N) N (0 : Int32) σ0
set_option maxRecDepth 100000 in
set_option maxHeartbeats 4000000 in
theorem mc_X7_keepLeads {D : va_G} {al : Nat → Nat} {cA : Nat → ClassId} {ba : Nat} (N : Nat)  : MCx D al cA ba yX7_keepLeads cX7_keepLeads 2 none 1 21 rvU [.ref (al 5)] (F_X7_keepLeads N) := by
  refine MCx_of (by decide +kernel) (Nat.le_of_ble_eq_true rfl) ?_
  intro p l e s m args below meth c σ0 g hrt
  unfold F_X7_keepLeads
  refine x_lv (lv' := [(0, .ref (al 5))]) [0] rfl ?_
  refine x_iconst (pc := 0) (v := (0 : Int32)) g (by decide) dX7_keepLeads_0 ?_
  refine x_istore_n (pc := 1) (lv' := [(1, .int (0 : Int32)), (0, .ref (al 5))]) g rfl (by decide) rfl dX7_keepLeads_1 ?_
  refine x_lv [1, 0] rfl ?_
  refine lpx1_ind (fun (x1 : Int32) (σ1 : Sx) (K : Option (Unit × Sx)) => XTx p l e { frames := 1, cells := 0, slots := 0, locals := 21 } s m args below meth c D al cA ba 2 (MQx rvU D al cA ba below args s) 0 0 2 [(0, .ref (al 5)), (1, .int x1)] [] σ1 (K)) (fun _ _ => x_no) (fun r2 hr2 x1 σ1 => ?_) N (0 : Int32) σ0
  show XTx p l e { frames := 1, cells := 0, slots := 0, locals := 21 } s m args below meth c D al cA ba 2 (MQx rvU D al cA ba below args s) 0 0 2 [(0, .ref (al 5)), (1, .int x1)] [] σ1 (B_X7_keepLeads_L2 N r2 x1 σ1)
  unfold B_X7_keepLeads_L2
  refine x_iload_n (pc := 2) g rfl 1 rfl dX7_keepLeads_2 ?_
  refine x_aload_n (pc := 3) g rfl 0 rfl dX7_keepLeads_3 ?_
  refine x_getR (pc := 4) g sh_5 fl_X7_15 rfl dX7_keepLeads_4 ?_
  refine x_getI (pc := 7) g sh_1 fl_X7_81 rfl dX7_keepLeads_7 ?_
  refine x_icmp_ge (pc := 10) (tgt := 33) g (by decide) dX7_keepLeads_10 ?_ ?_
  · exact x_return (pc := 33) g hrt dX7_keepLeads_33
  · refine x_aload_n (pc := 13) g rfl 0 rfl dX7_keepLeads_13 ?_
    refine x_getR (pc := 14) g sh_5 fl_X7_9 rfl dX7_keepLeads_14 ?_
    refine x_iload_n (pc := 17) g rfl 1 rfl dX7_keepLeads_17 ?_
    refine x_aload_n (pc := 18) g rfl 0 rfl dX7_keepLeads_18 ?_
    refine x_getR (pc := 19) g sh_5 fl_X7_15 rfl dX7_keepLeads_19 ?_
    refine x_iload_n (pc := 22) g rfl 1 rfl dX7_keepLeads_22 ?_
    refine x_callVI (pc := 23) (As := [.int x1]) g sh_1 (mc_X8_lead x1) cw_X8_lead lk_X7_29 rfl ⟨Nat.le_of_ble_eq_true rfl, Nat.le_of_ble_eq_true rfl⟩ rfl (Nat.le_of_ble_eq_true rfl) dX7_keepLeads_23 (fun v1 σ2 => ?_)
    refine x_iast (pc := 26) g sh_93 (by decide) dX7_keepLeads_26 (fun σ3 => ?_)
    refine x_iinc (pc := 27) (v := (x1 + (1 : Int32))) (lv' := [(1, .int (x1 + (1 : Int32))), (0, .ref (al 5))]) g 1 rfl (by rfl) (by decide) rfl dX7_keepLeads_27 ?_
    refine x_goto (pc := 30) (tgt := 2) g (by decide) dX7_keepLeads_30 ?_
    refine x_lv [1, 0] rfl ?_
    exact hr2 (x1 + (1 : Int32)) σ3
def B_X7_drawLeads_L4 (N : Nat) (r4 : Int32 → Int32 → Sx → Option (Int32 × Sx)) (x1 : Int32) (x2 : Int32) (σ1 : Sx) : Option (Int32 × Sx) := (if (siI σ1 1 0) ≤ x2 then some (x1, σ1) else nmx (((x1 * (1103515245 : Int32)) + (12345 : Int32))) (fun v1 => clx (F_X8_tryLead x2 (jrem (jushr v1 (8 : Int32)) (61 : Int32)) σ1) (fun _ σ2 => r4 v1 (x2 + (1 : Int32)) σ2)))
def F_X7_drawLeads (N : Nat) (a0 : Int32) (σ0 : Sx) : Option (Int32 × Sx) := lpx2 (B_X7_drawLeads_L4 N) N a0 (0 : Int32) σ0
set_option maxRecDepth 100000 in
set_option maxHeartbeats 4000000 in
theorem mc_X7_drawLeads {D : va_G} {al : Nat → Nat} {cA : Nat → ClassId} {ba : Nat} (N : Nat) (a0 : Int32) : MCx D al cA ba yX7_drawLeads cX7_drawLeads 4 (some .int) 1 22 rvI [.ref (al 5), .int a0] (F_X7_drawLeads N a0) := by
  refine MCx_of (by decide +kernel) (Nat.le_of_ble_eq_true rfl) ?_
  intro p l e s m args below meth c σ0 g hrt
  unfold F_X7_drawLeads
  refine x_lv (lv' := [(0, .ref (al 5)), (1, .int a0)]) [0, 1] rfl ?_
  refine x_iload_n (pc := 0) g rfl 1 rfl dX7_drawLeads_0 ?_
  refine x_istore_n (pc := 1) (lv' := [(2, .int a0), (0, .ref (al 5)), (1, .int a0)]) g rfl (by decide) rfl dX7_drawLeads_1 ?_
  refine x_iconst (pc := 2) (v := (0 : Int32)) g (by decide) dX7_drawLeads_2 ?_
  refine x_istore_n (pc := 3) (lv' := [(3, .int (0 : Int32)), (2, .int a0), (0, .ref (al 5)), (1, .int a0)]) g rfl (by decide) rfl dX7_drawLeads_3 ?_
  refine x_lv [2, 1, 0] rfl ?_
  refine lpx2_ind (fun (x1 : Int32) (x2 : Int32) (σ1 : Sx) (K : Option (Int32 × Sx)) => XTx p l e { frames := 1, cells := 0, slots := 0, locals := 22 } s m args below meth c D al cA ba 4 (MQx rvI D al cA ba below args s) 0 0 4 [(0, .ref (al 5)), (2, .int x1), (3, .int x2)] [] σ1 (K)) (fun _ _ _ => x_no) (fun r4 hr4 x1 x2 σ1 => ?_) N a0 (0 : Int32) σ0
  show XTx p l e { frames := 1, cells := 0, slots := 0, locals := 22 } s m args below meth c D al cA ba 4 (MQx rvI D al cA ba below args s) 0 0 4 [(0, .ref (al 5)), (2, .int x1), (3, .int x2)] [] σ1 (B_X7_drawLeads_L4 N r4 x1 x2 σ1)
  unfold B_X7_drawLeads_L4
  refine x_iload_n (pc := 4) g rfl 2 rfl dX7_drawLeads_4 ?_
  refine x_aload_n (pc := 5) g rfl 0 rfl dX7_drawLeads_5 ?_
  refine x_getR (pc := 6) g sh_5 fl_X7_15 rfl dX7_drawLeads_6 ?_
  refine x_getI (pc := 9) g sh_1 fl_X7_81 rfl dX7_drawLeads_9 ?_
  refine x_icmp_ge (pc := 12) (tgt := 45) g (by decide) dX7_drawLeads_12 ?_ ?_
  · refine x_iload_n (pc := 45) g rfl 1 rfl dX7_drawLeads_45 ?_
    exact x_ireturn (pc := 46) g hrt dX7_drawLeads_46
  · refine x_iload_n (pc := 15) g rfl 1 rfl dX7_drawLeads_15 ?_
    refine x_ldc (pc := 16) (v := (1103515245 : Int32)) g ct_X7_84 dX7_drawLeads_16 ?_
    refine x_imul (pc := 18) g dX7_drawLeads_18 ?_
    refine x_sipush (pc := 19) (v := (12345 : Int32)) g (by decide) dX7_drawLeads_19 ?_
    refine x_iadd (pc := 22) g dX7_drawLeads_22 ?_
    refine x_nm (fun v1 => ?_)
    refine x_istore_n (pc := 23) (lv' := [(2, .int v1), (0, .ref (al 5)), (3, .int x2)]) g rfl (by decide) rfl dX7_drawLeads_23 ?_
    refine x_aload_n (pc := 24) g rfl 1 rfl dX7_drawLeads_24 ?_
    refine x_getR (pc := 25) g sh_5 fl_X7_15 rfl dX7_drawLeads_25 ?_
    refine x_iload_n (pc := 28) g rfl 2 rfl dX7_drawLeads_28 ?_
    refine x_iload_n (pc := 29) g rfl 0 rfl dX7_drawLeads_29 ?_
    refine x_bipush (pc := 30) (v := (8 : Int32)) g (by decide) dX7_drawLeads_30 ?_
    refine x_iushr (pc := 32) g dX7_drawLeads_32 ?_
    refine x_bipush (pc := 33) (v := (61 : Int32)) g (by decide) dX7_drawLeads_33 ?_
    refine x_irem (pc := 35) g (by decide) dX7_drawLeads_35 ?_
    refine x_callVU (pc := 36) (As := [.int x2, .int (jrem (jushr v1 (8 : Int32)) (61 : Int32))]) g sh_1 (mc_X8_tryLead x2 (jrem (jushr v1 (8 : Int32)) (61 : Int32))) cw_X8_tryLead lk_X7_35 rfl ⟨Nat.le_of_ble_eq_true rfl, Nat.le_of_ble_eq_true rfl⟩ rfl (Nat.le_of_ble_eq_true rfl) dX7_drawLeads_36 (fun _ σ2 => ?_)
    refine x_iinc (pc := 39) (v := (x2 + (1 : Int32))) (lv' := [(3, .int (x2 + (1 : Int32))), (2, .int v1), (0, .ref (al 5))]) g 2 rfl (by rfl) (by decide) rfl dX7_drawLeads_39 ?_
    refine x_goto (pc := 42) (tgt := 4) g (by decide) dX7_drawLeads_42 ?_
    refine x_lv [2, 1, 0] rfl ?_
    exact hr4 v1 (x2 + (1 : Int32)) σ2
def B_X7_giveLeadsBack_L2 (N : Nat) (r2 : Int32 → Sx → Option (Unit × Sx)) (x1 : Int32) (σ1 : Sx) : Option (Unit × Sx) := (if (siI σ1 1 0) ≤ x1 then some ((), σ1) else aIx 93 5 x1 σ1 (fun v1 => clx (F_X8_tryLead x1 v1 σ1) (fun _ σ2 => r2 (x1 + (1 : Int32)) σ2)))
def F_X7_giveLeadsBack (N : Nat) (σ0 : Sx) : Option (Unit × Sx) := lpx1 (B_X7_giveLeadsBack_L2 N) N (0 : Int32) σ0
set_option maxRecDepth 100000 in
set_option maxHeartbeats 4000000 in
theorem mc_X7_giveLeadsBack {D : va_G} {al : Nat → Nat} {cA : Nat → ClassId} {ba : Nat} (N : Nat)  : MCx D al cA ba yX7_giveLeadsBack cX7_giveLeadsBack 2 none 1 22 rvU [.ref (al 5)] (F_X7_giveLeadsBack N) := by
  refine MCx_of (by decide +kernel) (Nat.le_of_ble_eq_true rfl) ?_
  intro p l e s m args below meth c σ0 g hrt
  unfold F_X7_giveLeadsBack
  refine x_lv (lv' := [(0, .ref (al 5))]) [0] rfl ?_
  refine x_iconst (pc := 0) (v := (0 : Int32)) g (by decide) dX7_giveLeadsBack_0 ?_
  refine x_istore_n (pc := 1) (lv' := [(1, .int (0 : Int32)), (0, .ref (al 5))]) g rfl (by decide) rfl dX7_giveLeadsBack_1 ?_
  refine x_lv [1, 0] rfl ?_
  refine lpx1_ind (fun (x1 : Int32) (σ1 : Sx) (K : Option (Unit × Sx)) => XTx p l e { frames := 1, cells := 0, slots := 0, locals := 22 } s m args below meth c D al cA ba 2 (MQx rvU D al cA ba below args s) 0 0 2 [(0, .ref (al 5)), (1, .int x1)] [] σ1 (K)) (fun _ _ => x_no) (fun r2 hr2 x1 σ1 => ?_) N (0 : Int32) σ0
  show XTx p l e { frames := 1, cells := 0, slots := 0, locals := 22 } s m args below meth c D al cA ba 2 (MQx rvU D al cA ba below args s) 0 0 2 [(0, .ref (al 5)), (1, .int x1)] [] σ1 (B_X7_giveLeadsBack_L2 N r2 x1 σ1)
  unfold B_X7_giveLeadsBack_L2
  refine x_iload_n (pc := 2) g rfl 1 rfl dX7_giveLeadsBack_2 ?_
  refine x_aload_n (pc := 3) g rfl 0 rfl dX7_giveLeadsBack_3 ?_
  refine x_getR (pc := 4) g sh_5 fl_X7_15 rfl dX7_giveLeadsBack_4 ?_
  refine x_getI (pc := 7) g sh_1 fl_X7_81 rfl dX7_giveLeadsBack_7 ?_
  refine x_icmp_ge (pc := 10) (tgt := 33) g (by decide) dX7_giveLeadsBack_10 ?_ ?_
  · exact x_return (pc := 33) g hrt dX7_giveLeadsBack_33
  · refine x_aload_n (pc := 13) g rfl 0 rfl dX7_giveLeadsBack_13 ?_
    refine x_getR (pc := 14) g sh_5 fl_X7_15 rfl dX7_giveLeadsBack_14 ?_
    refine x_iload_n (pc := 17) g rfl 1 rfl dX7_giveLeadsBack_17 ?_
    refine x_aload_n (pc := 18) g rfl 0 rfl dX7_giveLeadsBack_18 ?_
    refine x_getR (pc := 19) g sh_5 fl_X7_9 rfl dX7_giveLeadsBack_19 ?_
    refine x_iload_n (pc := 22) g rfl 1 rfl dX7_giveLeadsBack_22 ?_
    refine x_iald (pc := 23) g sh_93 (by decide) dX7_giveLeadsBack_23 (fun v1 => ?_)
    refine x_callVU (pc := 24) (As := [.int x1, .int v1]) g sh_1 (mc_X8_tryLead x1 v1) cw_X8_tryLead lk_X7_35 rfl ⟨Nat.le_of_ble_eq_true rfl, Nat.le_of_ble_eq_true rfl⟩ rfl (Nat.le_of_ble_eq_true rfl) dX7_giveLeadsBack_24 (fun _ σ2 => ?_)
    refine x_iinc (pc := 27) (v := (x1 + (1 : Int32))) (lv' := [(1, .int (x1 + (1 : Int32))), (0, .ref (al 5))]) g 1 rfl (by rfl) (by decide) rfl dX7_giveLeadsBack_27 ?_
    refine x_goto (pc := 30) (tgt := 2) g (by decide) dX7_giveLeadsBack_30 ?_
    refine x_lv [1, 0] rfl ?_
    exact hr2 (x1 + (1 : Int32)) σ2
def B_X7_withDrawnLeads_L16 (N : Nat) (a1 : Int32) (j90 : Int32 → Int32 → Sx → Option (Int32 × Sx)) (r16 : Int32 → Int32 → Int32 → Int32 → Sx → Option (Int32 × Sx)) (x3 : Int32) (x4 : Int32) (x5 : Int32) (x6 : Int32) (σ5 : Sx) : Option (Int32 × Sx) := (if a1 ≤ x6 then j90 x4 x5 σ5 else clx (F_X7_drawLeads N x3 σ5) (fun v1 σ6 => clx (F_X2_observe N  σ6) (fun v2 σ7 => clx (F_X2_forget N  σ7) (fun _ σ8 => clx (F_X2_gather N  σ8) (fun _ σ9 => nmx ((x4 + (siI σ9 3 10))) (fun v3 => nmx (fun (y1 : Int32) (σ10 : Sx) => nmx ((x5 + y1)) (fun v4 => r16 v1 v3 v4 (x6 + (1 : Int32)) σ10)) (fun (j81 : Int32 → Sx → Option (Int32 × Sx)) => (if (siI σ9 3 10) = 0 then j81 (1 : Int32) σ9 else j81 (0 : Int32) σ9))))))))
def F_X7_withDrawnLeads (N : Nat) (a0 : Int32) (a1 : Int32) (a2 : Int32) (σ0 : Sx) : Option (Int32 × Sx) := clx (F_X7_keepLeads N  σ0) (fun _ σ1 => nmx (fun (x1 : Int32) (x2 : Int32) (σ2 : Sx) => clx (F_X7_giveLeadsBack N  σ2) (fun _ σ3 => clx (F_X2_spoil  σ3) (fun _ σ4 => (if a2 = 0 then some (x1, σ4) else some (x2, σ4))))) (fun (j90 : Int32 → Int32 → Sx → Option (Int32 × Sx)) => lpx4 (B_X7_withDrawnLeads_L16 N a1 j90) N a0 (0 : Int32) (0 : Int32) (0 : Int32) σ1))
set_option maxRecDepth 100000 in
set_option maxHeartbeats 4000000 in
theorem mc_X7_withDrawnLeads {D : va_G} {al : Nat → Nat} {cA : Nat → ClassId} {ba : Nat} (N : Nat) (a0 : Int32) (a1 : Int32) (a2 : Int32) : MCx D al cA ba yX7_withDrawnLeads cX7_withDrawnLeads 8 (some .int) 5 126 rvI [.ref (al 5), .int a0, .int a1, .int a2] (F_X7_withDrawnLeads N a0 a1 a2) := by
  refine MCx_of (by decide +kernel) (Nat.le_of_ble_eq_true rfl) ?_
  intro p l e s m args below meth c σ0 g hrt
  unfold F_X7_withDrawnLeads
  refine x_lv (lv' := [(0, .ref (al 5)), (1, .int a0), (2, .int a1), (3, .int a2)]) [0, 1, 2, 3] rfl ?_
  refine x_aload_n (pc := 0) g rfl 0 rfl dX7_withDrawnLeads_0 ?_
  refine x_callVU (pc := 1) (As := []) g sh_5 (mc_X7_keepLeads N ) cw_X7_keepLeads lk_X7_69 rfl ⟨Nat.le_of_ble_eq_true rfl, Nat.le_of_ble_eq_true rfl⟩ rfl (Nat.le_of_ble_eq_true rfl) dX7_withDrawnLeads_1 (fun _ σ1 => ?_)
  refine x_iload_n (pc := 4) g rfl 1 rfl dX7_withDrawnLeads_4 ?_
  refine x_istore (pc := 5) (lv' := [(4, .int a0), (0, .ref (al 5)), (1, .int a0), (2, .int a1), (3, .int a2)]) g (by decide) rfl dX7_withDrawnLeads_5 ?_
  refine x_iconst (pc := 7) (v := (0 : Int32)) g (by decide) dX7_withDrawnLeads_7 ?_
  refine x_istore (pc := 8) (lv' := [(5, .int (0 : Int32)), (4, .int a0), (0, .ref (al 5)), (1, .int a0), (2, .int a1), (3, .int a2)]) g (by decide) rfl dX7_withDrawnLeads_8 ?_
  refine x_iconst (pc := 10) (v := (0 : Int32)) g (by decide) dX7_withDrawnLeads_10 ?_
  refine x_istore (pc := 11) (lv' := [(6, .int (0 : Int32)), (5, .int (0 : Int32)), (4, .int a0), (0, .ref (al 5)), (1, .int a0), (2, .int a1), (3, .int a2)]) g (by decide) rfl dX7_withDrawnLeads_11 ?_
  refine x_iconst (pc := 13) (v := (0 : Int32)) g (by decide) dX7_withDrawnLeads_13 ?_
  refine x_istore (pc := 14) (lv' := [(7, .int (0 : Int32)), (6, .int (0 : Int32)), (5, .int (0 : Int32)), (4, .int a0), (0, .ref (al 5)), (1, .int a0), (2, .int a1), (3, .int a2)]) g (by decide) rfl dX7_withDrawnLeads_14 ?_
  refine x_jn (fun (j90 : Int32 → Int32 → Sx → Option (Int32 × Sx)) => ∀ (x1 : Int32) (x2 : Int32) (σ2 : Sx), XTx p l e { frames := 5, cells := 0, slots := 0, locals := 126 } s m args below meth c D al cA ba 8 (MQx rvI D al cA ba below args s) 0 0 90 [(0, .ref (al 5)), (3, .int a2), (5, .int x1), (6, .int x2)] [] σ2 (j90 x1 x2 σ2)) (fun x1 x2 σ2 => ?_) (fun j90 hj90 => ?_)
  · refine x_aload_n (pc := 90) g rfl 0 rfl dX7_withDrawnLeads_90 ?_
    refine x_callVU (pc := 91) (As := []) g sh_5 (mc_X7_giveLeadsBack N ) cw_X7_giveLeadsBack lk_X7_78 rfl ⟨Nat.le_of_ble_eq_true rfl, Nat.le_of_ble_eq_true rfl⟩ rfl (Nat.le_of_ble_eq_true rfl) dX7_withDrawnLeads_91 (fun _ σ3 => ?_)
    refine x_aload_n (pc := 94) g rfl 0 rfl dX7_withDrawnLeads_94 ?_
    refine x_getR (pc := 95) g sh_5 fl_X7_19 rfl dX7_withDrawnLeads_95 ?_
    refine x_callVU (pc := 98) (As := []) g sh_3 (mc_X2_spoil ) cw_X2_spoil lk_X7_53 rfl ⟨Nat.le_of_ble_eq_true rfl, Nat.le_of_ble_eq_true rfl⟩ rfl (Nat.le_of_ble_eq_true rfl) dX7_withDrawnLeads_98 (fun _ σ4 => ?_)
    refine x_iload_n (pc := 101) g rfl 1 rfl dX7_withDrawnLeads_101 ?_
    refine x_if_ne (pc := 102) (tgt := 110) g (by decide) dX7_withDrawnLeads_102 ?_ ?_
    · refine x_iload (pc := 110) g 3 rfl dX7_withDrawnLeads_110 ?_
      exact x_ireturn (pc := 112) g hrt dX7_withDrawnLeads_112
    · refine x_iload (pc := 105) g 2 rfl dX7_withDrawnLeads_105 ?_
      refine x_goto (pc := 107) (tgt := 112) g (by decide) dX7_withDrawnLeads_107 ?_
      exact x_ireturn (pc := 112) g hrt dX7_withDrawnLeads_112
  · refine x_lv [4, 6, 7, 3, 2, 1, 0] rfl ?_
    refine lpx4_ind (fun (x3 : Int32) (x4 : Int32) (x5 : Int32) (x6 : Int32) (σ5 : Sx) (K : Option (Int32 × Sx)) => XTx p l e { frames := 5, cells := 0, slots := 0, locals := 126 } s m args below meth c D al cA ba 8 (MQx rvI D al cA ba below args s) 0 0 16 [(0, .ref (al 5)), (2, .int a1), (3, .int a2), (4, .int x3), (5, .int x4), (6, .int x5), (7, .int x6)] [] σ5 (K)) (fun _ _ _ _ _ => x_no) (fun r16 hr16 x3 x4 x5 x6 σ5 => ?_) N a0 (0 : Int32) (0 : Int32) (0 : Int32) σ1
    show XTx p l e { frames := 5, cells := 0, slots := 0, locals := 126 } s m args below meth c D al cA ba 8 (MQx rvI D al cA ba below args s) 0 0 16 [(0, .ref (al 5)), (2, .int a1), (3, .int a2), (4, .int x3), (5, .int x4), (6, .int x5), (7, .int x6)] [] σ5 (B_X7_withDrawnLeads_L16 N a1 j90 r16 x3 x4 x5 x6 σ5)
    unfold B_X7_withDrawnLeads_L16
    refine x_iload (pc := 16) g 6 rfl dX7_withDrawnLeads_16 ?_
    refine x_iload_n (pc := 18) g rfl 1 rfl dX7_withDrawnLeads_18 ?_
    refine x_icmp_ge (pc := 19) (tgt := 90) g (by decide) dX7_withDrawnLeads_19 ?_ ?_
    · refine x_lv [0, 2, 4, 5] rfl ?_
      exact hj90 x4 x5 σ5
    · refine x_aload_n (pc := 22) g rfl 0 rfl dX7_withDrawnLeads_22 ?_
      refine x_iload (pc := 23) g 3 rfl dX7_withDrawnLeads_23 ?_
      refine x_callVI (pc := 25) (As := [.int x3]) g sh_5 (mc_X7_drawLeads N x3) cw_X7_drawLeads lk_X7_72 rfl ⟨Nat.le_of_ble_eq_true rfl, Nat.le_of_ble_eq_true rfl⟩ rfl (Nat.le_of_ble_eq_true rfl) dX7_withDrawnLeads_25 (fun v1 σ6 => ?_)
      refine x_istore (pc := 28) (lv' := [(4, .int v1), (0, .ref (al 5)), (2, .int a1), (3, .int a2), (5, .int x4), (6, .int x5), (7, .int x6)]) g (by decide) rfl dX7_withDrawnLeads_28 ?_
      refine x_aload_n (pc := 30) g rfl 1 rfl dX7_withDrawnLeads_30 ?_
      refine x_getR (pc := 31) g sh_5 fl_X7_19 rfl dX7_withDrawnLeads_31 ?_
      refine x_callVI (pc := 34) (As := []) g sh_3 (mc_X2_observe N ) cw_X2_observe lk_X7_39 rfl ⟨Nat.le_of_ble_eq_true rfl, Nat.le_of_ble_eq_true rfl⟩ rfl (Nat.le_of_ble_eq_true rfl) dX7_withDrawnLeads_34 (fun v2 σ7 => ?_)
      refine x_pop (pc := 37) g rfl dX7_withDrawnLeads_37 ?_
      refine x_aload_n (pc := 38) g rfl 1 rfl dX7_withDrawnLeads_38 ?_
      refine x_getR (pc := 39) g sh_5 fl_X7_19 rfl dX7_withDrawnLeads_39 ?_
      refine x_callVU (pc := 42) (As := []) g sh_3 (mc_X2_forget N ) cw_X2_forget lk_X7_75 rfl ⟨Nat.le_of_ble_eq_true rfl, Nat.le_of_ble_eq_true rfl⟩ rfl (Nat.le_of_ble_eq_true rfl) dX7_withDrawnLeads_42 (fun _ σ8 => ?_)
      refine x_aload_n (pc := 45) g rfl 1 rfl dX7_withDrawnLeads_45 ?_
      refine x_getR (pc := 46) g sh_5 fl_X7_19 rfl dX7_withDrawnLeads_46 ?_
      refine x_callVU (pc := 49) (As := []) g sh_3 (mc_X2_gather N ) cw_X2_gather lk_X7_46 rfl ⟨Nat.le_of_ble_eq_true rfl, Nat.le_of_ble_eq_true rfl⟩ rfl (Nat.le_of_ble_eq_true rfl) dX7_withDrawnLeads_49 (fun _ σ9 => ?_)
      refine x_iload (pc := 52) g 4 rfl dX7_withDrawnLeads_52 ?_
      refine x_aload_n (pc := 54) g rfl 1 rfl dX7_withDrawnLeads_54 ?_
      refine x_getR (pc := 55) g sh_5 fl_X7_19 rfl dX7_withDrawnLeads_55 ?_
      refine x_getI (pc := 58) g sh_3 fl_X7_49 rfl dX7_withDrawnLeads_58 ?_
      refine x_iadd (pc := 61) g dX7_withDrawnLeads_61 ?_
      refine x_nm (fun v3 => ?_)
      refine x_istore (pc := 62) (lv' := [(5, .int v3), (4, .int v1), (0, .ref (al 5)), (2, .int a1), (3, .int a2), (6, .int x5), (7, .int x6)]) g (by decide) rfl dX7_withDrawnLeads_62 ?_
      refine x_iload (pc := 64) g 5 rfl dX7_withDrawnLeads_64 ?_
      refine x_aload_n (pc := 66) g rfl 2 rfl dX7_withDrawnLeads_66 ?_
      refine x_getR (pc := 67) g sh_5 fl_X7_19 rfl dX7_withDrawnLeads_67 ?_
      refine x_getI (pc := 70) g sh_3 fl_X7_49 rfl dX7_withDrawnLeads_70 ?_
      refine x_jn (fun (j81 : Int32 → Sx → Option (Int32 × Sx)) => ∀ (y1 : Int32) (σ10 : Sx), XTx p l e { frames := 5, cells := 0, slots := 0, locals := 126 } s m args below meth c D al cA ba 8 (MQx rvI D al cA ba below args s) 0 0 81 [(0, .ref (al 5)), (2, .int a1), (3, .int a2), (4, .int v1), (5, .int v3), (7, .int x6)] [.int y1, .int x5] σ10 (j81 y1 σ10)) (fun y1 σ10 => ?_) (fun j81 hj81 => ?_)
      · refine x_iadd (pc := 81) g dX7_withDrawnLeads_81 ?_
        refine x_nm (fun v4 => ?_)
        refine x_istore (pc := 82) (lv' := [(6, .int v4), (0, .ref (al 5)), (2, .int a1), (3, .int a2), (4, .int v1), (5, .int v3), (7, .int x6)]) g (by decide) rfl dX7_withDrawnLeads_82 ?_
        refine x_iinc (pc := 84) (v := (x6 + (1 : Int32))) (lv' := [(7, .int (x6 + (1 : Int32))), (6, .int v4), (0, .ref (al 5)), (2, .int a1), (3, .int a2), (4, .int v1), (5, .int v3)]) g 6 rfl (by rfl) (by decide) rfl dX7_withDrawnLeads_84 ?_
        refine x_goto (pc := 87) (tgt := 16) g (by decide) dX7_withDrawnLeads_87 ?_
        refine x_lv [2, 3, 4, 5, 6, 1, 0] rfl ?_
        exact hr16 v1 v3 v4 (x6 + (1 : Int32)) σ10
      · refine x_if_ne (pc := 73) (tgt := 80) g (by decide) dX7_withDrawnLeads_73 ?_ ?_
        · refine x_iconst (pc := 80) (v := (0 : Int32)) g (by decide) dX7_withDrawnLeads_80 ?_
          refine x_lv [2, 3, 4, 1, 0, 6] rfl ?_
          exact hj81 (0 : Int32) σ9
        · refine x_iconst (pc := 76) (v := (1 : Int32)) g (by decide) dX7_withDrawnLeads_76 ?_
          refine x_goto (pc := 77) (tgt := 81) g (by decide) dX7_withDrawnLeads_77 ?_
          refine x_lv [2, 3, 4, 1, 0, 6] rfl ?_
          exact hj81 (1 : Int32) σ9
