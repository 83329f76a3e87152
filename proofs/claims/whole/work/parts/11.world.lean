def F_X8_start (a0 : Int32) (σ0 : Sx) : Option (Int32 × Sx) := aRx 3 (1 : Int32) (fun k11 => aIx (23 + k11) 5 a0 σ0 (fun v1 => some (v1, σ0)))
set_option maxRecDepth 100000 in
set_option maxHeartbeats 4000000 in
theorem mc_X8_start {D : va_G} {al : Nat → Nat} {cA : Nat → ClassId} {ba : Nat} (a0 : Int32) : MCx D al cA ba yX8_start cX8_start 2 (some .int) 0 0 rvI [.ref (al 1), .int a0] (F_X8_start a0) := by
  refine MCx_of (by decide +kernel) (Nat.le_of_ble_eq_true rfl) ?_
  intro p l e s m args below meth c σ0 g hrt
  unfold F_X8_start
  refine x_lv (lv' := [(0, .ref (al 1)), (1, .int a0)]) [0, 1] rfl ?_
  refine x_aload_n (pc := 0) g rfl 0 rfl dX8_start_0 ?_
  refine x_getR (pc := 1) g sh_1 fl_X8_11 rfl dX8_start_1 ?_
  refine x_iconst (pc := 4) (v := (1 : Int32)) g (by decide) dX8_start_4 ?_
  refine x_aaldR (pc := 5) g sh_22 (by decide) dX8_start_5 (fun k11 hk11 => ?_)
  refine x_iload_n (pc := 6) g rfl 1 rfl dX8_start_6 ?_
  refine x_iald (pc := 7) g (shf_23 k11 hk11) (by decide) dX8_start_7 (fun v1 => ?_)
  exact x_ireturn (pc := 8) g hrt dX8_start_8
def F_X8_minutesBetween (a0 : Int32) (a1 : Int32) (σ0 : Sx) : Option (Int32 × Sx) := (if a0 = a1 then some ((1 : Int32), σ0) else aRx 8 a0 (fun k11 => aIx (27 + k11) 8 a1 σ0 (fun v1 => some (v1, σ0))))
set_option maxRecDepth 100000 in
set_option maxHeartbeats 4000000 in
theorem mc_X8_minutesBetween {D : va_G} {al : Nat → Nat} {cA : Nat → ClassId} {ba : Nat} (a0 : Int32) (a1 : Int32) : MCx D al cA ba yX8_minutesBetween cX8_minutesBetween 3 (some .int) 0 0 rvI [.ref (al 1), .int a0, .int a1] (F_X8_minutesBetween a0 a1) := by
  refine MCx_of (by decide +kernel) (Nat.le_of_ble_eq_true rfl) ?_
  intro p l e s m args below meth c σ0 g hrt
  unfold F_X8_minutesBetween
  refine x_lv (lv' := [(0, .ref (al 1)), (1, .int a0), (2, .int a1)]) [0, 1, 2] rfl ?_
  refine x_iload_n (pc := 0) g rfl 1 rfl dX8_minutesBetween_0 ?_
  refine x_iload_n (pc := 1) g rfl 2 rfl dX8_minutesBetween_1 ?_
  refine x_icmp_ne (pc := 2) (tgt := 9) g (by decide) dX8_minutesBetween_2 ?_ ?_
  · refine x_aload_n (pc := 9) g rfl 0 rfl dX8_minutesBetween_9 ?_
    refine x_getR (pc := 10) g sh_1 fl_X8_16 rfl dX8_minutesBetween_10 ?_
    refine x_iload_n (pc := 13) g rfl 1 rfl dX8_minutesBetween_13 ?_
    refine x_aaldR (pc := 14) g sh_26 (by decide) dX8_minutesBetween_14 (fun k11 hk11 => ?_)
    refine x_iload_n (pc := 15) g rfl 2 rfl dX8_minutesBetween_15 ?_
    refine x_iald (pc := 16) g (shf_27 k11 hk11) (by decide) dX8_minutesBetween_16 (fun v1 => ?_)
    exact x_ireturn (pc := 17) g hrt dX8_minutesBetween_17
  · refine x_iconst (pc := 5) (v := (1 : Int32)) g (by decide) dX8_minutesBetween_5 ?_
    refine x_goto (pc := 6) (tgt := 17) g (by decide) dX8_minutesBetween_6 ?_
    exact x_ireturn (pc := 17) g hrt dX8_minutesBetween_17
def B_X8_reckon_L10 (N : Nat) (a0 : Int32) (r10 : Int32 → Int32 → Sx → Option (Unit × Sx)) (x1 : Int32) (x2 : Int32) (σ2 : Sx) : Option (Unit × Sx) := aIx 36 20 a0 σ2 (fun v2 => (if v2 ≤ x2 then some ((), σ2) else nmx (fun (x3 : Int32) (σ3 : Sx) => aRx 20 a0 (fun k11 => sIx (59 + k11) 8 x2 x3 σ3 (fun σ4 => r10 x3 (x2 + (1 : Int32)) σ4))) (fun (j49 : Int32 → Sx → Option (Unit × Sx)) => (if x2 ≤ 0 then j49 x1 σ2 else aRx 20 a0 (fun k12 => aIx (38 + k12) 8 (x2 - (1 : Int32)) σ2 (fun v3 => aRx 20 a0 (fun k13 => aIx (38 + k13) 8 x2 σ2 (fun v4 => clx (F_X8_minutesBetween v3 v4 σ2) (fun v5 σ5 => nmx ((x1 + v5)) (fun v6 => j49 v6 σ5))))))))))
def F_X8_reckon (N : Nat) (a0 : Int32) (σ0 : Sx) : Option (Unit × Sx) := clx (F_X8_start (a0 / (4 : Int32)) σ0) (fun v1 σ1 => lpx2 (B_X8_reckon_L10 N a0) N v1 (0 : Int32) σ1)
set_option maxRecDepth 100000 in
set_option maxHeartbeats 4000000 in
theorem mc_X8_reckon {D : va_G} {al : Nat → Nat} {cA : Nat → ClassId} {ba : Nat} (N : Nat) (a0 : Int32) : MCx D al cA ba yX8_reckon cX8_reckon 4 none 1 22 rvU [.ref (al 1), .int a0] (F_X8_reckon N a0) := by
  refine MCx_of (by decide +kernel) (Nat.le_of_ble_eq_true rfl) ?_
  intro p l e s m args below meth c σ0 g hrt
  unfold F_X8_reckon
  refine x_lv (lv' := [(0, .ref (al 1)), (1, .int a0)]) [0, 1] rfl ?_
  refine x_aload_n (pc := 0) g rfl 0 rfl dX8_reckon_0 ?_
  refine x_iload_n (pc := 1) g rfl 1 rfl dX8_reckon_1 ?_
  refine x_iconst (pc := 2) (v := (4 : Int32)) g (by decide) dX8_reckon_2 ?_
  refine x_idiv (pc := 3) g (by decide) dX8_reckon_3 ?_
  refine x_callVI (pc := 4) (As := [.int (a0 / (4 : Int32))]) g sh_1 (mc_X8_start (a0 / (4 : Int32))) cw_X8_start lk_X8_69 rfl ⟨Nat.le_of_ble_eq_true rfl, Nat.le_of_ble_eq_true rfl⟩ rfl (Nat.le_of_ble_eq_true rfl) dX8_reckon_4 (fun v1 σ1 => ?_)
  refine x_istore_n (pc := 7) (lv' := [(2, .int v1), (0, .ref (al 1)), (1, .int a0)]) g rfl (by decide) rfl dX8_reckon_7 ?_
  refine x_iconst (pc := 8) (v := (0 : Int32)) g (by decide) dX8_reckon_8 ?_
  refine x_istore_n (pc := 9) (lv' := [(3, .int (0 : Int32)), (2, .int v1), (0, .ref (al 1)), (1, .int a0)]) g rfl (by decide) rfl dX8_reckon_9 ?_
  refine x_lv [2, 3, 1, 0] rfl ?_
  refine lpx2_ind (fun (x1 : Int32) (x2 : Int32) (σ2 : Sx) (K : Option (Unit × Sx)) => XTx p l e { frames := 1, cells := 0, slots := 0, locals := 22 } s m args below meth c D al cA ba 4 (MQx rvU D al cA ba below args s) 0 0 10 [(0, .ref (al 1)), (1, .int a0), (2, .int x1), (3, .int x2)] [] σ2 (K)) (fun _ _ _ => x_no) (fun r10 hr10 x1 x2 σ2 => ?_) N v1 (0 : Int32) σ1
  show XTx p l e { frames := 1, cells := 0, slots := 0, locals := 22 } s m args below meth c D al cA ba 4 (MQx rvU D al cA ba below args s) 0 0 10 [(0, .ref (al 1)), (1, .int a0), (2, .int x1), (3, .int x2)] [] σ2 (B_X8_reckon_L10 N a0 r10 x1 x2 σ2)
  unfold B_X8_reckon_L10
  refine x_iload_n (pc := 10) g rfl 3 rfl dX8_reckon_10 ?_
  refine x_aload_n (pc := 11) g rfl 0 rfl dX8_reckon_11 ?_
  refine x_getR (pc := 12) g sh_1 fl_X8_23 rfl dX8_reckon_12 ?_
  refine x_iload_n (pc := 15) g rfl 1 rfl dX8_reckon_15 ?_
  refine x_iald (pc := 16) g sh_36 (by decide) dX8_reckon_16 (fun v2 => ?_)
  refine x_icmp_ge (pc := 17) (tgt := 64) g (by decide) dX8_reckon_17 ?_ ?_
  · exact x_return (pc := 64) g hrt dX8_reckon_64
  · refine x_iload_n (pc := 20) g rfl 3 rfl dX8_reckon_20 ?_
    refine x_jn (fun (j49 : Int32 → Sx → Option (Unit × Sx)) => ∀ (x3 : Int32) (σ3 : Sx), XTx p l e { frames := 1, cells := 0, slots := 0, locals := 22 } s m args below meth c D al cA ba 4 (MQx rvU D al cA ba below args s) 0 0 49 [(0, .ref (al 1)), (1, .int a0), (2, .int x3), (3, .int x2)] [] σ3 (j49 x3 σ3)) (fun x3 σ3 => ?_) (fun j49 hj49 => ?_)
    · refine x_aload_n (pc := 49) g rfl 0 rfl dX8_reckon_49 ?_
      refine x_getR (pc := 50) g sh_1 fl_X8_29 rfl dX8_reckon_50 ?_
      refine x_iload_n (pc := 53) g rfl 1 rfl dX8_reckon_53 ?_
      refine x_aaldR (pc := 54) g sh_58 (by decide) dX8_reckon_54 (fun k11 hk11 => ?_)
      refine x_iload_n (pc := 55) g rfl 3 rfl dX8_reckon_55 ?_
      refine x_iload_n (pc := 56) g rfl 2 rfl dX8_reckon_56 ?_
      refine x_iast (pc := 57) g (shf_59 k11 hk11) (by decide) dX8_reckon_57 (fun σ4 => ?_)
      refine x_iinc (pc := 58) (v := (x2 + (1 : Int32))) (lv' := [(3, .int (x2 + (1 : Int32))), (0, .ref (al 1)), (1, .int a0), (2, .int x3)]) g 3 rfl (by rfl) (by decide) rfl dX8_reckon_58 ?_
      refine x_goto (pc := 61) (tgt := 10) g (by decide) dX8_reckon_61 ?_
      refine x_lv [1, 2, 3, 0] rfl ?_
      exact hr10 x3 (x2 + (1 : Int32)) σ4
    · refine x_if_le (pc := 21) (tgt := 49) g (by decide) dX8_reckon_21 ?_ ?_
      · exact hj49 x1 σ2
      · refine x_iload_n (pc := 24) g rfl 2 rfl dX8_reckon_24 ?_
        refine x_aload_n (pc := 25) g rfl 0 rfl dX8_reckon_25 ?_
        refine x_aload_n (pc := 26) g rfl 0 rfl dX8_reckon_26 ?_
        refine x_getR (pc := 27) g sh_1 fl_X8_26 rfl dX8_reckon_27 ?_
        refine x_iload_n (pc := 30) g rfl 1 rfl dX8_reckon_30 ?_
        refine x_aaldR (pc := 31) g sh_37 (by decide) dX8_reckon_31 (fun k12 hk12 => ?_)
        refine x_iload_n (pc := 32) g rfl 3 rfl dX8_reckon_32 ?_
        refine x_iconst (pc := 33) (v := (1 : Int32)) g (by decide) dX8_reckon_33 ?_
        refine x_isub (pc := 34) g dX8_reckon_34 ?_
        refine x_iald (pc := 35) g (shf_38 k12 hk12) (by decide) dX8_reckon_35 (fun v3 => ?_)
        refine x_aload_n (pc := 36) g rfl 0 rfl dX8_reckon_36 ?_
        refine x_getR (pc := 37) g sh_1 fl_X8_26 rfl dX8_reckon_37 ?_
        refine x_iload_n (pc := 40) g rfl 1 rfl dX8_reckon_40 ?_
        refine x_aaldR (pc := 41) g sh_37 (by decide) dX8_reckon_41 (fun k13 hk13 => ?_)
        refine x_iload_n (pc := 42) g rfl 3 rfl dX8_reckon_42 ?_
        refine x_iald (pc := 43) g (shf_38 k13 hk13) (by decide) dX8_reckon_43 (fun v4 => ?_)
        refine x_callVI (pc := 44) (As := [.int v3, .int v4]) g sh_1 (mc_X8_minutesBetween v3 v4) cw_X8_minutesBetween lk_X8_73 rfl ⟨Nat.le_of_ble_eq_true rfl, Nat.le_of_ble_eq_true rfl⟩ rfl (Nat.le_of_ble_eq_true rfl) dX8_reckon_44 (fun v5 σ5 => ?_)
        refine x_iadd (pc := 47) g dX8_reckon_47 ?_
        refine x_nm (fun v6 => ?_)
        refine x_istore_n (pc := 48) (lv' := [(2, .int v6), (0, .ref (al 1)), (1, .int a0), (3, .int x2)]) g rfl (by decide) rfl dX8_reckon_48 ?_
        refine x_lv [1, 2, 0, 3] rfl ?_
        exact hj49 v6 σ5
def B_X8_reckonAll_L2 (N : Nat) (r2 : Int32 → Sx → Option (Unit × Sx)) (x1 : Int32) (σ1 : Sx) : Option (Unit × Sx) := (if (20 : Int32) ≤ x1 then some ((), σ1) else clx (F_X8_reckon N x1 σ1) (fun _ σ2 => r2 (x1 + (1 : Int32)) σ2))
def F_X8_reckonAll (N : Nat) (σ0 : Sx) : Option (Unit × Sx) := lpx1 (B_X8_reckonAll_L2 N) N (0 : Int32) σ0
set_option maxRecDepth 100000 in
set_option maxHeartbeats 4000000 in
theorem mc_X8_reckonAll {D : va_G} {al : Nat → Nat} {cA : Nat → ClassId} {ba : Nat} (N : Nat)  : MCx D al cA ba yX8_reckonAll cX8_reckonAll 2 none 2 45 rvU [.ref (al 1)] (F_X8_reckonAll N) := by
  refine MCx_of (by decide +kernel) (Nat.le_of_ble_eq_true rfl) ?_
  intro p l e s m args below meth c σ0 g hrt
  unfold F_X8_reckonAll
  refine x_lv (lv' := [(0, .ref (al 1))]) [0] rfl ?_
  refine x_iconst (pc := 0) (v := (0 : Int32)) g (by decide) dX8_reckonAll_0 ?_
  refine x_istore_n (pc := 1) (lv' := [(1, .int (0 : Int32)), (0, .ref (al 1))]) g rfl (by decide) rfl dX8_reckonAll_1 ?_
  refine x_lv [1, 0] rfl ?_
  refine lpx1_ind (fun (x1 : Int32) (σ1 : Sx) (K : Option (Unit × Sx)) => XTx p l e { frames := 2, cells := 0, slots := 0, locals := 45 } s m args below meth c D al cA ba 2 (MQx rvU D al cA ba below args s) 0 0 2 [(0, .ref (al 1)), (1, .int x1)] [] σ1 (K)) (fun _ _ => x_no) (fun r2 hr2 x1 σ1 => ?_) N (0 : Int32) σ0
  show XTx p l e { frames := 2, cells := 0, slots := 0, locals := 45 } s m args below meth c D al cA ba 2 (MQx rvU D al cA ba below args s) 0 0 2 [(0, .ref (al 1)), (1, .int x1)] [] σ1 (B_X8_reckonAll_L2 N r2 x1 σ1)
  unfold B_X8_reckonAll_L2
  refine x_iload_n (pc := 2) g rfl 1 rfl dX8_reckonAll_2 ?_
  refine x_bipush (pc := 3) (v := (20 : Int32)) g (by decide) dX8_reckonAll_3 ?_
  refine x_icmp_ge (pc := 5) (tgt := 19) g (by decide) dX8_reckonAll_5 ?_ ?_
  · exact x_return (pc := 19) g hrt dX8_reckonAll_19
  · refine x_aload_n (pc := 8) g rfl 0 rfl dX8_reckonAll_8 ?_
    refine x_iload_n (pc := 9) g rfl 1 rfl dX8_reckonAll_9 ?_
    refine x_callVU (pc := 10) (As := [.int x1]) g sh_1 (mc_X8_reckon N x1) cw_X8_reckon lk_X8_65 rfl ⟨Nat.le_of_ble_eq_true rfl, Nat.le_of_ble_eq_true rfl⟩ rfl (Nat.le_of_ble_eq_true rfl) dX8_reckonAll_10 (fun _ σ2 => ?_)
    refine x_iinc (pc := 13) (v := (x1 + (1 : Int32))) (lv' := [(1, .int (x1 + (1 : Int32))), (0, .ref (al 1))]) g 1 rfl (by rfl) (by decide) rfl dX8_reckonAll_13 ?_
    refine x_goto (pc := 16) (tgt := 2) g (by decide) dX8_reckonAll_16 ?_
    refine x_lv [1, 0] rfl ?_
    exact hr2 (x1 + (1 : Int32)) σ2
def F_X8_tell (N : Nat) (a0 : Int32) (a1 : Int32) (a2 : Int32) (σ0 : Sx) : Option (Unit × Sx) := nmx (fun (σ1 : Sx) => nmx (fun (σ2 : Sx) => clx (F_X8_reckonAll N  σ2) (fun _ σ3 => some ((), σ3))) (fun (j57 : Sx → Option (Unit × Sx)) => (if a1 = (3 : Int32) then j57 σ1 else (if a1 = (1 : Int32) then j57 σ1 else some ((), σ1))))) (fun (j47 : Sx → Option (Unit × Sx)) => (if a1 = (3 : Int32) then aRx 8 (a0 / (10 : Int32)) (fun k12 => sIx (27 + k12) 8 (jrem a0 (10 : Int32)) a2 σ0 (fun σ5 => aRx 8 (jrem a0 (10 : Int32)) (fun k13 => sIx (27 + k13) 8 (a0 / (10 : Int32)) a2 σ5 (fun σ6 => j47 σ6)))) else aRx 3 a1 (fun k11 => sIx (23 + k11) 5 a0 a2 σ0 (fun σ4 => j47 σ4))))
set_option maxRecDepth 100000 in
set_option maxHeartbeats 4000000 in
theorem mc_X8_tell {D : va_G} {al : Nat → Nat} {cA : Nat → ClassId} {ba : Nat} (N : Nat) (a0 : Int32) (a1 : Int32) (a2 : Int32) : MCx D al cA ba yX8_tell cX8_tell 4 none 3 66 rvU [.ref (al 1), .int a0, .int a1, .int a2] (F_X8_tell N a0 a1 a2) := by
  refine MCx_of (by decide +kernel) (Nat.le_of_ble_eq_true rfl) ?_
  intro p l e s m args below meth c σ0 g hrt
  unfold F_X8_tell
  refine x_lv (lv' := [(0, .ref (al 1)), (1, .int a0), (2, .int a1), (3, .int a2)]) [0, 1, 2, 3] rfl ?_
  refine x_iload_n (pc := 0) g rfl 2 rfl dX8_tell_0 ?_
  refine x_iconst (pc := 1) (v := (3 : Int32)) g (by decide) dX8_tell_1 ?_
  refine x_jn (fun (j47 : Sx → Option (Unit × Sx)) => ∀ (σ1 : Sx), XTx p l e { frames := 3, cells := 0, slots := 0, locals := 66 } s m args below meth c D al cA ba 4 (MQx rvU D al cA ba below args s) 0 0 47 [(0, .ref (al 1)), (2, .int a1)] [] σ1 (j47 σ1)) (fun σ1 => ?_) (fun j47 hj47 => ?_)
  · refine x_iload_n (pc := 47) g rfl 1 rfl dX8_tell_47 ?_
    refine x_iconst (pc := 48) (v := (3 : Int32)) g (by decide) dX8_tell_48 ?_
    refine x_jn (fun (j57 : Sx → Option (Unit × Sx)) => ∀ (σ2 : Sx), XTx p l e { frames := 3, cells := 0, slots := 0, locals := 66 } s m args below meth c D al cA ba 4 (MQx rvU D al cA ba below args s) 0 0 57 [(0, .ref (al 1))] [] σ2 (j57 σ2)) (fun σ2 => ?_) (fun j57 hj57 => ?_)
    · refine x_aload_n (pc := 57) g rfl 0 rfl dX8_tell_57 ?_
      refine x_callVU (pc := 58) (As := []) g sh_1 (mc_X8_reckonAll N ) cw_X8_reckonAll lk_X8_62 rfl ⟨Nat.le_of_ble_eq_true rfl, Nat.le_of_ble_eq_true rfl⟩ rfl (Nat.le_of_ble_eq_true rfl) dX8_tell_58 (fun _ σ3 => ?_)
      exact x_return (pc := 61) g hrt dX8_tell_61
    · refine x_icmp_eq (pc := 49) (tgt := 57) g (by decide) dX8_tell_49 ?_ ?_
      · refine x_lv [0] rfl ?_
        exact hj57 σ1
      · refine x_iload_n (pc := 52) g rfl 1 rfl dX8_tell_52 ?_
        refine x_iconst (pc := 53) (v := (1 : Int32)) g (by decide) dX8_tell_53 ?_
        refine x_icmp_ne (pc := 54) (tgt := 61) g (by decide) dX8_tell_54 ?_ ?_
        · exact x_return (pc := 61) g hrt dX8_tell_61
        · refine x_lv [0] rfl ?_
          exact hj57 σ1
  · refine x_icmp_ne (pc := 2) (tgt := 38) g (by decide) dX8_tell_2 ?_ ?_
    · refine x_aload_n (pc := 38) g rfl 0 rfl dX8_tell_38 ?_
      refine x_getR (pc := 39) g sh_1 fl_X8_11 rfl dX8_tell_39 ?_
      refine x_iload_n (pc := 42) g rfl 2 rfl dX8_tell_42 ?_
      refine x_aaldR (pc := 43) g sh_22 (by decide) dX8_tell_43 (fun k11 hk11 => ?_)
      refine x_iload_n (pc := 44) g rfl 1 rfl dX8_tell_44 ?_
      refine x_iload_n (pc := 45) g rfl 3 rfl dX8_tell_45 ?_
      refine x_iast (pc := 46) g (shf_23 k11 hk11) (by decide) dX8_tell_46 (fun σ4 => ?_)
      refine x_lv [0, 2] rfl ?_
      exact hj47 σ4
    · refine x_aload_n (pc := 5) g rfl 0 rfl dX8_tell_5 ?_
      refine x_getR (pc := 6) g sh_1 fl_X8_16 rfl dX8_tell_6 ?_
      refine x_iload_n (pc := 9) g rfl 1 rfl dX8_tell_9 ?_
      refine x_bipush (pc := 10) (v := (10 : Int32)) g (by decide) dX8_tell_10 ?_
      refine x_idiv (pc := 12) g (by decide) dX8_tell_12 ?_
      refine x_aaldR (pc := 13) g sh_26 (by decide) dX8_tell_13 (fun k12 hk12 => ?_)
      refine x_iload_n (pc := 14) g rfl 1 rfl dX8_tell_14 ?_
      refine x_bipush (pc := 15) (v := (10 : Int32)) g (by decide) dX8_tell_15 ?_
      refine x_irem (pc := 17) g (by decide) dX8_tell_17 ?_
      refine x_iload_n (pc := 18) g rfl 3 rfl dX8_tell_18 ?_
      refine x_iast (pc := 19) g (shf_27 k12 hk12) (by decide) dX8_tell_19 (fun σ5 => ?_)
      refine x_aload_n (pc := 20) g rfl 0 rfl dX8_tell_20 ?_
      refine x_getR (pc := 21) g sh_1 fl_X8_16 rfl dX8_tell_21 ?_
      refine x_iload_n (pc := 24) g rfl 1 rfl dX8_tell_24 ?_
      refine x_bipush (pc := 25) (v := (10 : Int32)) g (by decide) dX8_tell_25 ?_
      refine x_irem (pc := 27) g (by decide) dX8_tell_27 ?_
      refine x_aaldR (pc := 28) g sh_26 (by decide) dX8_tell_28 (fun k13 hk13 => ?_)
      refine x_iload_n (pc := 29) g rfl 1 rfl dX8_tell_29 ?_
      refine x_bipush (pc := 30) (v := (10 : Int32)) g (by decide) dX8_tell_30 ?_
      refine x_idiv (pc := 32) g (by decide) dX8_tell_32 ?_
      refine x_iload_n (pc := 33) g rfl 3 rfl dX8_tell_33 ?_
      refine x_iast (pc := 34) g (shf_27 k13 hk13) (by decide) dX8_tell_34 (fun σ6 => ?_)
      refine x_goto (pc := 35) (tgt := 47) g (by decide) dX8_tell_35 ?_
      refine x_lv [0, 2] rfl ?_
      exact hj47 σ6
def F_X8_wayIndex (a0 : Int32) (a1 : Int32) (σ0 : Sx) : Option (Int32 × Sx) := some (((a0 * (4 : Int32)) + a1), σ0)
set_option maxRecDepth 100000 in
set_option maxHeartbeats 4000000 in
theorem mc_X8_wayIndex {D : va_G} {al : Nat → Nat} {cA : Nat → ClassId} {ba : Nat} (a0 : Int32) (a1 : Int32) : MCx D al cA ba yX8_wayIndex cX8_wayIndex 2 (some .int) 0 0 rvI [.int a0, .int a1] (F_X8_wayIndex a0 a1) := by
  refine MCx_of (by decide +kernel) (Nat.le_of_ble_eq_true rfl) ?_
  intro p l e s m args below meth c σ0 g hrt
  unfold F_X8_wayIndex
  refine x_lv (lv' := [(0, .int a0), (1, .int a1)]) [0, 1] rfl ?_
  refine x_iload_n (pc := 0) g rfl 0 rfl dX8_wayIndex_0 ?_
  refine x_iconst (pc := 1) (v := (4 : Int32)) g (by decide) dX8_wayIndex_1 ?_
  refine x_imul (pc := 2) g dX8_wayIndex_2 ?_
  refine x_iload_n (pc := 3) g rfl 1 rfl dX8_wayIndex_3 ?_
  refine x_iadd (pc := 4) g dX8_wayIndex_4 ?_
  exact x_ireturn (pc := 5) g hrt dX8_wayIndex_5
def F_X8_lead (a0 : Int32) (σ0 : Sx) : Option (Int32 × Sx) := aRx 3 (0 : Int32) (fun k11 => aIx (23 + k11) 5 a0 σ0 (fun v1 => some (v1, σ0)))
set_option maxRecDepth 100000 in
set_option maxHeartbeats 4000000 in
theorem mc_X8_lead {D : va_G} {al : Nat → Nat} {cA : Nat → ClassId} {ba : Nat} (a0 : Int32) : MCx D al cA ba yX8_lead cX8_lead 2 (some .int) 0 0 rvI [.ref (al 1), .int a0] (F_X8_lead a0) := by
  refine MCx_of (by decide +kernel) (Nat.le_of_ble_eq_true rfl) ?_
  intro p l e s m args below meth c σ0 g hrt
  unfold F_X8_lead
  refine x_lv (lv' := [(0, .ref (al 1)), (1, .int a0)]) [0, 1] rfl ?_
  refine x_aload_n (pc := 0) g rfl 0 rfl dX8_lead_0 ?_
  refine x_getR (pc := 1) g sh_1 fl_X8_11 rfl dX8_lead_1 ?_
  refine x_iconst (pc := 4) (v := (0 : Int32)) g (by decide) dX8_lead_4 ?_
  refine x_aaldR (pc := 5) g sh_22 (by decide) dX8_lead_5 (fun k11 hk11 => ?_)
  refine x_iload_n (pc := 6) g rfl 1 rfl dX8_lead_6 ?_
  refine x_iald (pc := 7) g (shf_23 k11 hk11) (by decide) dX8_lead_7 (fun v1 => ?_)
  exact x_ireturn (pc := 8) g hrt dX8_lead_8
def B_X8_leavesTracks_L12 (N : Nat) (a0 : Int32) (a1 : Int32) (a2 : Int32) (v1 : Int32) (r12 : Int32 → Sx → Option (Int32 × Sx)) (x1 : Int32) (σ2 : Sx) : Option (Int32 × Sx) := aIx 36 20 a0 σ2 (fun v2 => (if v2 ≤ x1 then some ((0 : Int32), σ2) else aRx 20 a0 (fun k11 => aIx (59 + k11) 8 x1 σ2 (fun v3 => nmx ((v3 - a2)) (fun v4 => aRx 20 a0 (fun k12 => aIx (38 + k12) 8 x1 σ2 (fun v5 => nmx (fun (σ3 : Sx) => r12 (x1 + (1 : Int32)) σ3) (fun (j64 : Sx → Option (Int32 × Sx)) => (if v5 = a1 then (if v4 < (1 : Int32) then j64 σ2 else (if v1 < v4 then j64 σ2 else some ((1 : Int32), σ2))) else j64 σ2)))))))))
def F_X8_leavesTracks (N : Nat) (a0 : Int32) (a1 : Int32) (a2 : Int32) (σ0 : Sx) : Option (Int32 × Sx) := clx (F_X8_lead (a0 / (4 : Int32)) σ0) (fun v1 σ1 => lpx1 (B_X8_leavesTracks_L12 N a0 a1 a2 v1) N (0 : Int32) σ1)
set_option maxRecDepth 100000 in
set_option maxHeartbeats 4000000 in
theorem mc_X8_leavesTracks {D : va_G} {al : Nat → Nat} {cA : Nat → ClassId} {ba : Nat} (N : Nat) (a0 : Int32) (a1 : Int32) (a2 : Int32) : MCx D al cA ba yX8_leavesTracks cX8_leavesTracks 7 (some .boolean) 1 21 rvI [.ref (al 1), .int a0, .int a1, .int a2] (F_X8_leavesTracks N a0 a1 a2) := by
  refine MCx_of (by decide +kernel) (Nat.le_of_ble_eq_true rfl) ?_
  intro p l e s m args below meth c σ0 g hrt
  unfold F_X8_leavesTracks
  refine x_lv (lv' := [(0, .ref (al 1)), (1, .int a0), (2, .int a1), (3, .int a2)]) [0, 1, 2, 3] rfl ?_
  refine x_aload_n (pc := 0) g rfl 0 rfl dX8_leavesTracks_0 ?_
  refine x_iload_n (pc := 1) g rfl 1 rfl dX8_leavesTracks_1 ?_
  refine x_iconst (pc := 2) (v := (4 : Int32)) g (by decide) dX8_leavesTracks_2 ?_
  refine x_idiv (pc := 3) g (by decide) dX8_leavesTracks_3 ?_
  refine x_callVI (pc := 4) (As := [.int (a0 / (4 : Int32))]) g sh_1 (mc_X8_lead (a0 / (4 : Int32))) cw_X8_lead lk_X8_83 rfl ⟨Nat.le_of_ble_eq_true rfl, Nat.le_of_ble_eq_true rfl⟩ rfl (Nat.le_of_ble_eq_true rfl) dX8_leavesTracks_4 (fun v1 σ1 => ?_)
  refine x_istore (pc := 7) (lv' := [(4, .int v1), (0, .ref (al 1)), (1, .int a0), (2, .int a1), (3, .int a2)]) g (by decide) rfl dX8_leavesTracks_7 ?_
  refine x_iconst (pc := 9) (v := (0 : Int32)) g (by decide) dX8_leavesTracks_9 ?_
  refine x_istore (pc := 10) (lv' := [(5, .int (0 : Int32)), (4, .int v1), (0, .ref (al 1)), (1, .int a0), (2, .int a1), (3, .int a2)]) g (by decide) rfl dX8_leavesTracks_10 ?_
  refine x_lv [2, 3, 4, 5, 1, 0] rfl ?_
  refine lpx1_ind (fun (x1 : Int32) (σ2 : Sx) (K : Option (Int32 × Sx)) => XTx p l e { frames := 1, cells := 0, slots := 0, locals := 21 } s m args below meth c D al cA ba 7 (MQx rvI D al cA ba below args s) 0 0 12 [(0, .ref (al 1)), (1, .int a0), (2, .int a1), (3, .int a2), (4, .int v1), (5, .int x1)] [] σ2 (K)) (fun _ _ => x_no) (fun r12 hr12 x1 σ2 => ?_) N (0 : Int32) σ1
  show XTx p l e { frames := 1, cells := 0, slots := 0, locals := 21 } s m args below meth c D al cA ba 7 (MQx rvI D al cA ba below args s) 0 0 12 [(0, .ref (al 1)), (1, .int a0), (2, .int a1), (3, .int a2), (4, .int v1), (5, .int x1)] [] σ2 (B_X8_leavesTracks_L12 N a0 a1 a2 v1 r12 x1 σ2)
  unfold B_X8_leavesTracks_L12
  refine x_iload (pc := 12) g 5 rfl dX8_leavesTracks_12 ?_
  refine x_aload_n (pc := 14) g rfl 0 rfl dX8_leavesTracks_14 ?_
  refine x_getR (pc := 15) g sh_1 fl_X8_23 rfl dX8_leavesTracks_15 ?_
  refine x_iload_n (pc := 18) g rfl 1 rfl dX8_leavesTracks_18 ?_
  refine x_iald (pc := 19) g sh_36 (by decide) dX8_leavesTracks_19 (fun v2 => ?_)
  refine x_icmp_ge (pc := 20) (tgt := 70) g (by decide) dX8_leavesTracks_20 ?_ ?_
  · refine x_iconst (pc := 70) (v := (0 : Int32)) g (by decide) dX8_leavesTracks_70 ?_
    exact x_zreturn (pc := 71) g hrt (by decide) dX8_leavesTracks_71
  · refine x_aload_n (pc := 23) g rfl 0 rfl dX8_leavesTracks_23 ?_
    refine x_getR (pc := 24) g sh_1 fl_X8_29 rfl dX8_leavesTracks_24 ?_
    refine x_iload_n (pc := 27) g rfl 1 rfl dX8_leavesTracks_27 ?_
    refine x_aaldR (pc := 28) g sh_58 (by decide) dX8_leavesTracks_28 (fun k11 hk11 => ?_)
    refine x_iload (pc := 29) g 5 rfl dX8_leavesTracks_29 ?_
    refine x_iald (pc := 31) g (shf_59 k11 hk11) (by decide) dX8_leavesTracks_31 (fun v3 => ?_)
    refine x_iload_n (pc := 32) g rfl 3 rfl dX8_leavesTracks_32 ?_
    refine x_isub (pc := 33) g dX8_leavesTracks_33 ?_
    refine x_nm (fun v4 => ?_)
    refine x_istore (pc := 34) (lv' := [(6, .int v4), (0, .ref (al 1)), (1, .int a0), (2, .int a1), (3, .int a2), (4, .int v1), (5, .int x1)]) g (by decide) rfl dX8_leavesTracks_34 ?_
    refine x_aload_n (pc := 36) g rfl 1 rfl dX8_leavesTracks_36 ?_
    refine x_getR (pc := 37) g sh_1 fl_X8_26 rfl dX8_leavesTracks_37 ?_
    refine x_iload_n (pc := 40) g rfl 2 rfl dX8_leavesTracks_40 ?_
    refine x_aaldR (pc := 41) g sh_37 (by decide) dX8_leavesTracks_41 (fun k12 hk12 => ?_)
    refine x_iload (pc := 42) g 6 rfl dX8_leavesTracks_42 ?_
    refine x_iald (pc := 44) g (shf_38 k12 hk12) (by decide) dX8_leavesTracks_44 (fun v5 => ?_)
    refine x_iload_n (pc := 45) g rfl 3 rfl dX8_leavesTracks_45 ?_
    refine x_jn (fun (j64 : Sx → Option (Int32 × Sx)) => ∀ (σ3 : Sx), XTx p l e { frames := 1, cells := 0, slots := 0, locals := 21 } s m args below meth c D al cA ba 7 (MQx rvI D al cA ba below args s) 0 0 64 [(0, .ref (al 1)), (1, .int a0), (2, .int a1), (3, .int a2), (4, .int v1), (5, .int x1)] [] σ3 (j64 σ3)) (fun σ3 => ?_) (fun j64 hj64 => ?_)
    · refine x_iinc (pc := 64) (v := (x1 + (1 : Int32))) (lv' := [(5, .int (x1 + (1 : Int32))), (0, .ref (al 1)), (1, .int a0), (2, .int a1), (3, .int a2), (4, .int v1)]) g 5 rfl (by rfl) (by decide) rfl dX8_leavesTracks_64 ?_
      refine x_goto (pc := 67) (tgt := 12) g (by decide) dX8_leavesTracks_67 ?_
      refine x_lv [1, 2, 3, 4, 5, 0] rfl ?_
      exact hr12 (x1 + (1 : Int32)) σ3
    · refine x_icmp_ne (pc := 46) (tgt := 64) g (by decide) dX8_leavesTracks_46 ?_ ?_
      · refine x_lv [1, 2, 3, 4, 5, 6] rfl ?_
        exact hj64 σ2
      · refine x_iload (pc := 49) g 0 rfl dX8_leavesTracks_49 ?_
        refine x_iconst (pc := 51) (v := (1 : Int32)) g (by decide) dX8_leavesTracks_51 ?_
        refine x_icmp_lt (pc := 52) (tgt := 64) g (by decide) dX8_leavesTracks_52 ?_ ?_
        · refine x_lv [1, 2, 3, 4, 5, 6] rfl ?_
          exact hj64 σ2
        · refine x_iload (pc := 55) g 0 rfl dX8_leavesTracks_55 ?_
          refine x_iload (pc := 57) g 5 rfl dX8_leavesTracks_57 ?_
          refine x_icmp_gt (pc := 59) (tgt := 64) g (by decide) dX8_leavesTracks_59 ?_ ?_
          · refine x_lv [1, 2, 3, 4, 5, 6] rfl ?_
            exact hj64 σ2
          · refine x_iconst (pc := 62) (v := (1 : Int32)) g (by decide) dX8_leavesTracks_62 ?_
            exact x_zreturn (pc := 63) g hrt (by decide) dX8_leavesTracks_63
def B_X8_tracks_L5 (N : Nat) (a0 : Int32) (a1 : Int32) (r5 : Int32 → Int32 → Sx → Option (Int32 × Sx)) (x1 : Int32) (x2 : Int32) (σ1 : Sx) : Option (Int32 × Sx) := (if ((siI σ1 1 0) * (4 : Int32)) ≤ x2 then some (x1, σ1) else clx (F_X8_leavesTracks N x2 a0 a1 σ1) (fun v1 σ2 => nmx (fun (x3 : Int32) (σ3 : Sx) => r5 x3 (x2 + (1 : Int32)) σ3) (fun (j34 : Int32 → Sx → Option (Int32 × Sx)) => (if v1 = 0 then j34 x1 σ2 else nmx ((x1 ||| (jshl (1 : Int32) x2))) (fun v2 => j34 v2 σ2)))))
def F_X8_tracks (N : Nat) (a0 : Int32) (a1 : Int32) (σ0 : Sx) : Option (Int32 × Sx) := lpx2 (B_X8_tracks_L5 N a0 a1) N (0 : Int32) (0 : Int32) σ0
set_option maxRecDepth 100000 in
set_option maxHeartbeats 4000000 in
theorem mc_X8_tracks {D : va_G} {al : Nat → Nat} {cA : Nat → ClassId} {ba : Nat} (N : Nat) (a0 : Int32) (a1 : Int32) : MCx D al cA ba yX8_tracks cX8_tracks 5 (some .int) 2 47 rvI [.ref (al 1), .int a0, .int a1] (F_X8_tracks N a0 a1) := by
  refine MCx_of (by decide +kernel) (Nat.le_of_ble_eq_true rfl) ?_
  intro p l e s m args below meth c σ0 g hrt
  unfold F_X8_tracks
  refine x_lv (lv' := [(0, .ref (al 1)), (1, .int a0), (2, .int a1)]) [0, 1, 2] rfl ?_
  refine x_iconst (pc := 0) (v := (0 : Int32)) g (by decide) dX8_tracks_0 ?_
  refine x_istore_n (pc := 1) (lv' := [(3, .int (0 : Int32)), (0, .ref (al 1)), (1, .int a0), (2, .int a1)]) g rfl (by decide) rfl dX8_tracks_1 ?_
  refine x_iconst (pc := 2) (v := (0 : Int32)) g (by decide) dX8_tracks_2 ?_
  refine x_istore (pc := 3) (lv' := [(4, .int (0 : Int32)), (3, .int (0 : Int32)), (0, .ref (al 1)), (1, .int a0), (2, .int a1)]) g (by decide) rfl dX8_tracks_3 ?_
  refine x_lv [2, 3, 4, 1, 0] rfl ?_
  refine lpx2_ind (fun (x1 : Int32) (x2 : Int32) (σ1 : Sx) (K : Option (Int32 × Sx)) => XTx p l e { frames := 2, cells := 0, slots := 0, locals := 47 } s m args below meth c D al cA ba 5 (MQx rvI D al cA ba below args s) 0 0 5 [(0, .ref (al 1)), (1, .int a0), (2, .int a1), (3, .int x1), (4, .int x2)] [] σ1 (K)) (fun _ _ _ => x_no) (fun r5 hr5 x1 x2 σ1 => ?_) N (0 : Int32) (0 : Int32) σ0
  show XTx p l e { frames := 2, cells := 0, slots := 0, locals := 47 } s m args below meth c D al cA ba 5 (MQx rvI D al cA ba below args s) 0 0 5 [(0, .ref (al 1)), (1, .int a0), (2, .int a1), (3, .int x1), (4, .int x2)] [] σ1 (B_X8_tracks_L5 N a0 a1 r5 x1 x2 σ1)
  unfold B_X8_tracks_L5
  refine x_iload (pc := 5) g 4 rfl dX8_tracks_5 ?_
  refine x_aload_n (pc := 7) g rfl 0 rfl dX8_tracks_7 ?_
  refine x_getI (pc := 8) g sh_1 fl_X8_51 rfl dX8_tracks_8 ?_
  refine x_iconst (pc := 11) (v := (4 : Int32)) g (by decide) dX8_tracks_11 ?_
  refine x_imul (pc := 12) g dX8_tracks_12 ?_
  refine x_icmp_ge (pc := 13) (tgt := 40) g (by decide) dX8_tracks_13 ?_ ?_
  · refine x_iload_n (pc := 40) g rfl 3 rfl dX8_tracks_40 ?_
    exact x_ireturn (pc := 41) g hrt dX8_tracks_41
  · refine x_aload_n (pc := 16) g rfl 0 rfl dX8_tracks_16 ?_
    refine x_iload (pc := 17) g 4 rfl dX8_tracks_17 ?_
    refine x_iload_n (pc := 19) g rfl 1 rfl dX8_tracks_19 ?_
    refine x_iload_n (pc := 20) g rfl 2 rfl dX8_tracks_20 ?_
    refine x_callVI (pc := 21) (As := [.int x2, .int a0, .int a1]) g sh_1 (mc_X8_leavesTracks N x2 a0 a1) cw_X8_leavesTracks lk_X8_79 rfl ⟨Nat.le_of_ble_eq_true rfl, Nat.le_of_ble_eq_true rfl⟩ rfl (Nat.le_of_ble_eq_true rfl) dX8_tracks_21 (fun v1 σ2 => ?_)
    refine x_jn (fun (j34 : Int32 → Sx → Option (Int32 × Sx)) => ∀ (x3 : Int32) (σ3 : Sx), XTx p l e { frames := 2, cells := 0, slots := 0, locals := 47 } s m args below meth c D al cA ba 5 (MQx rvI D al cA ba below args s) 0 0 34 [(0, .ref (al 1)), (1, .int a0), (2, .int a1), (3, .int x3), (4, .int x2)] [] σ3 (j34 x3 σ3)) (fun x3 σ3 => ?_) (fun j34 hj34 => ?_)
    · refine x_iinc (pc := 34) (v := (x2 + (1 : Int32))) (lv' := [(4, .int (x2 + (1 : Int32))), (0, .ref (al 1)), (1, .int a0), (2, .int a1), (3, .int x3)]) g 4 rfl (by rfl) (by decide) rfl dX8_tracks_34 ?_
      refine x_goto (pc := 37) (tgt := 5) g (by decide) dX8_tracks_37 ?_
      refine x_lv [1, 2, 3, 4, 0] rfl ?_
      exact hr5 x3 (x2 + (1 : Int32)) σ3
    · refine x_if_eq (pc := 24) (tgt := 34) g (by decide) dX8_tracks_24 ?_ ?_
      · exact hj34 x1 σ2
      · refine x_iload_n (pc := 27) g rfl 3 rfl dX8_tracks_27 ?_
        refine x_iconst (pc := 28) (v := (1 : Int32)) g (by decide) dX8_tracks_28 ?_
        refine x_iload (pc := 29) g 4 rfl dX8_tracks_29 ?_
        refine x_ishl (pc := 31) g dX8_tracks_31 ?_
        refine x_ior (pc := 32) g dX8_tracks_32 ?_
        refine x_nm (fun v2 => ?_)
        refine x_istore_n (pc := 33) (lv' := [(3, .int v2), (0, .ref (al 1)), (1, .int a0), (2, .int a1), (4, .int x2)]) g rfl (by decide) rfl dX8_tracks_33 ?_
        refine x_lv [1, 2, 3, 0, 4] rfl ?_
        exact hj34 v2 σ2
def F_X8_allWaysOf (a0 : Int32) (σ0 : Sx) : Option (Int32 × Sx) := some ((jshl (15 : Int32) ((4 : Int32) * a0)), σ0)
set_option maxRecDepth 100000 in
set_option maxHeartbeats 4000000 in
theorem mc_X8_allWaysOf {D : va_G} {al : Nat → Nat} {cA : Nat → ClassId} {ba : Nat} (a0 : Int32) : MCx D al cA ba yX8_allWaysOf cX8_allWaysOf 1 (some .int) 0 0 rvI [.int a0] (F_X8_allWaysOf a0) := by
  refine MCx_of (by decide +kernel) (Nat.le_of_ble_eq_true rfl) ?_
  intro p l e s m args below meth c σ0 g hrt
  unfold F_X8_allWaysOf
  refine x_lv (lv' := [(0, .int a0)]) [0] rfl ?_
  refine x_bipush (pc := 0) (v := (15 : Int32)) g (by decide) dX8_allWaysOf_0 ?_
  refine x_iconst (pc := 2) (v := (4 : Int32)) g (by decide) dX8_allWaysOf_2 ?_
  refine x_iload_n (pc := 3) g rfl 0 rfl dX8_allWaysOf_3 ?_
  refine x_imul (pc := 4) g dX8_allWaysOf_4 ?_
  refine x_ishl (pc := 5) g dX8_allWaysOf_5 ?_
  exact x_ireturn (pc := 6) g hrt dX8_allWaysOf_6
def F_X8_walkersOf (a0 : Int32) (σ0 : Sx) : Option (Int32 × Sx) := nmx ((a0 ||| (jshr a0 (1 : Int32)))) (fun v1 => nmx ((v1 ||| (jshr v1 (2 : Int32)))) (fun v2 => some ((((((v2 &&& (1 : Int32)) ||| ((jshr v2 (3 : Int32)) &&& (2 : Int32))) ||| ((jshr v2 (6 : Int32)) &&& (4 : Int32))) ||| ((jshr v2 (9 : Int32)) &&& (8 : Int32))) ||| ((jshr v2 (12 : Int32)) &&& (16 : Int32))), σ0)))
set_option maxRecDepth 100000 in
set_option maxHeartbeats 4000000 in
theorem mc_X8_walkersOf {D : va_G} {al : Nat → Nat} {cA : Nat → ClassId} {ba : Nat} (a0 : Int32) : MCx D al cA ba yX8_walkersOf cX8_walkersOf 2 (some .int) 0 0 rvI [.int a0] (F_X8_walkersOf a0) := by
  refine MCx_of (by decide +kernel) (Nat.le_of_ble_eq_true rfl) ?_
  intro p l e s m args below meth c σ0 g hrt
  unfold F_X8_walkersOf
  refine x_lv (lv' := [(0, .int a0)]) [0] rfl ?_
  refine x_iload_n (pc := 0) g rfl 0 rfl dX8_walkersOf_0 ?_
  refine x_iload_n (pc := 1) g rfl 0 rfl dX8_walkersOf_1 ?_
  refine x_iconst (pc := 2) (v := (1 : Int32)) g (by decide) dX8_walkersOf_2 ?_
  refine x_ishr (pc := 3) g dX8_walkersOf_3 ?_
  refine x_ior (pc := 4) g dX8_walkersOf_4 ?_
  refine x_nm (fun v1 => ?_)
  refine x_istore_n (pc := 5) (lv' := [(1, .int v1), (0, .int a0)]) g rfl (by decide) rfl dX8_walkersOf_5 ?_
  refine x_iload_n (pc := 6) g rfl 0 rfl dX8_walkersOf_6 ?_
  refine x_iload_n (pc := 7) g rfl 0 rfl dX8_walkersOf_7 ?_
  refine x_iconst (pc := 8) (v := (2 : Int32)) g (by decide) dX8_walkersOf_8 ?_
  refine x_ishr (pc := 9) g dX8_walkersOf_9 ?_
  refine x_ior (pc := 10) g dX8_walkersOf_10 ?_
  refine x_nm (fun v2 => ?_)
  refine x_istore_n (pc := 11) (lv' := [(1, .int v2), (0, .int a0)]) g rfl (by decide) rfl dX8_walkersOf_11 ?_
  refine x_iload_n (pc := 12) g rfl 0 rfl dX8_walkersOf_12 ?_
  refine x_iconst (pc := 13) (v := (1 : Int32)) g (by decide) dX8_walkersOf_13 ?_
  refine x_iand (pc := 14) g dX8_walkersOf_14 ?_
  refine x_iload_n (pc := 15) g rfl 0 rfl dX8_walkersOf_15 ?_
  refine x_iconst (pc := 16) (v := (3 : Int32)) g (by decide) dX8_walkersOf_16 ?_
  refine x_ishr (pc := 17) g dX8_walkersOf_17 ?_
  refine x_iconst (pc := 18) (v := (2 : Int32)) g (by decide) dX8_walkersOf_18 ?_
  refine x_iand (pc := 19) g dX8_walkersOf_19 ?_
  refine x_ior (pc := 20) g dX8_walkersOf_20 ?_
  refine x_iload_n (pc := 21) g rfl 0 rfl dX8_walkersOf_21 ?_
  refine x_bipush (pc := 22) (v := (6 : Int32)) g (by decide) dX8_walkersOf_22 ?_
  refine x_ishr (pc := 24) g dX8_walkersOf_24 ?_
  refine x_iconst (pc := 25) (v := (4 : Int32)) g (by decide) dX8_walkersOf_25 ?_
  refine x_iand (pc := 26) g dX8_walkersOf_26 ?_
  refine x_ior (pc := 27) g dX8_walkersOf_27 ?_
  refine x_iload_n (pc := 28) g rfl 0 rfl dX8_walkersOf_28 ?_
  refine x_bipush (pc := 29) (v := (9 : Int32)) g (by decide) dX8_walkersOf_29 ?_
  refine x_ishr (pc := 31) g dX8_walkersOf_31 ?_
  refine x_bipush (pc := 32) (v := (8 : Int32)) g (by decide) dX8_walkersOf_32 ?_
  refine x_iand (pc := 34) g dX8_walkersOf_34 ?_
  refine x_ior (pc := 35) g dX8_walkersOf_35 ?_
  refine x_iload_n (pc := 36) g rfl 0 rfl dX8_walkersOf_36 ?_
  refine x_bipush (pc := 37) (v := (12 : Int32)) g (by decide) dX8_walkersOf_37 ?_
  refine x_ishr (pc := 39) g dX8_walkersOf_39 ?_
  refine x_bipush (pc := 40) (v := (16 : Int32)) g (by decide) dX8_walkersOf_40 ?_
  refine x_iand (pc := 42) g dX8_walkersOf_42 ?_
  refine x_ior (pc := 43) g dX8_walkersOf_43 ?_
  exact x_ireturn (pc := 44) g hrt dX8_walkersOf_44
def F_X8_choice (a0 : Int32) (a1 : Int32) (σ0 : Sx) : Option (Int32 × Sx) := some (((jshr a0 ((2 : Int32) * a1)) &&& (3 : Int32)), σ0)
set_option maxRecDepth 100000 in
set_option maxHeartbeats 4000000 in
theorem mc_X8_choice {D : va_G} {al : Nat → Nat} {cA : Nat → ClassId} {ba : Nat} (a0 : Int32) (a1 : Int32) : MCx D al cA ba yX8_choice cX8_choice 2 (some .int) 0 0 rvI [.int a0, .int a1] (F_X8_choice a0 a1) := by
  refine MCx_of (by decide +kernel) (Nat.le_of_ble_eq_true rfl) ?_
  intro p l e s m args below meth c σ0 g hrt
  unfold F_X8_choice
  refine x_lv (lv' := [(0, .int a0), (1, .int a1)]) [0, 1] rfl ?_
  refine x_iload_n (pc := 0) g rfl 0 rfl dX8_choice_0 ?_
  refine x_iconst (pc := 1) (v := (2 : Int32)) g (by decide) dX8_choice_1 ?_
  refine x_iload_n (pc := 2) g rfl 1 rfl dX8_choice_2 ?_
  refine x_imul (pc := 3) g dX8_choice_3 ?_
  refine x_ishr (pc := 4) g dX8_choice_4 ?_
  refine x_iconst (pc := 5) (v := (3 : Int32)) g (by decide) dX8_choice_5 ?_
  refine x_iand (pc := 6) g dX8_choice_6 ?_
  exact x_ireturn (pc := 7) g hrt dX8_choice_7
def F_X8_told (a0 : Int32) (a1 : Int32) (σ0 : Sx) : Option (Int32 × Sx) := (if a1 = (3 : Int32) then aRx 8 (a0 / (10 : Int32)) (fun k12 => aIx (27 + k12) 8 (jrem a0 (10 : Int32)) σ0 (fun v2 => some (v2, σ0))) else aRx 3 a1 (fun k11 => aIx (23 + k11) 5 a0 σ0 (fun v1 => some (v1, σ0))))
set_option maxRecDepth 100000 in
set_option maxHeartbeats 4000000 in
theorem mc_X8_told {D : va_G} {al : Nat → Nat} {cA : Nat → ClassId} {ba : Nat} (a0 : Int32) (a1 : Int32) : MCx D al cA ba yX8_told cX8_told 3 (some .int) 0 0 rvI [.ref (al 1), .int a0, .int a1] (F_X8_told a0 a1) := by
  refine MCx_of (by decide +kernel) (Nat.le_of_ble_eq_true rfl) ?_
  intro p l e s m args below meth c σ0 g hrt
  unfold F_X8_told
  refine x_lv (lv' := [(0, .ref (al 1)), (1, .int a0), (2, .int a1)]) [0, 1, 2] rfl ?_
  refine x_iload_n (pc := 0) g rfl 2 rfl dX8_told_0 ?_
  refine x_iconst (pc := 1) (v := (3 : Int32)) g (by decide) dX8_told_1 ?_
  refine x_icmp_ne (pc := 2) (tgt := 22) g (by decide) dX8_told_2 ?_ ?_
  · refine x_aload_n (pc := 22) g rfl 0 rfl dX8_told_22 ?_
    refine x_getR (pc := 23) g sh_1 fl_X8_11 rfl dX8_told_23 ?_
    refine x_iload_n (pc := 26) g rfl 2 rfl dX8_told_26 ?_
    refine x_aaldR (pc := 27) g sh_22 (by decide) dX8_told_27 (fun k11 hk11 => ?_)
    refine x_iload_n (pc := 28) g rfl 1 rfl dX8_told_28 ?_
    refine x_iald (pc := 29) g (shf_23 k11 hk11) (by decide) dX8_told_29 (fun v1 => ?_)
    exact x_ireturn (pc := 30) g hrt dX8_told_30
  · refine x_aload_n (pc := 5) g rfl 0 rfl dX8_told_5 ?_
    refine x_getR (pc := 6) g sh_1 fl_X8_16 rfl dX8_told_6 ?_
    refine x_iload_n (pc := 9) g rfl 1 rfl dX8_told_9 ?_
    refine x_bipush (pc := 10) (v := (10 : Int32)) g (by decide) dX8_told_10 ?_
    refine x_idiv (pc := 12) g (by decide) dX8_told_12 ?_
    refine x_aaldR (pc := 13) g sh_26 (by decide) dX8_told_13 (fun k12 hk12 => ?_)
    refine x_iload_n (pc := 14) g rfl 1 rfl dX8_told_14 ?_
    refine x_bipush (pc := 15) (v := (10 : Int32)) g (by decide) dX8_told_15 ?_
    refine x_irem (pc := 17) g (by decide) dX8_told_17 ?_
    refine x_iald (pc := 18) g (shf_27 k12 hk12) (by decide) dX8_told_18 (fun v2 => ?_)
    refine x_goto (pc := 19) (tgt := 30) g (by decide) dX8_told_19 ?_
    exact x_ireturn (pc := 30) g hrt dX8_told_30
def F_X8_wayOn (a0 : Int32) (a1 : Int32) (σ0 : Sx) : Option (Int32 × Sx) := clx (F_X8_choice a0 a1 σ0) (fun v1 σ1 => clx (F_X8_wayIndex a1 v1 σ1) (fun v2 σ2 => some (v2, σ2)))
set_option maxRecDepth 100000 in
set_option maxHeartbeats 4000000 in
theorem mc_X8_wayOn {D : va_G} {al : Nat → Nat} {cA : Nat → ClassId} {ba : Nat} (a0 : Int32) (a1 : Int32) : MCx D al cA ba yX8_wayOn cX8_wayOn 2 (some .int) 1 21 rvI [.int a0, .int a1] (F_X8_wayOn a0 a1) := by
  refine MCx_of (by decide +kernel) (Nat.le_of_ble_eq_true rfl) ?_
  intro p l e s m args below meth c σ0 g hrt
  unfold F_X8_wayOn
  refine x_lv (lv' := [(0, .int a0), (1, .int a1)]) [0, 1] rfl ?_
  refine x_iload_n (pc := 0) g rfl 1 rfl dX8_wayOn_0 ?_
  refine x_iload_n (pc := 1) g rfl 0 rfl dX8_wayOn_1 ?_
  refine x_iload_n (pc := 2) g rfl 1 rfl dX8_wayOn_2 ?_
  refine x_callSI (pc := 3) (As := [.int a0, .int a1]) g (mc_X8_choice a0 a1) cw_X8_choice lk_X8_38 rfl ⟨Nat.le_of_ble_eq_true rfl, Nat.le_of_ble_eq_true rfl⟩ rfl (Nat.le_of_ble_eq_true rfl) dX8_wayOn_3 (fun v1 σ1 => ?_)
  refine x_callSI (pc := 6) (As := [.int a1, .int v1]) g (mc_X8_wayIndex a1 v1) cw_X8_wayIndex lk_X8_42 rfl ⟨Nat.le_of_ble_eq_true rfl, Nat.le_of_ble_eq_true rfl⟩ rfl (Nat.le_of_ble_eq_true rfl) dX8_wayOn_6 (fun v2 σ2 => ?_)
  exact x_ireturn (pc := 9) g hrt dX8_wayOn_9
def B_X8_waysOn_L4 (N : Nat) (a0 : Int32) (r4 : Int32 → Int32 → Sx → Option (Int32 × Sx)) (x1 : Int32) (x2 : Int32) (σ1 : Sx) : Option (Int32 × Sx) := (if (siI σ1 1 0) ≤ x2 then some (x1, σ1) else clx (F_X8_wayOn a0 x2 σ1) (fun v1 σ2 => nmx ((x1 ||| (jshl (1 : Int32) v1))) (fun v2 => r4 v2 (x2 + (1 : Int32)) σ2)))
def F_X8_waysOn (N : Nat) (a0 : Int32) (σ0 : Sx) : Option (Int32 × Sx) := lpx2 (B_X8_waysOn_L4 N a0) N (0 : Int32) (0 : Int32) σ0
set_option maxRecDepth 100000 in
set_option maxHeartbeats 4000000 in
theorem mc_X8_waysOn {D : va_G} {al : Nat → Nat} {cA : Nat → ClassId} {ba : Nat} (N : Nat) (a0 : Int32) : MCx D al cA ba yX8_waysOn cX8_waysOn 4 (some .int) 2 42 rvI [.ref (al 1), .int a0] (F_X8_waysOn N a0) := by
  refine MCx_of (by decide +kernel) (Nat.le_of_ble_eq_true rfl) ?_
  intro p l e s m args below meth c σ0 g hrt
  unfold F_X8_waysOn
  refine x_lv (lv' := [(0, .ref (al 1)), (1, .int a0)]) [0, 1] rfl ?_
  refine x_iconst (pc := 0) (v := (0 : Int32)) g (by decide) dX8_waysOn_0 ?_
  refine x_istore_n (pc := 1) (lv' := [(2, .int (0 : Int32)), (0, .ref (al 1)), (1, .int a0)]) g rfl (by decide) rfl dX8_waysOn_1 ?_
  refine x_iconst (pc := 2) (v := (0 : Int32)) g (by decide) dX8_waysOn_2 ?_
  refine x_istore_n (pc := 3) (lv' := [(3, .int (0 : Int32)), (2, .int (0 : Int32)), (0, .ref (al 1)), (1, .int a0)]) g rfl (by decide) rfl dX8_waysOn_3 ?_
  refine x_lv [2, 3, 1, 0] rfl ?_
  refine lpx2_ind (fun (x1 : Int32) (x2 : Int32) (σ1 : Sx) (K : Option (Int32 × Sx)) => XTx p l e { frames := 2, cells := 0, slots := 0, locals := 42 } s m args below meth c D al cA ba 4 (MQx rvI D al cA ba below args s) 0 0 4 [(0, .ref (al 1)), (1, .int a0), (2, .int x1), (3, .int x2)] [] σ1 (K)) (fun _ _ _ => x_no) (fun r4 hr4 x1 x2 σ1 => ?_) N (0 : Int32) (0 : Int32) σ0
  show XTx p l e { frames := 2, cells := 0, slots := 0, locals := 42 } s m args below meth c D al cA ba 4 (MQx rvI D al cA ba below args s) 0 0 4 [(0, .ref (al 1)), (1, .int a0), (2, .int x1), (3, .int x2)] [] σ1 (B_X8_waysOn_L4 N a0 r4 x1 x2 σ1)
  unfold B_X8_waysOn_L4
  refine x_iload_n (pc := 4) g rfl 3 rfl dX8_waysOn_4 ?_
  refine x_aload_n (pc := 5) g rfl 0 rfl dX8_waysOn_5 ?_
  refine x_getI (pc := 6) g sh_1 fl_X8_51 rfl dX8_waysOn_6 ?_
  refine x_icmp_ge (pc := 9) (tgt := 28) g (by decide) dX8_waysOn_9 ?_ ?_
  · refine x_iload_n (pc := 28) g rfl 2 rfl dX8_waysOn_28 ?_
    exact x_ireturn (pc := 29) g hrt dX8_waysOn_29
  · refine x_iload_n (pc := 12) g rfl 2 rfl dX8_waysOn_12 ?_
    refine x_iconst (pc := 13) (v := (1 : Int32)) g (by decide) dX8_waysOn_13 ?_
    refine x_iload_n (pc := 14) g rfl 1 rfl dX8_waysOn_14 ?_
    refine x_iload_n (pc := 15) g rfl 3 rfl dX8_waysOn_15 ?_
    refine x_callSI (pc := 16) (As := [.int a0, .int x2]) g (mc_X8_wayOn a0 x2) cw_X8_wayOn lk_X8_76 rfl ⟨Nat.le_of_ble_eq_true rfl, Nat.le_of_ble_eq_true rfl⟩ rfl (Nat.le_of_ble_eq_true rfl) dX8_waysOn_16 (fun v1 σ2 => ?_)
    refine x_ishl (pc := 19) g dX8_waysOn_19 ?_
    refine x_ior (pc := 20) g dX8_waysOn_20 ?_
    refine x_nm (fun v2 => ?_)
    refine x_istore_n (pc := 21) (lv' := [(2, .int v2), (0, .ref (al 1)), (1, .int a0), (3, .int x2)]) g rfl (by decide) rfl dX8_waysOn_21 ?_
    refine x_iinc (pc := 22) (v := (x2 + (1 : Int32))) (lv' := [(3, .int (x2 + (1 : Int32))), (2, .int v2), (0, .ref (al 1)), (1, .int a0)]) g 3 rfl (by rfl) (by decide) rfl dX8_waysOn_22 ?_
    refine x_goto (pc := 25) (tgt := 4) g (by decide) dX8_waysOn_25 ?_
    refine x_lv [2, 3, 1, 0] rfl ?_
    exact hr4 v2 (x2 + (1 : Int32)) σ2
def B_X8_placeAt_L2 (N : Nat) (a0 : Int32) (a1 : Int32) (j24 : Int32 → Sx → Option (Int32 × Sx)) (r2 : Int32 → Sx → Option (Int32 × Sx)) (x2 : Int32) (σ2 : Sx) : Option (Int32 × Sx) := aIx 36 20 a0 σ2 (fun v2 => (if v2 ≤ x2 then some ((-2 : Int32), σ2) else aRx 20 a0 (fun k12 => aIx (59 + k12) 8 x2 σ2 (fun v3 => (if v3 = a1 then j24 x2 σ2 else r2 (x2 + (1 : Int32)) σ2)))))
def F_X8_placeAt (N : Nat) (a0 : Int32) (a1 : Int32) (σ0 : Sx) : Option (Int32 × Sx) := nmx (fun (x1 : Int32) (σ1 : Sx) => aRx 20 a0 (fun k11 => aIx (38 + k11) 8 x1 σ1 (fun v1 => some (v1, σ1)))) (fun (j24 : Int32 → Sx → Option (Int32 × Sx)) => lpx1 (B_X8_placeAt_L2 N a0 a1 j24) N (0 : Int32) σ0)
set_option maxRecDepth 100000 in
set_option maxHeartbeats 4000000 in
theorem mc_X8_placeAt {D : va_G} {al : Nat → Nat} {cA : Nat → ClassId} {ba : Nat} (N : Nat) (a0 : Int32) (a1 : Int32) : MCx D al cA ba yX8_placeAt cX8_placeAt 4 (some .int) 0 0 rvI [.ref (al 1), .int a0, .int a1] (F_X8_placeAt N a0 a1) := by
  refine MCx_of (by decide +kernel) (Nat.le_of_ble_eq_true rfl) ?_
  intro p l e s m args below meth c σ0 g hrt
  unfold F_X8_placeAt
  refine x_lv (lv' := [(0, .ref (al 1)), (1, .int a0), (2, .int a1)]) [0, 1, 2] rfl ?_
  refine x_iconst (pc := 0) (v := (0 : Int32)) g (by decide) dX8_placeAt_0 ?_
  refine x_istore_n (pc := 1) (lv' := [(3, .int (0 : Int32)), (0, .ref (al 1)), (1, .int a0), (2, .int a1)]) g rfl (by decide) rfl dX8_placeAt_1 ?_
  refine x_jn (fun (j24 : Int32 → Sx → Option (Int32 × Sx)) => ∀ (x1 : Int32) (σ1 : Sx), XTx p l e { frames := 0, cells := 0, slots := 0, locals := 0 } s m args below meth c D al cA ba 4 (MQx rvI D al cA ba below args s) 0 0 24 [(0, .ref (al 1)), (1, .int a0), (3, .int x1)] [] σ1 (j24 x1 σ1)) (fun x1 σ1 => ?_) (fun j24 hj24 => ?_)
  · refine x_aload_n (pc := 24) g rfl 0 rfl dX8_placeAt_24 ?_
    refine x_getR (pc := 25) g sh_1 fl_X8_26 rfl dX8_placeAt_25 ?_
    refine x_iload_n (pc := 28) g rfl 1 rfl dX8_placeAt_28 ?_
    refine x_aaldR (pc := 29) g sh_37 (by decide) dX8_placeAt_29 (fun k11 hk11 => ?_)
    refine x_iload_n (pc := 30) g rfl 2 rfl dX8_placeAt_30 ?_
    refine x_iald (pc := 31) g (shf_38 k11 hk11) (by decide) dX8_placeAt_31 (fun v1 => ?_)
    exact x_ireturn (pc := 32) g hrt dX8_placeAt_32
  · refine x_lv [1, 2, 3, 0] rfl ?_
    refine lpx1_ind (fun (x2 : Int32) (σ2 : Sx) (K : Option (Int32 × Sx)) => XTx p l e { frames := 0, cells := 0, slots := 0, locals := 0 } s m args below meth c D al cA ba 4 (MQx rvI D al cA ba below args s) 0 0 2 [(0, .ref (al 1)), (1, .int a0), (2, .int a1), (3, .int x2)] [] σ2 (K)) (fun _ _ => x_no) (fun r2 hr2 x2 σ2 => ?_) N (0 : Int32) σ0
    show XTx p l e { frames := 0, cells := 0, slots := 0, locals := 0 } s m args below meth c D al cA ba 4 (MQx rvI D al cA ba below args s) 0 0 2 [(0, .ref (al 1)), (1, .int a0), (2, .int a1), (3, .int x2)] [] σ2 (B_X8_placeAt_L2 N a0 a1 j24 r2 x2 σ2)
    unfold B_X8_placeAt_L2
    refine x_iload_n (pc := 2) g rfl 3 rfl dX8_placeAt_2 ?_
    refine x_aload_n (pc := 3) g rfl 0 rfl dX8_placeAt_3 ?_
    refine x_getR (pc := 4) g sh_1 fl_X8_23 rfl dX8_placeAt_4 ?_
    refine x_iload_n (pc := 7) g rfl 1 rfl dX8_placeAt_7 ?_
    refine x_iald (pc := 8) g sh_36 (by decide) dX8_placeAt_8 (fun v2 => ?_)
    refine x_icmp_ge (pc := 9) (tgt := 39) g (by decide) dX8_placeAt_9 ?_ ?_
    · refine x_bipush (pc := 39) (v := (-2 : Int32)) g (by decide) dX8_placeAt_39 ?_
      exact x_ireturn (pc := 41) g hrt dX8_placeAt_41
    · refine x_aload_n (pc := 12) g rfl 0 rfl dX8_placeAt_12 ?_
      refine x_getR (pc := 13) g sh_1 fl_X8_29 rfl dX8_placeAt_13 ?_
      refine x_iload_n (pc := 16) g rfl 1 rfl dX8_placeAt_16 ?_
      refine x_aaldR (pc := 17) g sh_58 (by decide) dX8_placeAt_17 (fun k12 hk12 => ?_)
      refine x_iload_n (pc := 18) g rfl 3 rfl dX8_placeAt_18 ?_
      refine x_iald (pc := 19) g (shf_59 k12 hk12) (by decide) dX8_placeAt_19 (fun v3 => ?_)
      refine x_iload_n (pc := 20) g rfl 2 rfl dX8_placeAt_20 ?_
      refine x_icmp_ne (pc := 21) (tgt := 33) g (by decide) dX8_placeAt_21 ?_ ?_
      · refine x_iinc (pc := 33) (v := (x2 + (1 : Int32))) (lv' := [(3, .int (x2 + (1 : Int32))), (0, .ref (al 1)), (1, .int a0), (2, .int a1)]) g 3 rfl (by rfl) (by decide) rfl dX8_placeAt_33 ?_
        refine x_goto (pc := 36) (tgt := 2) g (by decide) dX8_placeAt_36 ?_
        refine x_lv [1, 2, 3, 0] rfl ?_
        exact hr2 (x2 + (1 : Int32)) σ2
      · refine x_lv [0, 1, 3] rfl ?_
        exact hj24 x2 σ2
def B_X8_goesBy_L2 (N : Nat) (a0 : Int32) (a1 : Int32) (r2 : Int32 → Sx → Option (Int32 × Sx)) (x1 : Int32) (σ1 : Sx) : Option (Int32 × Sx) := aIx 36 20 a0 σ1 (fun v1 => (if v1 ≤ x1 then some ((0 : Int32), σ1) else aRx 20 a0 (fun k11 => aIx (38 + k11) 8 x1 σ1 (fun v2 => (if v2 = a1 then some ((1 : Int32), σ1) else r2 (x1 + (1 : Int32)) σ1)))))
def F_X8_goesBy (N : Nat) (a0 : Int32) (a1 : Int32) (σ0 : Sx) : Option (Int32 × Sx) := lpx1 (B_X8_goesBy_L2 N a0 a1) N (0 : Int32) σ0
set_option maxRecDepth 100000 in
set_option maxHeartbeats 4000000 in
theorem mc_X8_goesBy {D : va_G} {al : Nat → Nat} {cA : Nat → ClassId} {ba : Nat} (N : Nat) (a0 : Int32) (a1 : Int32) : MCx D al cA ba yX8_goesBy cX8_goesBy 4 (some .boolean) 0 0 rvI [.ref (al 1), .int a0, .int a1] (F_X8_goesBy N a0 a1) := by
  refine MCx_of (by decide +kernel) (Nat.le_of_ble_eq_true rfl) ?_
  intro p l e s m args below meth c σ0 g hrt
  unfold F_X8_goesBy
  refine x_lv (lv' := [(0, .ref (al 1)), (1, .int a0), (2, .int a1)]) [0, 1, 2] rfl ?_
  refine x_iconst (pc := 0) (v := (0 : Int32)) g (by decide) dX8_goesBy_0 ?_
  refine x_istore_n (pc := 1) (lv' := [(3, .int (0 : Int32)), (0, .ref (al 1)), (1, .int a0), (2, .int a1)]) g rfl (by decide) rfl dX8_goesBy_1 ?_
  refine x_lv [1, 2, 3, 0] rfl ?_
  refine lpx1_ind (fun (x1 : Int32) (σ1 : Sx) (K : Option (Int32 × Sx)) => XTx p l e { frames := 0, cells := 0, slots := 0, locals := 0 } s m args below meth c D al cA ba 4 (MQx rvI D al cA ba below args s) 0 0 2 [(0, .ref (al 1)), (1, .int a0), (2, .int a1), (3, .int x1)] [] σ1 (K)) (fun _ _ => x_no) (fun r2 hr2 x1 σ1 => ?_) N (0 : Int32) σ0
  show XTx p l e { frames := 0, cells := 0, slots := 0, locals := 0 } s m args below meth c D al cA ba 4 (MQx rvI D al cA ba below args s) 0 0 2 [(0, .ref (al 1)), (1, .int a0), (2, .int a1), (3, .int x1)] [] σ1 (B_X8_goesBy_L2 N a0 a1 r2 x1 σ1)
  unfold B_X8_goesBy_L2
  refine x_iload_n (pc := 2) g rfl 3 rfl dX8_goesBy_2 ?_
  refine x_aload_n (pc := 3) g rfl 0 rfl dX8_goesBy_3 ?_
  refine x_getR (pc := 4) g sh_1 fl_X8_23 rfl dX8_goesBy_4 ?_
  refine x_iload_n (pc := 7) g rfl 1 rfl dX8_goesBy_7 ?_
  refine x_iald (pc := 8) g sh_36 (by decide) dX8_goesBy_8 (fun v1 => ?_)
  refine x_icmp_ge (pc := 9) (tgt := 32) g (by decide) dX8_goesBy_9 ?_ ?_
  · refine x_iconst (pc := 32) (v := (0 : Int32)) g (by decide) dX8_goesBy_32 ?_
    exact x_zreturn (pc := 33) g hrt (by decide) dX8_goesBy_33
  · refine x_aload_n (pc := 12) g rfl 0 rfl dX8_goesBy_12 ?_
    refine x_getR (pc := 13) g sh_1 fl_X8_26 rfl dX8_goesBy_13 ?_
    refine x_iload_n (pc := 16) g rfl 1 rfl dX8_goesBy_16 ?_
    refine x_aaldR (pc := 17) g sh_37 (by decide) dX8_goesBy_17 (fun k11 hk11 => ?_)
    refine x_iload_n (pc := 18) g rfl 3 rfl dX8_goesBy_18 ?_
    refine x_iald (pc := 19) g (shf_38 k11 hk11) (by decide) dX8_goesBy_19 (fun v2 => ?_)
    refine x_iload_n (pc := 20) g rfl 2 rfl dX8_goesBy_20 ?_
    refine x_icmp_ne (pc := 21) (tgt := 26) g (by decide) dX8_goesBy_21 ?_ ?_
    · refine x_iinc (pc := 26) (v := (x1 + (1 : Int32))) (lv' := [(3, .int (x1 + (1 : Int32))), (0, .ref (al 1)), (1, .int a0), (2, .int a1)]) g 3 rfl (by rfl) (by decide) rfl dX8_goesBy_26 ?_
      refine x_goto (pc := 29) (tgt := 2) g (by decide) dX8_goesBy_29 ?_
      refine x_lv [1, 2, 3, 0] rfl ?_
      exact hr2 (x1 + (1 : Int32)) σ1
    · refine x_iconst (pc := 24) (v := (1 : Int32)) g (by decide) dX8_goesBy_24 ?_
      exact x_zreturn (pc := 25) g hrt (by decide) dX8_goesBy_25
def F_X8_tryLead (a0 : Int32) (a1 : Int32) (σ0 : Sx) : Option (Unit × Sx) := aRx 3 (0 : Int32) (fun k11 => sIx (23 + k11) 5 a0 a1 σ0 (fun σ1 => some ((), σ1)))
set_option maxRecDepth 100000 in
set_option maxHeartbeats 4000000 in
theorem mc_X8_tryLead {D : va_G} {al : Nat → Nat} {cA : Nat → ClassId} {ba : Nat} (a0 : Int32) (a1 : Int32) : MCx D al cA ba yX8_tryLead cX8_tryLead 3 none 0 0 rvU [.ref (al 1), .int a0, .int a1] (F_X8_tryLead a0 a1) := by
  refine MCx_of (by decide +kernel) (Nat.le_of_ble_eq_true rfl) ?_
  intro p l e s m args below meth c σ0 g hrt
  unfold F_X8_tryLead
  refine x_lv (lv' := [(0, .ref (al 1)), (1, .int a0), (2, .int a1)]) [0, 1, 2] rfl ?_
  refine x_aload_n (pc := 0) g rfl 0 rfl dX8_tryLead_0 ?_
  refine x_getR (pc := 1) g sh_1 fl_X8_11 rfl dX8_tryLead_1 ?_
  refine x_iconst (pc := 4) (v := (0 : Int32)) g (by decide) dX8_tryLead_4 ?_
  refine x_aaldR (pc := 5) g sh_22 (by decide) dX8_tryLead_5 (fun k11 hk11 => ?_)
  refine x_iload_n (pc := 6) g rfl 1 rfl dX8_tryLead_6 ?_
  refine x_iload_n (pc := 7) g rfl 2 rfl dX8_tryLead_7 ?_
  refine x_iast (pc := 8) g (shf_23 k11 hk11) (by decide) dX8_tryLead_8 (fun σ1 => ?_)
  exact x_return (pc := 9) g hrt dX8_tryLead_9
def F_X8_withWay (a0 : Int32) (a1 : Int32) (a2 : Int32) (σ0 : Sx) : Option (Int32 × Sx) := some (((a0 &&& ((jshl (3 : Int32) ((2 : Int32) * a1)) ^^^ (-1 : Int32))) ||| (jshl a2 ((2 : Int32) * a1))), σ0)
set_option maxRecDepth 100000 in
set_option maxHeartbeats 4000000 in
theorem mc_X8_withWay {D : va_G} {al : Nat → Nat} {cA : Nat → ClassId} {ba : Nat} (a0 : Int32) (a1 : Int32) (a2 : Int32) : MCx D al cA ba yX8_withWay cX8_withWay 3 (some .int) 0 0 rvI [.int a0, .int a1, .int a2] (F_X8_withWay a0 a1 a2) := by
  refine MCx_of (by decide +kernel) (Nat.le_of_ble_eq_true rfl) ?_
  intro p l e s m args below meth c σ0 g hrt
  unfold F_X8_withWay
  refine x_lv (lv' := [(0, .int a0), (1, .int a1), (2, .int a2)]) [0, 1, 2] rfl ?_
  refine x_iload_n (pc := 0) g rfl 0 rfl dX8_withWay_0 ?_
  refine x_iconst (pc := 1) (v := (3 : Int32)) g (by decide) dX8_withWay_1 ?_
  refine x_iconst (pc := 2) (v := (2 : Int32)) g (by decide) dX8_withWay_2 ?_
  refine x_iload_n (pc := 3) g rfl 1 rfl dX8_withWay_3 ?_
  refine x_imul (pc := 4) g dX8_withWay_4 ?_
  refine x_ishl (pc := 5) g dX8_withWay_5 ?_
  refine x_iconst (pc := 6) (v := (-1 : Int32)) g (by decide) dX8_withWay_6 ?_
  refine x_ixor (pc := 7) g dX8_withWay_7 ?_
  refine x_iand (pc := 8) g dX8_withWay_8 ?_
  refine x_iload_n (pc := 9) g rfl 2 rfl dX8_withWay_9 ?_
  refine x_iconst (pc := 10) (v := (2 : Int32)) g (by decide) dX8_withWay_10 ?_
  refine x_iload_n (pc := 11) g rfl 1 rfl dX8_withWay_11 ?_
  refine x_imul (pc := 12) g dX8_withWay_12 ?_
  refine x_ishl (pc := 13) g dX8_withWay_13 ?_
  refine x_ior (pc := 14) g dX8_withWay_14 ?_
  exact x_ireturn (pc := 15) g hrt dX8_withWay_15
def F_X8_mayBecome (a0 : Int32) (a1 : Int32) (σ0 : Sx) : Option (Int32 × Sx) := (if a0 < 0 then some ((0 : Int32), σ0) else (if (3 : Int32) < a0 then some ((0 : Int32), σ0) else aSx [0, 0, 0, 1] a0 (fun v1 => (if a1 < v1 then some ((0 : Int32), σ0) else aSx [60, 200, 99, 30] a0 (fun v2 => (if v2 < a1 then some ((0 : Int32), σ0) else some ((1 : Int32), σ0)))))))
set_option maxRecDepth 100000 in
set_option maxHeartbeats 4000000 in
theorem mc_X8_mayBecome {D : va_G} {al : Nat → Nat} {cA : Nat → ClassId} {ba : Nat} (a0 : Int32) (a1 : Int32) : MCx D al cA ba yX8_mayBecome cX8_mayBecome 2 (some .boolean) 0 0 rvI [.int a0, .int a1] (F_X8_mayBecome a0 a1) := by
  refine MCx_of (by decide +kernel) (Nat.le_of_ble_eq_true rfl) ?_
  intro p l e s m args below meth c σ0 g hrt
  unfold F_X8_mayBecome
  refine x_lv (lv' := [(0, .int a0), (1, .int a1)]) [0, 1] rfl ?_
  refine x_iload_n (pc := 0) g rfl 0 rfl dX8_mayBecome_0 ?_
  refine x_if_lt (pc := 1) (tgt := 31) g (by decide) dX8_mayBecome_1 ?_ ?_
  · refine x_iconst (pc := 31) (v := (0 : Int32)) g (by decide) dX8_mayBecome_31 ?_
    exact x_zreturn (pc := 32) g hrt (by decide) dX8_mayBecome_32
  · refine x_iload_n (pc := 4) g rfl 0 rfl dX8_mayBecome_4 ?_
    refine x_iconst (pc := 5) (v := (3 : Int32)) g (by decide) dX8_mayBecome_5 ?_
    refine x_icmp_gt (pc := 6) (tgt := 31) g (by decide) dX8_mayBecome_6 ?_ ?_
    · refine x_iconst (pc := 31) (v := (0 : Int32)) g (by decide) dX8_mayBecome_31 ?_
      exact x_zreturn (pc := 32) g hrt (by decide) dX8_mayBecome_32
    · refine x_iload_n (pc := 9) g rfl 1 rfl dX8_mayBecome_9 ?_
      refine x_gets (pc := 10) (k := 0) g rfl gs_X8_45 dX8_mayBecome_10 (fun t1 ht1 => ?_)
      refine x_iload_n (pc := 13) g rfl 0 rfl dX8_mayBecome_13 ?_
      refine x_tald (pc := 14) (L := [0, 0, 0, 1]) g ht1 (by decide) dX8_mayBecome_14 (fun v1 => ?_)
      refine x_icmp_lt (pc := 15) (tgt := 31) g (by decide) dX8_mayBecome_15 ?_ ?_
      · refine x_iconst (pc := 31) (v := (0 : Int32)) g (by decide) dX8_mayBecome_31 ?_
        exact x_zreturn (pc := 32) g hrt (by decide) dX8_mayBecome_32
      · refine x_iload_n (pc := 18) g rfl 1 rfl dX8_mayBecome_18 ?_
        refine x_gets (pc := 19) (k := 1) g rfl gs_X8_48 dX8_mayBecome_19 (fun t2 ht2 => ?_)
        refine x_iload_n (pc := 22) g rfl 0 rfl dX8_mayBecome_22 ?_
        refine x_tald (pc := 23) (L := [60, 200, 99, 30]) g ht2 (by decide) dX8_mayBecome_23 (fun v2 => ?_)
        refine x_icmp_gt (pc := 24) (tgt := 31) g (by decide) dX8_mayBecome_24 ?_ ?_
        · refine x_iconst (pc := 31) (v := (0 : Int32)) g (by decide) dX8_mayBecome_31 ?_
          exact x_zreturn (pc := 32) g hrt (by decide) dX8_mayBecome_32
        · refine x_iconst (pc := 27) (v := (1 : Int32)) g (by decide) dX8_mayBecome_27 ?_
          refine x_goto (pc := 28) (tgt := 32) g (by decide) dX8_mayBecome_28 ?_
          exact x_zreturn (pc := 32) g hrt (by decide) dX8_mayBecome_32
def F_X8_isWalker (a0 : Int32) (σ0 : Sx) : Option (Int32 × Sx) := (if a0 < 0 then some ((0 : Int32), σ0) else (if (siI σ0 1 0) ≤ a0 then some ((0 : Int32), σ0) else some ((1 : Int32), σ0)))
set_option maxRecDepth 100000 in
set_option maxHeartbeats 4000000 in
theorem mc_X8_isWalker {D : va_G} {al : Nat → Nat} {cA : Nat → ClassId} {ba : Nat} (a0 : Int32) : MCx D al cA ba yX8_isWalker cX8_isWalker 2 (some .boolean) 0 0 rvI [.ref (al 1), .int a0] (F_X8_isWalker a0) := by
  refine MCx_of (by decide +kernel) (Nat.le_of_ble_eq_true rfl) ?_
  intro p l e s m args below meth c σ0 g hrt
  unfold F_X8_isWalker
  refine x_lv (lv' := [(0, .ref (al 1)), (1, .int a0)]) [0, 1] rfl ?_
  refine x_iload_n (pc := 0) g rfl 1 rfl dX8_isWalker_0 ?_
  refine x_if_lt (pc := 1) (tgt := 16) g (by decide) dX8_isWalker_1 ?_ ?_
  · refine x_iconst (pc := 16) (v := (0 : Int32)) g (by decide) dX8_isWalker_16 ?_
    exact x_zreturn (pc := 17) g hrt (by decide) dX8_isWalker_17
  · refine x_iload_n (pc := 4) g rfl 1 rfl dX8_isWalker_4 ?_
    refine x_aload_n (pc := 5) g rfl 0 rfl dX8_isWalker_5 ?_
    refine x_getI (pc := 6) g sh_1 fl_X8_51 rfl dX8_isWalker_6 ?_
    refine x_icmp_ge (pc := 9) (tgt := 16) g (by decide) dX8_isWalker_9 ?_ ?_
    · refine x_iconst (pc := 16) (v := (0 : Int32)) g (by decide) dX8_isWalker_16 ?_
      exact x_zreturn (pc := 17) g hrt (by decide) dX8_isWalker_17
    · refine x_iconst (pc := 12) (v := (1 : Int32)) g (by decide) dX8_isWalker_12 ?_
      refine x_goto (pc := 13) (tgt := 17) g (by decide) dX8_isWalker_13 ?_
      exact x_zreturn (pc := 17) g hrt (by decide) dX8_isWalker_17
def F_X8_isWay (a0 : Int32) (a1 : Int32) (σ0 : Sx) : Option (Int32 × Sx) := clx (F_X8_isWalker a0 σ0) (fun v1 σ1 => (if v1 = 0 then some ((0 : Int32), σ1) else (if a1 < 0 then some ((0 : Int32), σ1) else aIx 35 5 a0 σ1 (fun v2 => (if v2 ≤ a1 then some ((0 : Int32), σ1) else some ((1 : Int32), σ1))))))
set_option maxRecDepth 100000 in
set_option maxHeartbeats 4000000 in
theorem mc_X8_isWay {D : va_G} {al : Nat → Nat} {cA : Nat → ClassId} {ba : Nat} (a0 : Int32) (a1 : Int32) : MCx D al cA ba yX8_isWay cX8_isWay 3 (some .boolean) 1 21 rvI [.ref (al 1), .int a0, .int a1] (F_X8_isWay a0 a1) := by
  refine MCx_of (by decide +kernel) (Nat.le_of_ble_eq_true rfl) ?_
  intro p l e s m args below meth c σ0 g hrt
  unfold F_X8_isWay
  refine x_lv (lv' := [(0, .ref (al 1)), (1, .int a0), (2, .int a1)]) [0, 1, 2] rfl ?_
  refine x_aload_n (pc := 0) g rfl 0 rfl dX8_isWay_0 ?_
  refine x_iload_n (pc := 1) g rfl 1 rfl dX8_isWay_1 ?_
  refine x_callVI (pc := 2) (As := [.int a0]) g sh_1 (mc_X8_isWalker a0) cw_X8_isWalker lk_X8_55 rfl ⟨Nat.le_of_ble_eq_true rfl, Nat.le_of_ble_eq_true rfl⟩ rfl (Nat.le_of_ble_eq_true rfl) dX8_isWay_2 (fun v1 σ1 => ?_)
  refine x_if_eq (pc := 5) (tgt := 26) g (by decide) dX8_isWay_5 ?_ ?_
  · refine x_iconst (pc := 26) (v := (0 : Int32)) g (by decide) dX8_isWay_26 ?_
    exact x_zreturn (pc := 27) g hrt (by decide) dX8_isWay_27
  · refine x_iload_n (pc := 8) g rfl 2 rfl dX8_isWay_8 ?_
    refine x_if_lt (pc := 9) (tgt := 26) g (by decide) dX8_isWay_9 ?_ ?_
    · refine x_iconst (pc := 26) (v := (0 : Int32)) g (by decide) dX8_isWay_26 ?_
      exact x_zreturn (pc := 27) g hrt (by decide) dX8_isWay_27
    · refine x_iload_n (pc := 12) g rfl 2 rfl dX8_isWay_12 ?_
      refine x_aload_n (pc := 13) g rfl 0 rfl dX8_isWay_13 ?_
      refine x_getR (pc := 14) g sh_1 fl_X8_19 rfl dX8_isWay_14 ?_
      refine x_iload_n (pc := 17) g rfl 1 rfl dX8_isWay_17 ?_
      refine x_iald (pc := 18) g sh_35 (by decide) dX8_isWay_18 (fun v2 => ?_)
      refine x_icmp_ge (pc := 19) (tgt := 26) g (by decide) dX8_isWay_19 ?_ ?_
      · refine x_iconst (pc := 26) (v := (0 : Int32)) g (by decide) dX8_isWay_26 ?_
        exact x_zreturn (pc := 27) g hrt (by decide) dX8_isWay_27
      · refine x_iconst (pc := 22) (v := (1 : Int32)) g (by decide) dX8_isWay_22 ?_
        refine x_goto (pc := 23) (tgt := 27) g (by decide) dX8_isWay_23 ?_
        exact x_zreturn (pc := 27) g hrt (by decide) dX8_isWay_27
def B_X8_isDay_L15 (N : Nat) (a0 : Int32) (r15 : Int32 → Sx → Option (Int32 × Sx)) (x1 : Int32) (σ1 : Sx) : Option (Int32 × Sx) := (if (5 : Int32) ≤ x1 then some ((1 : Int32), σ1) else clx (F_X8_choice a0 x1 σ1) (fun v1 σ2 => nmx (fun (σ3 : Sx) => r15 (x1 + (1 : Int32)) σ3) (fun (j42 : Sx → Option (Int32 × Sx)) => (if v1 = 0 then j42 σ2 else aIx 35 5 x1 σ2 (fun v2 => (if v1 < v2 then j42 σ2 else some ((0 : Int32), σ2)))))))
def F_X8_isDay (N : Nat) (a0 : Int32) (σ0 : Sx) : Option (Int32 × Sx) := (if a0 < 0 then some ((0 : Int32), σ0) else (if a0 < (1024 : Int32) then lpx1 (B_X8_isDay_L15 N a0) N (0 : Int32) σ0 else some ((0 : Int32), σ0)))
set_option maxRecDepth 100000 in
set_option maxHeartbeats 4000000 in
theorem mc_X8_isDay {D : va_G} {al : Nat → Nat} {cA : Nat → ClassId} {ba : Nat} (N : Nat) (a0 : Int32) : MCx D al cA ba yX8_isDay cX8_isDay 4 (some .boolean) 1 21 rvI [.ref (al 1), .int a0] (F_X8_isDay N a0) := by
  refine MCx_of (by decide +kernel) (Nat.le_of_ble_eq_true rfl) ?_
  intro p l e s m args below meth c σ0 g hrt
  unfold F_X8_isDay
  refine x_lv (lv' := [(0, .ref (al 1)), (1, .int a0)]) [0, 1] rfl ?_
  refine x_iload_n (pc := 0) g rfl 1 rfl dX8_isDay_0 ?_
  refine x_if_lt (pc := 1) (tgt := 11) g (by decide) dX8_isDay_1 ?_ ?_
  · refine x_iconst (pc := 11) (v := (0 : Int32)) g (by decide) dX8_isDay_11 ?_
    exact x_zreturn (pc := 12) g hrt (by decide) dX8_isDay_12
  · refine x_iload_n (pc := 4) g rfl 1 rfl dX8_isDay_4 ?_
    refine x_sipush (pc := 5) (v := (1024 : Int32)) g (by decide) dX8_isDay_5 ?_
    refine x_icmp_lt (pc := 8) (tgt := 13) g (by decide) dX8_isDay_8 ?_ ?_
    · refine x_iconst (pc := 13) (v := (0 : Int32)) g (by decide) dX8_isDay_13 ?_
      refine x_istore_n (pc := 14) (lv' := [(2, .int (0 : Int32)), (0, .ref (al 1)), (1, .int a0)]) g rfl (by decide) rfl dX8_isDay_14 ?_
      refine x_lv [1, 2, 0] rfl ?_
      refine lpx1_ind (fun (x1 : Int32) (σ1 : Sx) (K : Option (Int32 × Sx)) => XTx p l e { frames := 1, cells := 0, slots := 0, locals := 21 } s m args below meth c D al cA ba 4 (MQx rvI D al cA ba below args s) 0 0 15 [(0, .ref (al 1)), (1, .int a0), (2, .int x1)] [] σ1 (K)) (fun _ _ => x_no) (fun r15 hr15 x1 σ1 => ?_) N (0 : Int32) σ0
      show XTx p l e { frames := 1, cells := 0, slots := 0, locals := 21 } s m args below meth c D al cA ba 4 (MQx rvI D al cA ba below args s) 0 0 15 [(0, .ref (al 1)), (1, .int a0), (2, .int x1)] [] σ1 (B_X8_isDay_L15 N a0 r15 x1 σ1)
      unfold B_X8_isDay_L15
      refine x_iload_n (pc := 15) g rfl 2 rfl dX8_isDay_15 ?_
      refine x_iconst (pc := 16) (v := (5 : Int32)) g (by decide) dX8_isDay_16 ?_
      refine x_icmp_ge (pc := 17) (tgt := 48) g (by decide) dX8_isDay_17 ?_ ?_
      · refine x_iconst (pc := 48) (v := (1 : Int32)) g (by decide) dX8_isDay_48 ?_
        exact x_zreturn (pc := 49) g hrt (by decide) dX8_isDay_49
      · refine x_iload_n (pc := 20) g rfl 1 rfl dX8_isDay_20 ?_
        refine x_iload_n (pc := 21) g rfl 2 rfl dX8_isDay_21 ?_
        refine x_callSI (pc := 22) (As := [.int a0, .int x1]) g (mc_X8_choice a0 x1) cw_X8_choice lk_X8_38 rfl ⟨Nat.le_of_ble_eq_true rfl, Nat.le_of_ble_eq_true rfl⟩ rfl (Nat.le_of_ble_eq_true rfl) dX8_isDay_22 (fun v1 σ2 => ?_)
        refine x_istore_n (pc := 25) (lv' := [(3, .int v1), (0, .ref (al 1)), (1, .int a0), (2, .int x1)]) g rfl (by decide) rfl dX8_isDay_25 ?_
        refine x_iload_n (pc := 26) g rfl 0 rfl dX8_isDay_26 ?_
        refine x_jn (fun (j42 : Sx → Option (Int32 × Sx)) => ∀ (σ3 : Sx), XTx p l e { frames := 1, cells := 0, slots := 0, locals := 21 } s m args below meth c D al cA ba 4 (MQx rvI D al cA ba below args s) 0 0 42 [(0, .ref (al 1)), (1, .int a0), (2, .int x1)] [] σ3 (j42 σ3)) (fun σ3 => ?_) (fun j42 hj42 => ?_)
        · refine x_iinc (pc := 42) (v := (x1 + (1 : Int32))) (lv' := [(2, .int (x1 + (1 : Int32))), (0, .ref (al 1)), (1, .int a0)]) g 2 rfl (by rfl) (by decide) rfl dX8_isDay_42 ?_
          refine x_goto (pc := 45) (tgt := 15) g (by decide) dX8_isDay_45 ?_
          refine x_lv [1, 2, 0] rfl ?_
          exact hr15 (x1 + (1 : Int32)) σ3
        · refine x_if_eq (pc := 27) (tgt := 42) g (by decide) dX8_isDay_27 ?_ ?_
          · refine x_lv [1, 2, 3] rfl ?_
            exact hj42 σ2
          · refine x_iload_n (pc := 30) g rfl 0 rfl dX8_isDay_30 ?_
            refine x_aload_n (pc := 31) g rfl 1 rfl dX8_isDay_31 ?_
            refine x_getR (pc := 32) g sh_1 fl_X8_19 rfl dX8_isDay_32 ?_
            refine x_iload_n (pc := 35) g rfl 3 rfl dX8_isDay_35 ?_
            refine x_iald (pc := 36) g sh_35 (by decide) dX8_isDay_36 (fun v2 => ?_)
            refine x_icmp_lt (pc := 37) (tgt := 42) g (by decide) dX8_isDay_37 ?_ ?_
            · refine x_lv [1, 2, 3] rfl ?_
              exact hj42 σ2
            · refine x_iconst (pc := 40) (v := (0 : Int32)) g (by decide) dX8_isDay_40 ?_
              exact x_zreturn (pc := 41) g hrt (by decide) dX8_isDay_41
    · refine x_iconst (pc := 11) (v := (0 : Int32)) g (by decide) dX8_isDay_11 ?_
      exact x_zreturn (pc := 12) g hrt (by decide) dX8_isDay_12
def F_X8_isTold (a0 : Int32) (a1 : Int32) (σ0 : Sx) : Option (Int32 × Sx) := (if a1 = (3 : Int32) then (if a0 < 0 then some ((0 : Int32), σ0) else clx (F_X9_isPlace (a0 / (10 : Int32)) σ0) (fun v2 σ2 => (if v2 = 0 then some ((0 : Int32), σ2) else clx (F_X9_isPlace (jrem a0 (10 : Int32)) σ2) (fun v3 σ3 => (if v3 = 0 then some ((0 : Int32), σ3) else (if (a0 / (10 : Int32)) = (jrem a0 (10 : Int32)) then some ((0 : Int32), σ3) else some ((1 : Int32), σ3))))))) else (if a1 < 0 then some ((0 : Int32), σ0) else (if (2 : Int32) < a1 then some ((0 : Int32), σ0) else clx (F_X8_isWalker a0 σ0) (fun v1 σ1 => (if v1 = 0 then some ((0 : Int32), σ1) else some ((1 : Int32), σ1))))))
set_option maxRecDepth 100000 in
set_option maxHeartbeats 4000000 in
theorem mc_X8_isTold {D : va_G} {al : Nat → Nat} {cA : Nat → ClassId} {ba : Nat} (a0 : Int32) (a1 : Int32) : MCx D al cA ba yX8_isTold cX8_isTold 3 (some .boolean) 1 21 rvI [.ref (al 1), .int a0, .int a1] (F_X8_isTold a0 a1) := by
  refine MCx_of (by decide +kernel) (Nat.le_of_ble_eq_true rfl) ?_
  intro p l e s m args below meth c σ0 g hrt
  unfold F_X8_isTold
  refine x_lv (lv' := [(0, .ref (al 1)), (1, .int a0), (2, .int a1)]) [0, 1, 2] rfl ?_
  refine x_iload_n (pc := 0) g rfl 2 rfl dX8_isTold_0 ?_
  refine x_iconst (pc := 1) (v := (3 : Int32)) g (by decide) dX8_isTold_1 ?_
  refine x_icmp_ne (pc := 2) (tgt := 46) g (by decide) dX8_isTold_2 ?_ ?_
  · refine x_iload_n (pc := 46) g rfl 2 rfl dX8_isTold_46 ?_
    refine x_if_lt (pc := 47) (tgt := 67) g (by decide) dX8_isTold_47 ?_ ?_
    · refine x_iconst (pc := 67) (v := (0 : Int32)) g (by decide) dX8_isTold_67 ?_
      exact x_zreturn (pc := 68) g hrt (by decide) dX8_isTold_68
    · refine x_iload_n (pc := 50) g rfl 2 rfl dX8_isTold_50 ?_
      refine x_iconst (pc := 51) (v := (2 : Int32)) g (by decide) dX8_isTold_51 ?_
      refine x_icmp_gt (pc := 52) (tgt := 67) g (by decide) dX8_isTold_52 ?_ ?_
      · refine x_iconst (pc := 67) (v := (0 : Int32)) g (by decide) dX8_isTold_67 ?_
        exact x_zreturn (pc := 68) g hrt (by decide) dX8_isTold_68
      · refine x_aload_n (pc := 55) g rfl 0 rfl dX8_isTold_55 ?_
        refine x_iload_n (pc := 56) g rfl 1 rfl dX8_isTold_56 ?_
        refine x_callVI (pc := 57) (As := [.int a0]) g sh_1 (mc_X8_isWalker a0) cw_X8_isWalker lk_X8_55 rfl ⟨Nat.le_of_ble_eq_true rfl, Nat.le_of_ble_eq_true rfl⟩ rfl (Nat.le_of_ble_eq_true rfl) dX8_isTold_57 (fun v1 σ1 => ?_)
        refine x_if_eq (pc := 60) (tgt := 67) g (by decide) dX8_isTold_60 ?_ ?_
        · refine x_iconst (pc := 67) (v := (0 : Int32)) g (by decide) dX8_isTold_67 ?_
          exact x_zreturn (pc := 68) g hrt (by decide) dX8_isTold_68
        · refine x_iconst (pc := 63) (v := (1 : Int32)) g (by decide) dX8_isTold_63 ?_
          refine x_goto (pc := 64) (tgt := 68) g (by decide) dX8_isTold_64 ?_
          exact x_zreturn (pc := 68) g hrt (by decide) dX8_isTold_68
  · refine x_iload_n (pc := 5) g rfl 1 rfl dX8_isTold_5 ?_
    refine x_if_lt (pc := 6) (tgt := 44) g (by decide) dX8_isTold_6 ?_ ?_
    · refine x_iconst (pc := 44) (v := (0 : Int32)) g (by decide) dX8_isTold_44 ?_
      exact x_zreturn (pc := 45) g hrt (by decide) dX8_isTold_45
    · refine x_iload_n (pc := 9) g rfl 1 rfl dX8_isTold_9 ?_
      refine x_bipush (pc := 10) (v := (10 : Int32)) g (by decide) dX8_isTold_10 ?_
      refine x_idiv (pc := 12) g (by decide) dX8_isTold_12 ?_
      refine x_callNI (pc := 13) (As := [.int (a0 / (10 : Int32))]) g (mc_X9_isPlace (a0 / (10 : Int32))) cw_X9_isPlace rfl rfl rfl rfl ⟨Nat.le_of_ble_eq_true rfl, Nat.le_of_ble_eq_true rfl⟩ rfl (Nat.le_of_ble_eq_true rfl) dX8_isTold_13 (fun v2 σ2 => ?_)
      refine x_if_eq (pc := 16) (tgt := 44) g (by decide) dX8_isTold_16 ?_ ?_
      · refine x_iconst (pc := 44) (v := (0 : Int32)) g (by decide) dX8_isTold_44 ?_
        exact x_zreturn (pc := 45) g hrt (by decide) dX8_isTold_45
      · refine x_iload_n (pc := 19) g rfl 1 rfl dX8_isTold_19 ?_
        refine x_bipush (pc := 20) (v := (10 : Int32)) g (by decide) dX8_isTold_20 ?_
        refine x_irem (pc := 22) g (by decide) dX8_isTold_22 ?_
        refine x_callNI (pc := 23) (As := [.int (jrem a0 (10 : Int32))]) g (mc_X9_isPlace (jrem a0 (10 : Int32))) cw_X9_isPlace rfl rfl rfl rfl ⟨Nat.le_of_ble_eq_true rfl, Nat.le_of_ble_eq_true rfl⟩ rfl (Nat.le_of_ble_eq_true rfl) dX8_isTold_23 (fun v3 σ3 => ?_)
        refine x_if_eq (pc := 26) (tgt := 44) g (by decide) dX8_isTold_26 ?_ ?_
        · refine x_iconst (pc := 44) (v := (0 : Int32)) g (by decide) dX8_isTold_44 ?_
          exact x_zreturn (pc := 45) g hrt (by decide) dX8_isTold_45
        · refine x_iload_n (pc := 29) g rfl 1 rfl dX8_isTold_29 ?_
          refine x_bipush (pc := 30) (v := (10 : Int32)) g (by decide) dX8_isTold_30 ?_
          refine x_idiv (pc := 32) g (by decide) dX8_isTold_32 ?_
          refine x_iload_n (pc := 33) g rfl 1 rfl dX8_isTold_33 ?_
          refine x_bipush (pc := 34) (v := (10 : Int32)) g (by decide) dX8_isTold_34 ?_
          refine x_irem (pc := 36) g (by decide) dX8_isTold_36 ?_
          refine x_icmp_eq (pc := 37) (tgt := 44) g (by decide) dX8_isTold_37 ?_ ?_
          · refine x_iconst (pc := 44) (v := (0 : Int32)) g (by decide) dX8_isTold_44 ?_
            exact x_zreturn (pc := 45) g hrt (by decide) dX8_isTold_45
          · refine x_iconst (pc := 40) (v := (1 : Int32)) g (by decide) dX8_isTold_40 ?_
            refine x_goto (pc := 41) (tgt := 45) g (by decide) dX8_isTold_41 ?_
            exact x_zreturn (pc := 45) g hrt (by decide) dX8_isTold_45
def F_X8_addWalker (σ0 : Sx) : Option (Int32 × Sx) := nmx ((siI σ0 1 0)) (fun v1 => aRx 3 (0 : Int32) (fun k11 => sIx (23 + k11) 5 v1 (10 : Int32) σ0 (fun σ1 => aRx 3 (1 : Int32) (fun k12 => sIx (23 + k12) 5 v1 (0 : Int32) σ1 (fun σ2 => aRx 3 (2 : Int32) (fun k13 => sIx (23 + k13) 5 v1 (10 : Int32) σ2 (fun σ3 => pIx 1 0 ((siI σ3 1 0) + (1 : Int32)) σ3 (fun σ4 => some (v1, σ4)))))))))
set_option maxRecDepth 100000 in
set_option maxHeartbeats 4000000 in
theorem mc_X8_addWalker {D : va_G} {al : Nat → Nat} {cA : Nat → ClassId} {ba : Nat}  : MCx D al cA ba yX8_addWalker cX8_addWalker 2 (some .int) 0 0 rvI [.ref (al 1)] (F_X8_addWalker ) := by
  refine MCx_of (by decide +kernel) (Nat.le_of_ble_eq_true rfl) ?_
  intro p l e s m args below meth c σ0 g hrt
  unfold F_X8_addWalker
  refine x_lv (lv' := [(0, .ref (al 1))]) [0] rfl ?_
  refine x_aload_n (pc := 0) g rfl 0 rfl dX8_addWalker_0 ?_
  refine x_getI (pc := 1) g sh_1 fl_X8_51 rfl dX8_addWalker_1 ?_
  refine x_nm (fun v1 => ?_)
  refine x_istore_n (pc := 4) (lv' := [(1, .int v1), (0, .ref (al 1))]) g rfl (by decide) rfl dX8_addWalker_4 ?_
  refine x_aload_n (pc := 5) g rfl 1 rfl dX8_addWalker_5 ?_
  refine x_getR (pc := 6) g sh_1 fl_X8_11 rfl dX8_addWalker_6 ?_
  refine x_iconst (pc := 9) (v := (0 : Int32)) g (by decide) dX8_addWalker_9 ?_
  refine x_aaldR (pc := 10) g sh_22 (by decide) dX8_addWalker_10 (fun k11 hk11 => ?_)
  refine x_iload_n (pc := 11) g rfl 0 rfl dX8_addWalker_11 ?_
  refine x_bipush (pc := 12) (v := (10 : Int32)) g (by decide) dX8_addWalker_12 ?_
  refine x_iast (pc := 14) g (shf_23 k11 hk11) (by decide) dX8_addWalker_14 (fun σ1 => ?_)
  refine x_aload_n (pc := 15) g rfl 1 rfl dX8_addWalker_15 ?_
  refine x_getR (pc := 16) g sh_1 fl_X8_11 rfl dX8_addWalker_16 ?_
  refine x_iconst (pc := 19) (v := (1 : Int32)) g (by decide) dX8_addWalker_19 ?_
  refine x_aaldR (pc := 20) g sh_22 (by decide) dX8_addWalker_20 (fun k12 hk12 => ?_)
  refine x_iload_n (pc := 21) g rfl 0 rfl dX8_addWalker_21 ?_
  refine x_iconst (pc := 22) (v := (0 : Int32)) g (by decide) dX8_addWalker_22 ?_
  refine x_iast (pc := 23) g (shf_23 k12 hk12) (by decide) dX8_addWalker_23 (fun σ2 => ?_)
  refine x_aload_n (pc := 24) g rfl 1 rfl dX8_addWalker_24 ?_
  refine x_getR (pc := 25) g sh_1 fl_X8_11 rfl dX8_addWalker_25 ?_
  refine x_iconst (pc := 28) (v := (2 : Int32)) g (by decide) dX8_addWalker_28 ?_
  refine x_aaldR (pc := 29) g sh_22 (by decide) dX8_addWalker_29 (fun k13 hk13 => ?_)
  refine x_iload_n (pc := 30) g rfl 0 rfl dX8_addWalker_30 ?_
  refine x_bipush (pc := 31) (v := (10 : Int32)) g (by decide) dX8_addWalker_31 ?_
  refine x_iast (pc := 33) g (shf_23 k13 hk13) (by decide) dX8_addWalker_33 (fun σ3 => ?_)
  refine x_aload_n (pc := 34) g rfl 1 rfl dX8_addWalker_34 ?_
  refine x_dup (pc := 35) g rfl dX8_addWalker_35 ?_
  refine x_getI (pc := 36) g sh_1 fl_X8_51 rfl dX8_addWalker_36 ?_
  refine x_iconst (pc := 39) (v := (1 : Int32)) g (by decide) dX8_addWalker_39 ?_
  refine x_iadd (pc := 40) g dX8_addWalker_40 ?_
  refine x_putI (pc := 41) g sh_1 fl_X8_51 rfl dX8_addWalker_41 (fun σ4 => ?_)
  refine x_iload_n (pc := 44) g rfl 0 rfl dX8_addWalker_44 ?_
  exact x_ireturn (pc := 45) g hrt dX8_addWalker_45
def B_X8_addWay_L19 (N : Nat) (k2 : Nat) (a2 : Int32) (a3 : Int32) (v2 : Int32) (j49 : Sx → Option (Int32 × Sx)) (r19 : Int32 → Sx → Option (Int32 × Sx)) (x1 : Int32) (σ6 : Sx) : Option (Int32 × Sx) := (if a3 ≤ x1 then j49 σ6 else aRx 20 v2 (fun k11 => aLx (16 + k2) 60 (a2 + x1) σ6 (fun z1 => sIx (38 + k11) 8 x1 z1.toInt32 σ6 (fun σ7 => r19 (x1 + (1 : Int32)) σ7))))
def F_X8_addWay (N : Nat) (a0 : Int32) (k2 : Nat) (a2 : Int32) (a3 : Int32) (σ0 : Sx) : Option (Int32 × Sx) := aIx 35 5 a0 σ0 (fun v1 => clx (F_X8_wayIndex a0 v1 σ0) (fun v2 σ1 => nmx (fun (σ2 : Sx) => sIx 36 20 v2 a3 σ2 (fun σ3 => aIx 35 5 a0 σ3 (fun v3 => sIx 35 5 a0 (v3 + (1 : Int32)) σ3 (fun σ4 => clx (F_X8_reckon N v2 σ4) (fun _ σ5 => some (v1, σ5)))))) (fun (j49 : Sx → Option (Int32 × Sx)) => lpx1 (B_X8_addWay_L19 N k2 a2 a3 v2 j49) N (0 : Int32) σ1)))
set_option maxRecDepth 100000 in
set_option maxHeartbeats 4000000 in
theorem mc_X8_addWay {D : va_G} {al : Nat → Nat} {cA : Nat → ClassId} {ba : Nat} (N : Nat) (a0 : Int32) (k2 : Nat) (hk2 : k2 < 6) (a2 : Int32) (a3 : Int32) : MCx D al cA ba yX8_addWay cX8_addWay 8 (some .int) 2 45 rvI [.ref (al 1), .int a0, .ref (al (16 + k2)), .int a2, .int a3] (F_X8_addWay N a0 k2 a2 a3) := by
  refine MCx_of (by decide +kernel) (Nat.le_of_ble_eq_true rfl) ?_
  intro p l e s m args below meth c σ0 g hrt
  unfold F_X8_addWay
  refine x_lv (lv' := [(0, .ref (al 1)), (1, .int a0), (2, .ref (al (16 + k2))), (3, .int a2), (4, .int a3)]) [0, 1, 2, 3, 4] rfl ?_
  refine x_aload_n (pc := 0) g rfl 0 rfl dX8_addWay_0 ?_
  refine x_getR (pc := 1) g sh_1 fl_X8_19 rfl dX8_addWay_1 ?_
  refine x_iload_n (pc := 4) g rfl 1 rfl dX8_addWay_4 ?_
  refine x_iald (pc := 5) g sh_35 (by decide) dX8_addWay_5 (fun v1 => ?_)
  refine x_istore (pc := 6) (lv' := [(5, .int v1), (0, .ref (al 1)), (1, .int a0), (2, .ref (al (16 + k2))), (3, .int a2), (4, .int a3)]) g (by decide) rfl dX8_addWay_6 ?_
  refine x_iload_n (pc := 8) g rfl 2 rfl dX8_addWay_8 ?_
  refine x_iload (pc := 9) g 0 rfl dX8_addWay_9 ?_
  refine x_callSI (pc := 11) (As := [.int a0, .int v1]) g (mc_X8_wayIndex a0 v1) cw_X8_wayIndex lk_X8_42 rfl ⟨Nat.le_of_ble_eq_true rfl, Nat.le_of_ble_eq_true rfl⟩ rfl (Nat.le_of_ble_eq_true rfl) dX8_addWay_11 (fun v2 σ1 => ?_)
  refine x_istore (pc := 14) (lv' := [(6, .int v2), (5, .int v1), (0, .ref (al 1)), (1, .int a0), (2, .ref (al (16 + k2))), (3, .int a2), (4, .int a3)]) g (by decide) rfl dX8_addWay_14 ?_
  refine x_iconst (pc := 16) (v := (0 : Int32)) g (by decide) dX8_addWay_16 ?_
  refine x_istore (pc := 17) (lv' := [(7, .int (0 : Int32)), (6, .int v2), (5, .int v1), (0, .ref (al 1)), (1, .int a0), (2, .ref (al (16 + k2))), (3, .int a2), (4, .int a3)]) g (by decide) rfl dX8_addWay_17 ?_
  refine x_jn (fun (j49 : Sx → Option (Int32 × Sx)) => ∀ (σ2 : Sx), XTx p l e { frames := 2, cells := 0, slots := 0, locals := 45 } s m args below meth c D al cA ba 8 (MQx rvI D al cA ba below args s) 0 0 49 [(0, .ref (al 1)), (1, .int a0), (4, .int a3), (5, .int v1), (6, .int v2)] [] σ2 (j49 σ2)) (fun σ2 => ?_) (fun j49 hj49 => ?_)
  · refine x_aload_n (pc := 49) g rfl 0 rfl dX8_addWay_49 ?_
    refine x_getR (pc := 50) g sh_1 fl_X8_23 rfl dX8_addWay_50 ?_
    refine x_iload (pc := 53) g 4 rfl dX8_addWay_53 ?_
    refine x_iload (pc := 55) g 2 rfl dX8_addWay_55 ?_
    refine x_iast (pc := 57) g sh_36 (by decide) dX8_addWay_57 (fun σ3 => ?_)
    refine x_aload_n (pc := 58) g rfl 0 rfl dX8_addWay_58 ?_
    refine x_getR (pc := 59) g sh_1 fl_X8_19 rfl dX8_addWay_59 ?_
    refine x_iload_n (pc := 62) g rfl 1 rfl dX8_addWay_62 ?_
    refine x_dup2 (pc := 63) g rfl rfl dX8_addWay_63 ?_
    refine x_iald (pc := 64) g sh_35 (by decide) dX8_addWay_64 (fun v3 => ?_)
    refine x_iconst (pc := 65) (v := (1 : Int32)) g (by decide) dX8_addWay_65 ?_
    refine x_iadd (pc := 66) g dX8_addWay_66 ?_
    refine x_iast (pc := 67) g sh_35 (by decide) dX8_addWay_67 (fun σ4 => ?_)
    refine x_aload_n (pc := 68) g rfl 0 rfl dX8_addWay_68 ?_
    refine x_iload (pc := 69) g 4 rfl dX8_addWay_69 ?_
    refine x_callVU (pc := 71) (As := [.int v2]) g sh_1 (mc_X8_reckon N v2) cw_X8_reckon lk_X8_65 rfl ⟨Nat.le_of_ble_eq_true rfl, Nat.le_of_ble_eq_true rfl⟩ rfl (Nat.le_of_ble_eq_true rfl) dX8_addWay_71 (fun _ σ5 => ?_)
    refine x_iload (pc := 74) g 3 rfl dX8_addWay_74 ?_
    exact x_ireturn (pc := 76) g hrt dX8_addWay_76
  · refine x_lv [3, 4, 5, 6, 7, 2, 1, 0] rfl ?_
    refine lpx1_ind (fun (x1 : Int32) (σ6 : Sx) (K : Option (Int32 × Sx)) => XTx p l e { frames := 2, cells := 0, slots := 0, locals := 45 } s m args below meth c D al cA ba 8 (MQx rvI D al cA ba below args s) 0 0 19 [(0, .ref (al 1)), (1, .int a0), (2, .ref (al (16 + k2))), (3, .int a2), (4, .int a3), (5, .int v1), (6, .int v2), (7, .int x1)] [] σ6 (K)) (fun _ _ => x_no) (fun r19 hr19 x1 σ6 => ?_) N (0 : Int32) σ1
    show XTx p l e { frames := 2, cells := 0, slots := 0, locals := 45 } s m args below meth c D al cA ba 8 (MQx rvI D al cA ba below args s) 0 0 19 [(0, .ref (al 1)), (1, .int a0), (2, .ref (al (16 + k2))), (3, .int a2), (4, .int a3), (5, .int v1), (6, .int v2), (7, .int x1)] [] σ6 (B_X8_addWay_L19 N k2 a2 a3 v2 j49 r19 x1 σ6)
    unfold B_X8_addWay_L19
    refine x_iload (pc := 19) g 7 rfl dX8_addWay_19 ?_
    refine x_iload (pc := 21) g 4 rfl dX8_addWay_21 ?_
    refine x_icmp_ge (pc := 23) (tgt := 49) g (by decide) dX8_addWay_23 ?_ ?_
    · refine x_lv [0, 1, 4, 5, 6] rfl ?_
      exact hj49 σ6
    · refine x_aload_n (pc := 26) g rfl 0 rfl dX8_addWay_26 ?_
      refine x_getR (pc := 27) g sh_1 fl_X8_26 rfl dX8_addWay_27 ?_
      refine x_iload (pc := 30) g 6 rfl dX8_addWay_30 ?_
      refine x_aaldR (pc := 32) g sh_37 (by decide) dX8_addWay_32 (fun k11 hk11 => ?_)
      refine x_iload (pc := 33) g 7 rfl dX8_addWay_33 ?_
      refine x_aload_n (pc := 35) g rfl 2 rfl dX8_addWay_35 ?_
      refine x_iload_n (pc := 36) g rfl 3 rfl dX8_addWay_36 ?_
      refine x_iload (pc := 37) g 7 rfl dX8_addWay_37 ?_
      refine x_iadd (pc := 39) g dX8_addWay_39 ?_
      refine x_lald (pc := 40) g (shf_16 k2 hk2) (by decide) dX8_addWay_40 (fun z1 => ?_)
      refine x_l2i (pc := 41) g dX8_addWay_41 ?_
      refine x_iast (pc := 42) g (shf_38 k11 hk11) (by decide) dX8_addWay_42 (fun σ7 => ?_)
      refine x_iinc (pc := 43) (v := (x1 + (1 : Int32))) (lv' := [(7, .int (x1 + (1 : Int32))), (0, .ref (al 1)), (1, .int a0), (2, .ref (al (16 + k2))), (3, .int a2), (4, .int a3), (5, .int v1), (6, .int v2)]) g 7 rfl (by rfl) (by decide) rfl dX8_addWay_43 ?_
      refine x_goto (pc := 46) (tgt := 19) g (by decide) dX8_addWay_46 ?_
      refine x_lv [1, 2, 3, 4, 5, 6, 7, 0] rfl ?_
      exact hr19 (x1 + (1 : Int32)) σ7
def B_X8_waysOfAll_L4 (N : Nat) (r4 : Int32 → Int32 → Sx → Option (Int32 × Sx)) (x1 : Int32) (x2 : Int32) (σ1 : Sx) : Option (Int32 × Sx) := (if (siI σ1 1 0) ≤ x2 then some (x1, σ1) else aIx 35 5 x2 σ1 (fun v1 => nmx ((x1 + v1)) (fun v2 => r4 v2 (x2 + (1 : Int32)) σ1)))
def F_X8_waysOfAll (N : Nat) (σ0 : Sx) : Option (Int32 × Sx) := lpx2 (B_X8_waysOfAll_L4 N) N (0 : Int32) (0 : Int32) σ0
set_option maxRecDepth 100000 in
set_option maxHeartbeats 4000000 in
theorem mc_X8_waysOfAll {D : va_G} {al : Nat → Nat} {cA : Nat → ClassId} {ba : Nat} (N : Nat)  : MCx D al cA ba yX8_waysOfAll cX8_waysOfAll 3 (some .int) 0 0 rvI [.ref (al 1)] (F_X8_waysOfAll N) := by
  refine MCx_of (by decide +kernel) (Nat.le_of_ble_eq_true rfl) ?_
  intro p l e s m args below meth c σ0 g hrt
  unfold F_X8_waysOfAll
  refine x_lv (lv' := [(0, .ref (al 1))]) [0] rfl ?_
  refine x_iconst (pc := 0) (v := (0 : Int32)) g (by decide) dX8_waysOfAll_0 ?_
  refine x_istore_n (pc := 1) (lv' := [(1, .int (0 : Int32)), (0, .ref (al 1))]) g rfl (by decide) rfl dX8_waysOfAll_1 ?_
  refine x_iconst (pc := 2) (v := (0 : Int32)) g (by decide) dX8_waysOfAll_2 ?_
  refine x_istore_n (pc := 3) (lv' := [(2, .int (0 : Int32)), (1, .int (0 : Int32)), (0, .ref (al 1))]) g rfl (by decide) rfl dX8_waysOfAll_3 ?_
  refine x_lv [2, 1, 0] rfl ?_
  refine lpx2_ind (fun (x1 : Int32) (x2 : Int32) (σ1 : Sx) (K : Option (Int32 × Sx)) => XTx p l e { frames := 0, cells := 0, slots := 0, locals := 0 } s m args below meth c D al cA ba 3 (MQx rvI D al cA ba below args s) 0 0 4 [(0, .ref (al 1)), (1, .int x1), (2, .int x2)] [] σ1 (K)) (fun _ _ _ => x_no) (fun r4 hr4 x1 x2 σ1 => ?_) N (0 : Int32) (0 : Int32) σ0
  show XTx p l e { frames := 0, cells := 0, slots := 0, locals := 0 } s m args below meth c D al cA ba 3 (MQx rvI D al cA ba below args s) 0 0 4 [(0, .ref (al 1)), (1, .int x1), (2, .int x2)] [] σ1 (B_X8_waysOfAll_L4 N r4 x1 x2 σ1)
  unfold B_X8_waysOfAll_L4
  refine x_iload_n (pc := 4) g rfl 2 rfl dX8_waysOfAll_4 ?_
  refine x_aload_n (pc := 5) g rfl 0 rfl dX8_waysOfAll_5 ?_
  refine x_getI (pc := 6) g sh_1 fl_X8_51 rfl dX8_waysOfAll_6 ?_
  refine x_icmp_ge (pc := 9) (tgt := 27) g (by decide) dX8_waysOfAll_9 ?_ ?_
  · refine x_iload_n (pc := 27) g rfl 1 rfl dX8_waysOfAll_27 ?_
    exact x_ireturn (pc := 28) g hrt dX8_waysOfAll_28
  · refine x_iload_n (pc := 12) g rfl 1 rfl dX8_waysOfAll_12 ?_
    refine x_aload_n (pc := 13) g rfl 0 rfl dX8_waysOfAll_13 ?_
    refine x_getR (pc := 14) g sh_1 fl_X8_19 rfl dX8_waysOfAll_14 ?_
    refine x_iload_n (pc := 17) g rfl 2 rfl dX8_waysOfAll_17 ?_
    refine x_iald (pc := 18) g sh_35 (by decide) dX8_waysOfAll_18 (fun v1 => ?_)
    refine x_iadd (pc := 19) g dX8_waysOfAll_19 ?_
    refine x_nm (fun v2 => ?_)
    refine x_istore_n (pc := 20) (lv' := [(1, .int v2), (0, .ref (al 1)), (2, .int x2)]) g rfl (by decide) rfl dX8_waysOfAll_20 ?_
    refine x_iinc (pc := 21) (v := (x2 + (1 : Int32))) (lv' := [(2, .int (x2 + (1 : Int32))), (1, .int v2), (0, .ref (al 1))]) g 2 rfl (by rfl) (by decide) rfl dX8_waysOfAll_21 ?_
    refine x_goto (pc := 24) (tgt := 4) g (by decide) dX8_waysOfAll_24 ?_
    refine x_lv [2, 1, 0] rfl ?_
    exact hr4 v2 (x2 + (1 : Int32)) σ1
def B_X8_meetingsOfTwo_L5 (N : Nat) (a0 : Int32) (a1 : Int32) (r5 : Int32 → Int32 → Sx → Option (Int32 × Sx)) (x1 : Int32) (x2 : Int32) (σ1 : Sx) : Option (Int32 × Sx) := aIx 36 20 a0 σ1 (fun v1 => (if v1 ≤ x2 then some (x1, σ1) else aRx 20 a0 (fun k11 => aIx (59 + k11) 8 x2 σ1 (fun v2 => clx (F_X8_placeAt N a1 v2 σ1) (fun v3 σ2 => aRx 20 a0 (fun k12 => aIx (38 + k12) 8 x2 σ2 (fun v4 => nmx (fun (x3 : Int32) (σ3 : Sx) => r5 x3 (x2 + (1 : Int32)) σ3) (fun (j45 : Int32 → Sx → Option (Int32 × Sx)) => (if v3 = v4 then j45 (x1 + (1 : Int32)) σ2 else j45 x1 σ2)))))))))
def F_X8_meetingsOfTwo (N : Nat) (a0 : Int32) (a1 : Int32) (σ0 : Sx) : Option (Int32 × Sx) := lpx2 (B_X8_meetingsOfTwo_L5 N a0 a1) N (0 : Int32) (0 : Int32) σ0
set_option maxRecDepth 100000 in
set_option maxHeartbeats 4000000 in
theorem mc_X8_meetingsOfTwo {D : va_G} {al : Nat → Nat} {cA : Nat → ClassId} {ba : Nat} (N : Nat) (a0 : Int32) (a1 : Int32) : MCx D al cA ba yX8_meetingsOfTwo cX8_meetingsOfTwo 5 (some .int) 1 23 rvI [.ref (al 1), .int a0, .int a1] (F_X8_meetingsOfTwo N a0 a1) := by
  refine MCx_of (by decide +kernel) (Nat.le_of_ble_eq_true rfl) ?_
  intro p l e s m args below meth c σ0 g hrt
  unfold F_X8_meetingsOfTwo
  refine x_lv (lv' := [(0, .ref (al 1)), (1, .int a0), (2, .int a1)]) [0, 1, 2] rfl ?_
  refine x_iconst (pc := 0) (v := (0 : Int32)) g (by decide) dX8_meetingsOfTwo_0 ?_
  refine x_istore_n (pc := 1) (lv' := [(3, .int (0 : Int32)), (0, .ref (al 1)), (1, .int a0), (2, .int a1)]) g rfl (by decide) rfl dX8_meetingsOfTwo_1 ?_
  refine x_iconst (pc := 2) (v := (0 : Int32)) g (by decide) dX8_meetingsOfTwo_2 ?_
  refine x_istore (pc := 3) (lv' := [(4, .int (0 : Int32)), (3, .int (0 : Int32)), (0, .ref (al 1)), (1, .int a0), (2, .int a1)]) g (by decide) rfl dX8_meetingsOfTwo_3 ?_
  refine x_lv [2, 3, 4, 1, 0] rfl ?_
  refine lpx2_ind (fun (x1 : Int32) (x2 : Int32) (σ1 : Sx) (K : Option (Int32 × Sx)) => XTx p l e { frames := 1, cells := 0, slots := 0, locals := 23 } s m args below meth c D al cA ba 5 (MQx rvI D al cA ba below args s) 0 0 5 [(0, .ref (al 1)), (1, .int a0), (2, .int a1), (3, .int x1), (4, .int x2)] [] σ1 (K)) (fun _ _ _ => x_no) (fun r5 hr5 x1 x2 σ1 => ?_) N (0 : Int32) (0 : Int32) σ0
  show XTx p l e { frames := 1, cells := 0, slots := 0, locals := 23 } s m args below meth c D al cA ba 5 (MQx rvI D al cA ba below args s) 0 0 5 [(0, .ref (al 1)), (1, .int a0), (2, .int a1), (3, .int x1), (4, .int x2)] [] σ1 (B_X8_meetingsOfTwo_L5 N a0 a1 r5 x1 x2 σ1)
  unfold B_X8_meetingsOfTwo_L5
  refine x_iload (pc := 5) g 4 rfl dX8_meetingsOfTwo_5 ?_
  refine x_aload_n (pc := 7) g rfl 0 rfl dX8_meetingsOfTwo_7 ?_
  refine x_getR (pc := 8) g sh_1 fl_X8_23 rfl dX8_meetingsOfTwo_8 ?_
  refine x_iload_n (pc := 11) g rfl 1 rfl dX8_meetingsOfTwo_11 ?_
  refine x_iald (pc := 12) g sh_36 (by decide) dX8_meetingsOfTwo_12 (fun v1 => ?_)
  refine x_icmp_ge (pc := 13) (tgt := 51) g (by decide) dX8_meetingsOfTwo_13 ?_ ?_
  · refine x_iload_n (pc := 51) g rfl 3 rfl dX8_meetingsOfTwo_51 ?_
    exact x_ireturn (pc := 52) g hrt dX8_meetingsOfTwo_52
  · refine x_aload_n (pc := 16) g rfl 0 rfl dX8_meetingsOfTwo_16 ?_
    refine x_iload_n (pc := 17) g rfl 2 rfl dX8_meetingsOfTwo_17 ?_
    refine x_aload_n (pc := 18) g rfl 0 rfl dX8_meetingsOfTwo_18 ?_
    refine x_getR (pc := 19) g sh_1 fl_X8_29 rfl dX8_meetingsOfTwo_19 ?_
    refine x_iload_n (pc := 22) g rfl 1 rfl dX8_meetingsOfTwo_22 ?_
    refine x_aaldR (pc := 23) g sh_58 (by decide) dX8_meetingsOfTwo_23 (fun k11 hk11 => ?_)
    refine x_iload (pc := 24) g 4 rfl dX8_meetingsOfTwo_24 ?_
    refine x_iald (pc := 26) g (shf_59 k11 hk11) (by decide) dX8_meetingsOfTwo_26 (fun v2 => ?_)
    refine x_callVI (pc := 27) (As := [.int a1, .int v2]) g sh_1 (mc_X8_placeAt N a1 v2) cw_X8_placeAt lk_X8_89 rfl ⟨Nat.le_of_ble_eq_true rfl, Nat.le_of_ble_eq_true rfl⟩ rfl (Nat.le_of_ble_eq_true rfl) dX8_meetingsOfTwo_27 (fun v3 σ2 => ?_)
    refine x_aload_n (pc := 30) g rfl 0 rfl dX8_meetingsOfTwo_30 ?_
    refine x_getR (pc := 31) g sh_1 fl_X8_26 rfl dX8_meetingsOfTwo_31 ?_
    refine x_iload_n (pc := 34) g rfl 1 rfl dX8_meetingsOfTwo_34 ?_
    refine x_aaldR (pc := 35) g sh_37 (by decide) dX8_meetingsOfTwo_35 (fun k12 hk12 => ?_)
    refine x_iload (pc := 36) g 4 rfl dX8_meetingsOfTwo_36 ?_
    refine x_iald (pc := 38) g (shf_38 k12 hk12) (by decide) dX8_meetingsOfTwo_38 (fun v4 => ?_)
    refine x_jn (fun (j45 : Int32 → Sx → Option (Int32 × Sx)) => ∀ (x3 : Int32) (σ3 : Sx), XTx p l e { frames := 1, cells := 0, slots := 0, locals := 23 } s m args below meth c D al cA ba 5 (MQx rvI D al cA ba below args s) 0 0 45 [(0, .ref (al 1)), (1, .int a0), (2, .int a1), (3, .int x3), (4, .int x2)] [] σ3 (j45 x3 σ3)) (fun x3 σ3 => ?_) (fun j45 hj45 => ?_)
    · refine x_iinc (pc := 45) (v := (x2 + (1 : Int32))) (lv' := [(4, .int (x2 + (1 : Int32))), (0, .ref (al 1)), (1, .int a0), (2, .int a1), (3, .int x3)]) g 4 rfl (by rfl) (by decide) rfl dX8_meetingsOfTwo_45 ?_
      refine x_goto (pc := 48) (tgt := 5) g (by decide) dX8_meetingsOfTwo_48 ?_
      refine x_lv [1, 2, 3, 4, 0] rfl ?_
      exact hr5 x3 (x2 + (1 : Int32)) σ3
    · refine x_icmp_ne (pc := 39) (tgt := 45) g (by decide) dX8_meetingsOfTwo_39 ?_ ?_
      · exact hj45 x1 σ2
      · refine x_iinc (pc := 42) (v := (x1 + (1 : Int32))) (lv' := [(3, .int (x1 + (1 : Int32))), (0, .ref (al 1)), (1, .int a0), (2, .int a1), (4, .int x2)]) g 3 rfl (by rfl) (by decide) rfl dX8_meetingsOfTwo_42 ?_
        refine x_lv [1, 2, 3, 0, 4] rfl ?_
        exact hj45 (x1 + (1 : Int32)) σ2
def B_X8_meetings_L17 (N : Nat) (a0 : Int32) (x2 : Int32) (j50 : Int32 → Sx → Option (Int32 × Sx)) (r17 : Int32 → Int32 → Sx → Option (Int32 × Sx)) (x4 : Int32) (x5 : Int32) (σ3 : Sx) : Option (Int32 × Sx) := (if (siI σ3 1 0) ≤ x5 then j50 x4 σ3 else clx (F_X8_wayOn a0 x2 σ3) (fun v2 σ4 => clx (F_X8_wayOn a0 x5 σ4) (fun v3 σ5 => clx (F_X8_meetingsOfTwo N v2 v3 σ5) (fun v4 σ6 => nmx ((x4 + v4)) (fun v5 => r17 v5 (x5 + (1 : Int32)) σ6)))))
def B_X8_meetings_L4 (N : Nat) (a0 : Int32) (r4 : Int32 → Int32 → Sx → Option (Int32 × Sx)) (x1 : Int32) (x2 : Int32) (σ1 : Sx) : Option (Int32 × Sx) := (if (siI σ1 1 0) ≤ x2 then some (x1, σ1) else nmx ((x2 + (1 : Int32))) (fun v1 => nmx (fun (x3 : Int32) (σ2 : Sx) => r4 x3 (x2 + (1 : Int32)) σ2) (fun (j50 : Int32 → Sx → Option (Int32 × Sx)) => lpx2 (B_X8_meetings_L17 N a0 x2 j50) N x1 v1 σ1)))
def F_X8_meetings (N : Nat) (a0 : Int32) (σ0 : Sx) : Option (Int32 × Sx) := lpx2 (B_X8_meetings_L4 N a0) N (0 : Int32) (0 : Int32) σ0
set_option maxRecDepth 100000 in
set_option maxHeartbeats 4000000 in
theorem mc_X8_meetings {D : va_G} {al : Nat → Nat} {cA : Nat → ClassId} {ba : Nat} (N : Nat) (a0 : Int32) : MCx D al cA ba yX8_meetings cX8_meetings 5 (some .int) 2 47 rvI [.ref (al 1), .int a0] (F_X8_meetings N a0) := by
  refine MCx_of (by decide +kernel) (Nat.le_of_ble_eq_true rfl) ?_
  intro p l e s m args below meth c σ0 g hrt
  unfold F_X8_meetings
  refine x_lv (lv' := [(0, .ref (al 1)), (1, .int a0)]) [0, 1] rfl ?_
  refine x_iconst (pc := 0) (v := (0 : Int32)) g (by decide) dX8_meetings_0 ?_
  refine x_istore_n (pc := 1) (lv' := [(2, .int (0 : Int32)), (0, .ref (al 1)), (1, .int a0)]) g rfl (by decide) rfl dX8_meetings_1 ?_
  refine x_iconst (pc := 2) (v := (0 : Int32)) g (by decide) dX8_meetings_2 ?_
  refine x_istore_n (pc := 3) (lv' := [(3, .int (0 : Int32)), (2, .int (0 : Int32)), (0, .ref (al 1)), (1, .int a0)]) g rfl (by decide) rfl dX8_meetings_3 ?_
  refine x_lv [2, 3, 1, 0] rfl ?_
  refine lpx2_ind (fun (x1 : Int32) (x2 : Int32) (σ1 : Sx) (K : Option (Int32 × Sx)) => XTx p l e { frames := 2, cells := 0, slots := 0, locals := 47 } s m args below meth c D al cA ba 5 (MQx rvI D al cA ba below args s) 0 0 4 [(0, .ref (al 1)), (1, .int a0), (2, .int x1), (3, .int x2)] [] σ1 (K)) (fun _ _ _ => x_no) (fun r4 hr4 x1 x2 σ1 => ?_) N (0 : Int32) (0 : Int32) σ0
  show XTx p l e { frames := 2, cells := 0, slots := 0, locals := 47 } s m args below meth c D al cA ba 5 (MQx rvI D al cA ba below args s) 0 0 4 [(0, .ref (al 1)), (1, .int a0), (2, .int x1), (3, .int x2)] [] σ1 (B_X8_meetings_L4 N a0 r4 x1 x2 σ1)
  unfold B_X8_meetings_L4
  refine x_iload_n (pc := 4) g rfl 3 rfl dX8_meetings_4 ?_
  refine x_aload_n (pc := 5) g rfl 0 rfl dX8_meetings_5 ?_
  refine x_getI (pc := 6) g sh_1 fl_X8_51 rfl dX8_meetings_6 ?_
  refine x_icmp_ge (pc := 9) (tgt := 56) g (by decide) dX8_meetings_9 ?_ ?_
  · refine x_iload_n (pc := 56) g rfl 2 rfl dX8_meetings_56 ?_
    exact x_ireturn (pc := 57) g hrt dX8_meetings_57
  · refine x_iload_n (pc := 12) g rfl 3 rfl dX8_meetings_12 ?_
    refine x_iconst (pc := 13) (v := (1 : Int32)) g (by decide) dX8_meetings_13 ?_
    refine x_iadd (pc := 14) g dX8_meetings_14 ?_
    refine x_nm (fun v1 => ?_)
    refine x_istore (pc := 15) (lv' := [(4, .int v1), (0, .ref (al 1)), (1, .int a0), (2, .int x1), (3, .int x2)]) g (by decide) rfl dX8_meetings_15 ?_
    refine x_jn (fun (j50 : Int32 → Sx → Option (Int32 × Sx)) => ∀ (x3 : Int32) (σ2 : Sx), XTx p l e { frames := 2, cells := 0, slots := 0, locals := 47 } s m args below meth c D al cA ba 5 (MQx rvI D al cA ba below args s) 0 0 50 [(0, .ref (al 1)), (1, .int a0), (2, .int x3), (3, .int x2)] [] σ2 (j50 x3 σ2)) (fun x3 σ2 => ?_) (fun j50 hj50 => ?_)
    · refine x_iinc (pc := 50) (v := (x2 + (1 : Int32))) (lv' := [(3, .int (x2 + (1 : Int32))), (0, .ref (al 1)), (1, .int a0), (2, .int x3)]) g 3 rfl (by rfl) (by decide) rfl dX8_meetings_50 ?_
      refine x_goto (pc := 53) (tgt := 4) g (by decide) dX8_meetings_53 ?_
      refine x_lv [1, 2, 3, 0] rfl ?_
      exact hr4 x3 (x2 + (1 : Int32)) σ2
    · refine x_lv [1, 2, 3, 4, 0] rfl ?_
      refine lpx2_ind (fun (x4 : Int32) (x5 : Int32) (σ3 : Sx) (K : Option (Int32 × Sx)) => XTx p l e { frames := 2, cells := 0, slots := 0, locals := 47 } s m args below meth c D al cA ba 5 (MQx rvI D al cA ba below args s) 0 0 17 [(0, .ref (al 1)), (1, .int a0), (2, .int x4), (3, .int x2), (4, .int x5)] [] σ3 (K)) (fun _ _ _ => x_no) (fun r17 hr17 x4 x5 σ3 => ?_) N x1 v1 σ1
      show XTx p l e { frames := 2, cells := 0, slots := 0, locals := 47 } s m args below meth c D al cA ba 5 (MQx rvI D al cA ba below args s) 0 0 17 [(0, .ref (al 1)), (1, .int a0), (2, .int x4), (3, .int x2), (4, .int x5)] [] σ3 (B_X8_meetings_L17 N a0 x2 j50 r17 x4 x5 σ3)
      unfold B_X8_meetings_L17
      refine x_iload (pc := 17) g 4 rfl dX8_meetings_17 ?_
      refine x_aload_n (pc := 19) g rfl 0 rfl dX8_meetings_19 ?_
      refine x_getI (pc := 20) g sh_1 fl_X8_51 rfl dX8_meetings_20 ?_
      refine x_icmp_ge (pc := 23) (tgt := 50) g (by decide) dX8_meetings_23 ?_ ?_
      · refine x_lv [0, 1, 2, 3] rfl ?_
        exact hj50 x4 σ3
      · refine x_iload_n (pc := 26) g rfl 2 rfl dX8_meetings_26 ?_
        refine x_aload_n (pc := 27) g rfl 0 rfl dX8_meetings_27 ?_
        refine x_iload_n (pc := 28) g rfl 1 rfl dX8_meetings_28 ?_
        refine x_iload_n (pc := 29) g rfl 3 rfl dX8_meetings_29 ?_
        refine x_callSI (pc := 30) (As := [.int a0, .int x2]) g (mc_X8_wayOn a0 x2) cw_X8_wayOn lk_X8_76 rfl ⟨Nat.le_of_ble_eq_true rfl, Nat.le_of_ble_eq_true rfl⟩ rfl (Nat.le_of_ble_eq_true rfl) dX8_meetings_30 (fun v2 σ4 => ?_)
        refine x_iload_n (pc := 33) g rfl 1 rfl dX8_meetings_33 ?_
        refine x_iload (pc := 34) g 4 rfl dX8_meetings_34 ?_
        refine x_callSI (pc := 36) (As := [.int a0, .int x5]) g (mc_X8_wayOn a0 x5) cw_X8_wayOn lk_X8_76 rfl ⟨Nat.le_of_ble_eq_true rfl, Nat.le_of_ble_eq_true rfl⟩ rfl (Nat.le_of_ble_eq_true rfl) dX8_meetings_36 (fun v3 σ5 => ?_)
        refine x_callVI (pc := 39) (As := [.int v2, .int v3]) g sh_1 (mc_X8_meetingsOfTwo N v2 v3) cw_X8_meetingsOfTwo lk_X8_86 rfl ⟨Nat.le_of_ble_eq_true rfl, Nat.le_of_ble_eq_true rfl⟩ rfl (Nat.le_of_ble_eq_true rfl) dX8_meetings_39 (fun v4 σ6 => ?_)
        refine x_iadd (pc := 42) g dX8_meetings_42 ?_
        refine x_nm (fun v5 => ?_)
        refine x_istore_n (pc := 43) (lv' := [(2, .int v5), (0, .ref (al 1)), (1, .int a0), (3, .int x2), (4, .int x5)]) g rfl (by decide) rfl dX8_meetings_43 ?_
        refine x_iinc (pc := 44) (v := (x5 + (1 : Int32))) (lv' := [(4, .int (x5 + (1 : Int32))), (2, .int v5), (0, .ref (al 1)), (1, .int a0), (3, .int x2)]) g 4 rfl (by rfl) (by decide) rfl dX8_meetings_44 ?_
        refine x_goto (pc := 47) (tgt := 17) g (by decide) dX8_meetings_47 ?_
        refine x_lv [2, 3, 1, 4, 0] rfl ?_
        exact hr17 v5 (x5 + (1 : Int32)) σ6
def B_X8_firstMeetingOfTwo_L2 (N : Nat) (a0 : Int32) (a1 : Int32) (j36 : Int32 → Sx → Option (Int32 × Sx)) (r2 : Int32 → Sx → Option (Int32 × Sx)) (x2 : Int32) (σ2 : Sx) : Option (Int32 × Sx) := aIx 36 20 a0 σ2 (fun v2 => (if v2 ≤ x2 then some ((-2 : Int32), σ2) else aRx 20 a0 (fun k12 => aIx (59 + k12) 8 x2 σ2 (fun v3 => clx (F_X8_placeAt N a1 v3 σ2) (fun v4 σ3 => aRx 20 a0 (fun k13 => aIx (38 + k13) 8 x2 σ3 (fun v5 => (if v4 = v5 then j36 x2 σ3 else r2 (x2 + (1 : Int32)) σ3))))))))
def F_X8_firstMeetingOfTwo (N : Nat) (a0 : Int32) (a1 : Int32) (σ0 : Sx) : Option (Int32 × Sx) := nmx (fun (x1 : Int32) (σ1 : Sx) => aRx 20 a0 (fun k11 => aIx (59 + k11) 8 x1 σ1 (fun v1 => some (v1, σ1)))) (fun (j36 : Int32 → Sx → Option (Int32 × Sx)) => lpx1 (B_X8_firstMeetingOfTwo_L2 N a0 a1 j36) N (0 : Int32) σ0)
set_option maxRecDepth 100000 in
set_option maxHeartbeats 4000000 in
theorem mc_X8_firstMeetingOfTwo {D : va_G} {al : Nat → Nat} {cA : Nat → ClassId} {ba : Nat} (N : Nat) (a0 : Int32) (a1 : Int32) : MCx D al cA ba yX8_firstMeetingOfTwo cX8_firstMeetingOfTwo 4 (some .int) 1 23 rvI [.ref (al 1), .int a0, .int a1] (F_X8_firstMeetingOfTwo N a0 a1) := by
  refine MCx_of (by decide +kernel) (Nat.le_of_ble_eq_true rfl) ?_
  intro p l e s m args below meth c σ0 g hrt
  unfold F_X8_firstMeetingOfTwo
  refine x_lv (lv' := [(0, .ref (al 1)), (1, .int a0), (2, .int a1)]) [0, 1, 2] rfl ?_
  refine x_iconst (pc := 0) (v := (0 : Int32)) g (by decide) dX8_firstMeetingOfTwo_0 ?_
  refine x_istore_n (pc := 1) (lv' := [(3, .int (0 : Int32)), (0, .ref (al 1)), (1, .int a0), (2, .int a1)]) g rfl (by decide) rfl dX8_firstMeetingOfTwo_1 ?_
  refine x_jn (fun (j36 : Int32 → Sx → Option (Int32 × Sx)) => ∀ (x1 : Int32) (σ1 : Sx), XTx p l e { frames := 1, cells := 0, slots := 0, locals := 23 } s m args below meth c D al cA ba 4 (MQx rvI D al cA ba below args s) 0 0 36 [(0, .ref (al 1)), (1, .int a0), (3, .int x1)] [] σ1 (j36 x1 σ1)) (fun x1 σ1 => ?_) (fun j36 hj36 => ?_)
  · refine x_aload_n (pc := 36) g rfl 0 rfl dX8_firstMeetingOfTwo_36 ?_
    refine x_getR (pc := 37) g sh_1 fl_X8_29 rfl dX8_firstMeetingOfTwo_37 ?_
    refine x_iload_n (pc := 40) g rfl 1 rfl dX8_firstMeetingOfTwo_40 ?_
    refine x_aaldR (pc := 41) g sh_58 (by decide) dX8_firstMeetingOfTwo_41 (fun k11 hk11 => ?_)
    refine x_iload_n (pc := 42) g rfl 2 rfl dX8_firstMeetingOfTwo_42 ?_
    refine x_iald (pc := 43) g (shf_59 k11 hk11) (by decide) dX8_firstMeetingOfTwo_43 (fun v1 => ?_)
    exact x_ireturn (pc := 44) g hrt dX8_firstMeetingOfTwo_44
  · refine x_lv [1, 2, 3, 0] rfl ?_
    refine lpx1_ind (fun (x2 : Int32) (σ2 : Sx) (K : Option (Int32 × Sx)) => XTx p l e { frames := 1, cells := 0, slots := 0, locals := 23 } s m args below meth c D al cA ba 4 (MQx rvI D al cA ba below args s) 0 0 2 [(0, .ref (al 1)), (1, .int a0), (2, .int a1), (3, .int x2)] [] σ2 (K)) (fun _ _ => x_no) (fun r2 hr2 x2 σ2 => ?_) N (0 : Int32) σ0
    show XTx p l e { frames := 1, cells := 0, slots := 0, locals := 23 } s m args below meth c D al cA ba 4 (MQx rvI D al cA ba below args s) 0 0 2 [(0, .ref (al 1)), (1, .int a0), (2, .int a1), (3, .int x2)] [] σ2 (B_X8_firstMeetingOfTwo_L2 N a0 a1 j36 r2 x2 σ2)
    unfold B_X8_firstMeetingOfTwo_L2
    refine x_iload_n (pc := 2) g rfl 3 rfl dX8_firstMeetingOfTwo_2 ?_
    refine x_aload_n (pc := 3) g rfl 0 rfl dX8_firstMeetingOfTwo_3 ?_
    refine x_getR (pc := 4) g sh_1 fl_X8_23 rfl dX8_firstMeetingOfTwo_4 ?_
    refine x_iload_n (pc := 7) g rfl 1 rfl dX8_firstMeetingOfTwo_7 ?_
    refine x_iald (pc := 8) g sh_36 (by decide) dX8_firstMeetingOfTwo_8 (fun v2 => ?_)
    refine x_icmp_ge (pc := 9) (tgt := 51) g (by decide) dX8_firstMeetingOfTwo_9 ?_ ?_
    · refine x_bipush (pc := 51) (v := (-2 : Int32)) g (by decide) dX8_firstMeetingOfTwo_51 ?_
      exact x_ireturn (pc := 53) g hrt dX8_firstMeetingOfTwo_53
    · refine x_aload_n (pc := 12) g rfl 0 rfl dX8_firstMeetingOfTwo_12 ?_
      refine x_iload_n (pc := 13) g rfl 2 rfl dX8_firstMeetingOfTwo_13 ?_
      refine x_aload_n (pc := 14) g rfl 0 rfl dX8_firstMeetingOfTwo_14 ?_
      refine x_getR (pc := 15) g sh_1 fl_X8_29 rfl dX8_firstMeetingOfTwo_15 ?_
      refine x_iload_n (pc := 18) g rfl 1 rfl dX8_firstMeetingOfTwo_18 ?_
      refine x_aaldR (pc := 19) g sh_58 (by decide) dX8_firstMeetingOfTwo_19 (fun k12 hk12 => ?_)
      refine x_iload_n (pc := 20) g rfl 3 rfl dX8_firstMeetingOfTwo_20 ?_
      refine x_iald (pc := 21) g (shf_59 k12 hk12) (by decide) dX8_firstMeetingOfTwo_21 (fun v3 => ?_)
      refine x_callVI (pc := 22) (As := [.int a1, .int v3]) g sh_1 (mc_X8_placeAt N a1 v3) cw_X8_placeAt lk_X8_89 rfl ⟨Nat.le_of_ble_eq_true rfl, Nat.le_of_ble_eq_true rfl⟩ rfl (Nat.le_of_ble_eq_true rfl) dX8_firstMeetingOfTwo_22 (fun v4 σ3 => ?_)
      refine x_aload_n (pc := 25) g rfl 0 rfl dX8_firstMeetingOfTwo_25 ?_
      refine x_getR (pc := 26) g sh_1 fl_X8_26 rfl dX8_firstMeetingOfTwo_26 ?_
      refine x_iload_n (pc := 29) g rfl 1 rfl dX8_firstMeetingOfTwo_29 ?_
      refine x_aaldR (pc := 30) g sh_37 (by decide) dX8_firstMeetingOfTwo_30 (fun k13 hk13 => ?_)
      refine x_iload_n (pc := 31) g rfl 3 rfl dX8_firstMeetingOfTwo_31 ?_
      refine x_iald (pc := 32) g (shf_38 k13 hk13) (by decide) dX8_firstMeetingOfTwo_32 (fun v5 => ?_)
      refine x_icmp_ne (pc := 33) (tgt := 45) g (by decide) dX8_firstMeetingOfTwo_33 ?_ ?_
      · refine x_iinc (pc := 45) (v := (x2 + (1 : Int32))) (lv' := [(3, .int (x2 + (1 : Int32))), (0, .ref (al 1)), (1, .int a0), (2, .int a1)]) g 3 rfl (by rfl) (by decide) rfl dX8_firstMeetingOfTwo_45 ?_
        refine x_goto (pc := 48) (tgt := 2) g (by decide) dX8_firstMeetingOfTwo_48 ?_
        refine x_lv [1, 2, 3, 0] rfl ?_
        exact hr2 (x2 + (1 : Int32)) σ3
      · refine x_lv [0, 1, 3] rfl ?_
        exact hj36 x2 σ3
def B_X8_firstMeeting_L18 (N : Nat) (a0 : Int32) (x2 : Int32) (j72 : Int32 → Sx → Option (Int32 × Sx)) (r18 : Int32 → Int32 → Sx → Option (Int32 × Sx)) (x4 : Int32) (x5 : Int32) (σ3 : Sx) : Option (Int32 × Sx) := (if (siI σ3 1 0) ≤ x5 then j72 x4 σ3 else clx (F_X8_wayOn a0 x2 σ3) (fun v2 σ4 => clx (F_X8_wayOn a0 x5 σ4) (fun v3 σ5 => clx (F_X8_firstMeetingOfTwo N v2 v3 σ5) (fun v4 σ6 => nmx (fun (x6 : Int32) (σ7 : Sx) => r18 x6 (x5 + (1 : Int32)) σ7) (fun (j66 : Int32 → Sx → Option (Int32 × Sx)) => (if v4 = (-2 : Int32) then j66 x4 σ6 else nmx (fun (σ8 : Sx) => j66 v4 σ8) (fun (j63 : Sx → Option (Int32 × Sx)) => (if x4 = (-2 : Int32) then j63 σ6 else (if x4 ≤ v4 then j66 x4 σ6 else j63 σ6)))))))))
def B_X8_firstMeeting_L5 (N : Nat) (a0 : Int32) (r5 : Int32 → Int32 → Sx → Option (Int32 × Sx)) (x1 : Int32) (x2 : Int32) (σ1 : Sx) : Option (Int32 × Sx) := (if (siI σ1 1 0) ≤ x2 then some (x1, σ1) else nmx ((x2 + (1 : Int32))) (fun v1 => nmx (fun (x3 : Int32) (σ2 : Sx) => r5 x3 (x2 + (1 : Int32)) σ2) (fun (j72 : Int32 → Sx → Option (Int32 × Sx)) => lpx2 (B_X8_firstMeeting_L18 N a0 x2 j72) N x1 v1 σ1)))
def F_X8_firstMeeting (N : Nat) (a0 : Int32) (σ0 : Sx) : Option (Int32 × Sx) := lpx2 (B_X8_firstMeeting_L5 N a0) N (-2 : Int32) (0 : Int32) σ0
set_option maxRecDepth 100000 in
set_option maxHeartbeats 4000000 in
theorem mc_X8_firstMeeting {D : va_G} {al : Nat → Nat} {cA : Nat → ClassId} {ba : Nat} (N : Nat) (a0 : Int32) : MCx D al cA ba yX8_firstMeeting cX8_firstMeeting 6 (some .int) 2 46 rvI [.ref (al 1), .int a0] (F_X8_firstMeeting N a0) := by
  refine MCx_of (by decide +kernel) (Nat.le_of_ble_eq_true rfl) ?_
  intro p l e s m args below meth c σ0 g hrt
  unfold F_X8_firstMeeting
  refine x_lv (lv' := [(0, .ref (al 1)), (1, .int a0)]) [0, 1] rfl ?_
  refine x_bipush (pc := 0) (v := (-2 : Int32)) g (by decide) dX8_firstMeeting_0 ?_
  refine x_istore_n (pc := 2) (lv' := [(2, .int (-2 : Int32)), (0, .ref (al 1)), (1, .int a0)]) g rfl (by decide) rfl dX8_firstMeeting_2 ?_
  refine x_iconst (pc := 3) (v := (0 : Int32)) g (by decide) dX8_firstMeeting_3 ?_
  refine x_istore_n (pc := 4) (lv' := [(3, .int (0 : Int32)), (2, .int (-2 : Int32)), (0, .ref (al 1)), (1, .int a0)]) g rfl (by decide) rfl dX8_firstMeeting_4 ?_
  refine x_lv [2, 3, 1, 0] rfl ?_
  refine lpx2_ind (fun (x1 : Int32) (x2 : Int32) (σ1 : Sx) (K : Option (Int32 × Sx)) => XTx p l e { frames := 2, cells := 0, slots := 0, locals := 46 } s m args below meth c D al cA ba 6 (MQx rvI D al cA ba below args s) 0 0 5 [(0, .ref (al 1)), (1, .int a0), (2, .int x1), (3, .int x2)] [] σ1 (K)) (fun _ _ _ => x_no) (fun r5 hr5 x1 x2 σ1 => ?_) N (-2 : Int32) (0 : Int32) σ0
  show XTx p l e { frames := 2, cells := 0, slots := 0, locals := 46 } s m args below meth c D al cA ba 6 (MQx rvI D al cA ba below args s) 0 0 5 [(0, .ref (al 1)), (1, .int a0), (2, .int x1), (3, .int x2)] [] σ1 (B_X8_firstMeeting_L5 N a0 r5 x1 x2 σ1)
  unfold B_X8_firstMeeting_L5
  refine x_iload_n (pc := 5) g rfl 3 rfl dX8_firstMeeting_5 ?_
  refine x_aload_n (pc := 6) g rfl 0 rfl dX8_firstMeeting_6 ?_
  refine x_getI (pc := 7) g sh_1 fl_X8_51 rfl dX8_firstMeeting_7 ?_
  refine x_icmp_ge (pc := 10) (tgt := 78) g (by decide) dX8_firstMeeting_10 ?_ ?_
  · refine x_iload_n (pc := 78) g rfl 2 rfl dX8_firstMeeting_78 ?_
    exact x_ireturn (pc := 79) g hrt dX8_firstMeeting_79
  · refine x_iload_n (pc := 13) g rfl 3 rfl dX8_firstMeeting_13 ?_
    refine x_iconst (pc := 14) (v := (1 : Int32)) g (by decide) dX8_firstMeeting_14 ?_
    refine x_iadd (pc := 15) g dX8_firstMeeting_15 ?_
    refine x_nm (fun v1 => ?_)
    refine x_istore (pc := 16) (lv' := [(4, .int v1), (0, .ref (al 1)), (1, .int a0), (2, .int x1), (3, .int x2)]) g (by decide) rfl dX8_firstMeeting_16 ?_
    refine x_jn (fun (j72 : Int32 → Sx → Option (Int32 × Sx)) => ∀ (x3 : Int32) (σ2 : Sx), XTx p l e { frames := 2, cells := 0, slots := 0, locals := 46 } s m args below meth c D al cA ba 6 (MQx rvI D al cA ba below args s) 0 0 72 [(0, .ref (al 1)), (1, .int a0), (2, .int x3), (3, .int x2)] [] σ2 (j72 x3 σ2)) (fun x3 σ2 => ?_) (fun j72 hj72 => ?_)
    · refine x_iinc (pc := 72) (v := (x2 + (1 : Int32))) (lv' := [(3, .int (x2 + (1 : Int32))), (0, .ref (al 1)), (1, .int a0), (2, .int x3)]) g 3 rfl (by rfl) (by decide) rfl dX8_firstMeeting_72 ?_
      refine x_goto (pc := 75) (tgt := 5) g (by decide) dX8_firstMeeting_75 ?_
      refine x_lv [1, 2, 3, 0] rfl ?_
      exact hr5 x3 (x2 + (1 : Int32)) σ2
    · refine x_lv [1, 2, 3, 4, 0] rfl ?_
      refine lpx2_ind (fun (x4 : Int32) (x5 : Int32) (σ3 : Sx) (K : Option (Int32 × Sx)) => XTx p l e { frames := 2, cells := 0, slots := 0, locals := 46 } s m args below meth c D al cA ba 6 (MQx rvI D al cA ba below args s) 0 0 18 [(0, .ref (al 1)), (1, .int a0), (2, .int x4), (3, .int x2), (4, .int x5)] [] σ3 (K)) (fun _ _ _ => x_no) (fun r18 hr18 x4 x5 σ3 => ?_) N x1 v1 σ1
      show XTx p l e { frames := 2, cells := 0, slots := 0, locals := 46 } s m args below meth c D al cA ba 6 (MQx rvI D al cA ba below args s) 0 0 18 [(0, .ref (al 1)), (1, .int a0), (2, .int x4), (3, .int x2), (4, .int x5)] [] σ3 (B_X8_firstMeeting_L18 N a0 x2 j72 r18 x4 x5 σ3)
      unfold B_X8_firstMeeting_L18
      refine x_iload (pc := 18) g 4 rfl dX8_firstMeeting_18 ?_
      refine x_aload_n (pc := 20) g rfl 0 rfl dX8_firstMeeting_20 ?_
      refine x_getI (pc := 21) g sh_1 fl_X8_51 rfl dX8_firstMeeting_21 ?_
      refine x_icmp_ge (pc := 24) (tgt := 72) g (by decide) dX8_firstMeeting_24 ?_ ?_
      · refine x_lv [0, 1, 2, 3] rfl ?_
        exact hj72 x4 σ3
      · refine x_aload_n (pc := 27) g rfl 0 rfl dX8_firstMeeting_27 ?_
        refine x_iload_n (pc := 28) g rfl 1 rfl dX8_firstMeeting_28 ?_
        refine x_iload_n (pc := 29) g rfl 3 rfl dX8_firstMeeting_29 ?_
        refine x_callSI (pc := 30) (As := [.int a0, .int x2]) g (mc_X8_wayOn a0 x2) cw_X8_wayOn lk_X8_76 rfl ⟨Nat.le_of_ble_eq_true rfl, Nat.le_of_ble_eq_true rfl⟩ rfl (Nat.le_of_ble_eq_true rfl) dX8_firstMeeting_30 (fun v2 σ4 => ?_)
        refine x_iload_n (pc := 33) g rfl 1 rfl dX8_firstMeeting_33 ?_
        refine x_iload (pc := 34) g 4 rfl dX8_firstMeeting_34 ?_
        refine x_callSI (pc := 36) (As := [.int a0, .int x5]) g (mc_X8_wayOn a0 x5) cw_X8_wayOn lk_X8_76 rfl ⟨Nat.le_of_ble_eq_true rfl, Nat.le_of_ble_eq_true rfl⟩ rfl (Nat.le_of_ble_eq_true rfl) dX8_firstMeeting_36 (fun v3 σ5 => ?_)
        refine x_callVI (pc := 39) (As := [.int v2, .int v3]) g sh_1 (mc_X8_firstMeetingOfTwo N v2 v3) cw_X8_firstMeetingOfTwo lk_X8_92 rfl ⟨Nat.le_of_ble_eq_true rfl, Nat.le_of_ble_eq_true rfl⟩ rfl (Nat.le_of_ble_eq_true rfl) dX8_firstMeeting_39 (fun v4 σ6 => ?_)
        refine x_istore (pc := 42) (lv' := [(5, .int v4), (0, .ref (al 1)), (1, .int a0), (2, .int x4), (3, .int x2), (4, .int x5)]) g (by decide) rfl dX8_firstMeeting_42 ?_
        refine x_iload (pc := 44) g 0 rfl dX8_firstMeeting_44 ?_
        refine x_bipush (pc := 46) (v := (-2 : Int32)) g (by decide) dX8_firstMeeting_46 ?_
        refine x_jn (fun (j66 : Int32 → Sx → Option (Int32 × Sx)) => ∀ (x6 : Int32) (σ7 : Sx), XTx p l e { frames := 2, cells := 0, slots := 0, locals := 46 } s m args below meth c D al cA ba 6 (MQx rvI D al cA ba below args s) 0 0 66 [(0, .ref (al 1)), (1, .int a0), (2, .int x6), (3, .int x2), (4, .int x5)] [] σ7 (j66 x6 σ7)) (fun x6 σ7 => ?_) (fun j66 hj66 => ?_)
        · refine x_iinc (pc := 66) (v := (x5 + (1 : Int32))) (lv' := [(4, .int (x5 + (1 : Int32))), (0, .ref (al 1)), (1, .int a0), (2, .int x6), (3, .int x2)]) g 4 rfl (by rfl) (by decide) rfl dX8_firstMeeting_66 ?_
          refine x_goto (pc := 69) (tgt := 18) g (by decide) dX8_firstMeeting_69 ?_
          refine x_lv [1, 2, 3, 4, 0] rfl ?_
          exact hr18 x6 (x5 + (1 : Int32)) σ7
        · refine x_icmp_eq (pc := 48) (tgt := 66) g (by decide) dX8_firstMeeting_48 ?_ ?_
          · refine x_lv [1, 2, 3, 4, 5] rfl ?_
            exact hj66 x4 σ6
          · refine x_iload_n (pc := 51) g rfl 3 rfl dX8_firstMeeting_51 ?_
            refine x_bipush (pc := 52) (v := (-2 : Int32)) g (by decide) dX8_firstMeeting_52 ?_
            refine x_jn (fun (j63 : Sx → Option (Int32 × Sx)) => ∀ (σ8 : Sx), XTx p l e { frames := 2, cells := 0, slots := 0, locals := 46 } s m args below meth c D al cA ba 6 (MQx rvI D al cA ba below args s) 0 0 63 [(0, .ref (al 1)), (1, .int a0), (3, .int x2), (4, .int x5), (5, .int v4)] [] σ8 (j63 σ8)) (fun σ8 => ?_) (fun j63 hj63 => ?_)
            · refine x_iload (pc := 63) g 4 rfl dX8_firstMeeting_63 ?_
              refine x_istore_n (pc := 65) (lv' := [(2, .int v4), (0, .ref (al 1)), (1, .int a0), (3, .int x2), (4, .int x5), (5, .int v4)]) g rfl (by decide) rfl dX8_firstMeeting_65 ?_
              refine x_lv [1, 2, 0, 3, 4] rfl ?_
              exact hj66 v4 σ8
            · refine x_icmp_eq (pc := 54) (tgt := 63) g (by decide) dX8_firstMeeting_54 ?_ ?_
              · refine x_lv [1, 2, 4, 5, 0] rfl ?_
                exact hj63 σ6
              · refine x_iload (pc := 57) g 0 rfl dX8_firstMeeting_57 ?_
                refine x_iload_n (pc := 59) g rfl 3 rfl dX8_firstMeeting_59 ?_
                refine x_icmp_ge (pc := 60) (tgt := 66) g (by decide) dX8_firstMeeting_60 ?_ ?_
                · refine x_lv [1, 2, 3, 4, 5] rfl ?_
                  exact hj66 x4 σ6
                · refine x_lv [1, 2, 4, 5, 0] rfl ?_
                  exact hj63 σ6
