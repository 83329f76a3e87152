def B_J7_fill_53178_L5 (N : Nat) (i0 : Nat) (n0 : Nat) (a1 : Int32) (r5 : Int32 → Sx → Option (Unit × Sx)) (x1 : Int32) (σ1 : Sx) : Option (Unit × Sx) := (if (Int32.ofNat n0) ≤ x1 then some ((), σ1) else sIx i0 n0 x1 a1 σ1 (fun σ2 => r5 (x1 + (1 : Int32)) σ2))
def F_J7_fill_53178 (N : Nat) (i0 : Nat) (n0 : Nat) (a1 : Int32) (σ0 : Sx) : Option (Unit × Sx) := lpx1 (B_J7_fill_53178_L5 N i0 n0 a1) N (0 : Int32) σ0
set_option maxRecDepth 100000 in
set_option maxHeartbeats 4000000 in
theorem mc_J7_fill_53178 {D : va_G} {al : Nat → Nat} {cA : Nat → ClassId} {ba : Nat} (N : Nat) (i0 n0 : Nat) {r0 : List (Option Nat)} (hs0 : shL[i0]? = some (1, n0, r0)) (hn0 : n0 < 2 ^ 31) (a1 : Int32) : MCx D al cA ba yJ7_fill_53178 cJ7_fill_53178 4 none 0 0 rvU [.ref (al i0), .int a1] (F_J7_fill_53178 N i0 n0 a1) := by
  refine MCx_of (by decide +kernel) (Nat.le_of_ble_eq_true rfl) ?_
  intro p l e s m args below meth c σ0 g hrt
  unfold F_J7_fill_53178
  refine x_lv (lv' := [(0, .ref (al i0)), (1, .int a1)]) [0, 1] rfl ?_
  refine x_iconst (pc := 0) (v := (0 : Int32)) g (by decide) dJ7_fill_53178_0 ?_
  refine x_istore_n (pc := 1) (lv' := [(2, .int (0 : Int32)), (0, .ref (al i0)), (1, .int a1)]) g rfl (by decide) rfl dJ7_fill_53178_1 ?_
  refine x_aload_n (pc := 2) g rfl 1 rfl dJ7_fill_53178_2 ?_
  refine x_alen (pc := 3) (t := 0) g hs0 (by decide) rfl dJ7_fill_53178_3 ?_
  refine x_istore_n (pc := 4) (lv' := [(3, .int (Int32.ofNat n0)), (2, .int (0 : Int32)), (0, .ref (al i0)), (1, .int a1)]) g rfl (by decide) rfl dJ7_fill_53178_4 ?_
  refine x_lv [2, 3, 1, 0] rfl ?_
  refine lpx1_ind (fun (x1 : Int32) (σ1 : Sx) (K : Option (Unit × Sx)) => XTx p l e { frames := 0, cells := 0, slots := 0, locals := 0 } s m args below meth c D al cA ba 4 (MQx rvU D al cA ba below args s) 0 0 5 [(0, .ref (al i0)), (1, .int a1), (2, .int x1), (3, .int (Int32.ofNat n0))] [] σ1 (K)) (fun _ _ => x_no) (fun r5 hr5 x1 σ1 => ?_) N (0 : Int32) σ0
  show XTx p l e { frames := 0, cells := 0, slots := 0, locals := 0 } s m args below meth c D al cA ba 4 (MQx rvU D al cA ba below args s) 0 0 5 [(0, .ref (al i0)), (1, .int a1), (2, .int x1), (3, .int (Int32.ofNat n0))] [] σ1 (B_J7_fill_53178_L5 N i0 n0 a1 r5 x1 σ1)
  unfold B_J7_fill_53178_L5
  refine x_iload_n (pc := 5) g rfl 2 rfl dJ7_fill_53178_5 ?_
  refine x_iload_n (pc := 6) g rfl 3 rfl dJ7_fill_53178_6 ?_
  refine x_icmp_ge (pc := 7) (tgt := 20) g (by decide) dJ7_fill_53178_7 ?_ ?_
  · exact x_return (pc := 20) g hrt dJ7_fill_53178_20
  · refine x_aload_n (pc := 10) g rfl 0 rfl dJ7_fill_53178_10 ?_
    refine x_iload_n (pc := 11) g rfl 2 rfl dJ7_fill_53178_11 ?_
    refine x_iload_n (pc := 12) g rfl 1 rfl dJ7_fill_53178_12 ?_
    refine x_iast (pc := 13) g hs0 hn0 dJ7_fill_53178_13 (fun σ2 => ?_)
    refine x_iinc (pc := 14) (v := (x1 + (1 : Int32))) (lv' := [(2, .int (x1 + (1 : Int32))), (0, .ref (al i0)), (1, .int a1), (3, .int (Int32.ofNat n0))]) g 2 rfl (by rfl) (by decide) rfl dJ7_fill_53178_14 ?_
    refine x_goto (pc := 17) (tgt := 5) g (by decide) dJ7_fill_53178_17 ?_
    refine x_lv [1, 2, 0, 3] rfl ?_
    exact hr5 (x1 + (1 : Int32)) σ2
def F_J9_max_7cf53 (a0 : Int32) (a1 : Int32) (σ0 : Sx) : Option (Int32 × Sx) := (if a0 < a1 then some (a1, σ0) else some (a0, σ0))
set_option maxRecDepth 100000 in
set_option maxHeartbeats 4000000 in
theorem mc_J9_max_7cf53 {D : va_G} {al : Nat → Nat} {cA : Nat → ClassId} {ba : Nat} (a0 : Int32) (a1 : Int32) : MCx D al cA ba yJ9_max_7cf53 cJ9_max_7cf53 2 (some .int) 0 0 rvI [.int a0, .int a1] (F_J9_max_7cf53 a0 a1) := by
  refine MCx_of (by decide +kernel) (Nat.le_of_ble_eq_true rfl) ?_
  intro p l e s m args below meth c σ0 g hrt
  unfold F_J9_max_7cf53
  refine x_lv (lv' := [(0, .int a0), (1, .int a1)]) [0, 1] rfl ?_
  refine x_iload_n (pc := 0) g rfl 0 rfl dJ9_max_7cf53_0 ?_
  refine x_iload_n (pc := 1) g rfl 1 rfl dJ9_max_7cf53_1 ?_
  refine x_icmp_lt (pc := 2) (tgt := 9) g (by decide) dJ9_max_7cf53_2 ?_ ?_
  · refine x_iload_n (pc := 9) g rfl 1 rfl dJ9_max_7cf53_9 ?_
    exact x_ireturn (pc := 10) g hrt dJ9_max_7cf53_10
  · refine x_iload_n (pc := 5) g rfl 0 rfl dJ9_max_7cf53_5 ?_
    refine x_goto (pc := 6) (tgt := 10) g (by decide) dJ9_max_7cf53_6 ?_
    exact x_ireturn (pc := 10) g hrt dJ9_max_7cf53_10
def F_J6_bitCount_0f7a4 (a0 : Int32) (σ0 : Sx) : Option (Int32 × Sx) := nmx ((a0 - ((jushr a0 (1 : Int32)) &&& (1431655765 : Int32)))) (fun v1 => nmx (((v1 &&& (858993459 : Int32)) + ((jushr v1 (2 : Int32)) &&& (858993459 : Int32)))) (fun v2 => nmx (((v2 + (jushr v2 (4 : Int32))) &&& (252645135 : Int32))) (fun v3 => nmx ((v3 + (jushr v3 (8 : Int32)))) (fun v4 => nmx ((v4 + (jushr v4 (16 : Int32)))) (fun v5 => some ((v5 &&& (63 : Int32)), σ0))))))
set_option maxRecDepth 100000 in
set_option maxHeartbeats 4000000 in
theorem mc_J6_bitCount_0f7a4 {D : va_G} {al : Nat → Nat} {cA : Nat → ClassId} {ba : Nat} (a0 : Int32) : MCx D al cA ba yJ6_bitCount_0f7a4 cJ6_bitCount_0f7a4 1 (some .int) 0 0 rvI [.int a0] (F_J6_bitCount_0f7a4 a0) := by
  refine MCx_of (by decide +kernel) (Nat.le_of_ble_eq_true rfl) ?_
  intro p l e s m args below meth c σ0 g hrt
  unfold F_J6_bitCount_0f7a4
  refine x_lv (lv' := [(0, .int a0)]) [0] rfl ?_
  refine x_iload_n (pc := 0) g rfl 0 rfl dJ6_bitCount_0f7a4_0 ?_
  refine x_iload_n (pc := 1) g rfl 0 rfl dJ6_bitCount_0f7a4_1 ?_
  refine x_iconst (pc := 2) (v := (1 : Int32)) g (by decide) dJ6_bitCount_0f7a4_2 ?_
  refine x_iushr (pc := 3) g dJ6_bitCount_0f7a4_3 ?_
  refine x_ldcw (pc := 4) (v := (1431655765 : Int32)) g ct_J6_265 dJ6_bitCount_0f7a4_4 ?_
  refine x_iand (pc := 7) g dJ6_bitCount_0f7a4_7 ?_
  refine x_isub (pc := 8) g dJ6_bitCount_0f7a4_8 ?_
  refine x_nm (fun v1 => ?_)
  refine x_istore_n (pc := 9) (lv' := [(0, .int v1)]) g rfl (by decide) rfl dJ6_bitCount_0f7a4_9 ?_
  refine x_iload_n (pc := 10) g rfl 0 rfl dJ6_bitCount_0f7a4_10 ?_
  refine x_ldcw (pc := 11) (v := (858993459 : Int32)) g ct_J6_266 dJ6_bitCount_0f7a4_11 ?_
  refine x_iand (pc := 14) g dJ6_bitCount_0f7a4_14 ?_
  refine x_iload_n (pc := 15) g rfl 0 rfl dJ6_bitCount_0f7a4_15 ?_
  refine x_iconst (pc := 16) (v := (2 : Int32)) g (by decide) dJ6_bitCount_0f7a4_16 ?_
  refine x_iushr (pc := 17) g dJ6_bitCount_0f7a4_17 ?_
  refine x_ldcw (pc := 18) (v := (858993459 : Int32)) g ct_J6_266 dJ6_bitCount_0f7a4_18 ?_
  refine x_iand (pc := 21) g dJ6_bitCount_0f7a4_21 ?_
  refine x_iadd (pc := 22) g dJ6_bitCount_0f7a4_22 ?_
  refine x_nm (fun v2 => ?_)
  refine x_istore_n (pc := 23) (lv' := [(0, .int v2)]) g rfl (by decide) rfl dJ6_bitCount_0f7a4_23 ?_
  refine x_iload_n (pc := 24) g rfl 0 rfl dJ6_bitCount_0f7a4_24 ?_
  refine x_iload_n (pc := 25) g rfl 0 rfl dJ6_bitCount_0f7a4_25 ?_
  refine x_iconst (pc := 26) (v := (4 : Int32)) g (by decide) dJ6_bitCount_0f7a4_26 ?_
  refine x_iushr (pc := 27) g dJ6_bitCount_0f7a4_27 ?_
  refine x_iadd (pc := 28) g dJ6_bitCount_0f7a4_28 ?_
  refine x_ldcw (pc := 29) (v := (252645135 : Int32)) g ct_J6_267 dJ6_bitCount_0f7a4_29 ?_
  refine x_iand (pc := 32) g dJ6_bitCount_0f7a4_32 ?_
  refine x_nm (fun v3 => ?_)
  refine x_istore_n (pc := 33) (lv' := [(0, .int v3)]) g rfl (by decide) rfl dJ6_bitCount_0f7a4_33 ?_
  refine x_iload_n (pc := 34) g rfl 0 rfl dJ6_bitCount_0f7a4_34 ?_
  refine x_iload_n (pc := 35) g rfl 0 rfl dJ6_bitCount_0f7a4_35 ?_
  refine x_bipush (pc := 36) (v := (8 : Int32)) g (by decide) dJ6_bitCount_0f7a4_36 ?_
  refine x_iushr (pc := 38) g dJ6_bitCount_0f7a4_38 ?_
  refine x_iadd (pc := 39) g dJ6_bitCount_0f7a4_39 ?_
  refine x_nm (fun v4 => ?_)
  refine x_istore_n (pc := 40) (lv' := [(0, .int v4)]) g rfl (by decide) rfl dJ6_bitCount_0f7a4_40 ?_
  refine x_iload_n (pc := 41) g rfl 0 rfl dJ6_bitCount_0f7a4_41 ?_
  refine x_iload_n (pc := 42) g rfl 0 rfl dJ6_bitCount_0f7a4_42 ?_
  refine x_bipush (pc := 43) (v := (16 : Int32)) g (by decide) dJ6_bitCount_0f7a4_43 ?_
  refine x_iushr (pc := 45) g dJ6_bitCount_0f7a4_45 ?_
  refine x_iadd (pc := 46) g dJ6_bitCount_0f7a4_46 ?_
  refine x_nm (fun v5 => ?_)
  refine x_istore_n (pc := 47) (lv' := [(0, .int v5)]) g rfl (by decide) rfl dJ6_bitCount_0f7a4_47 ?_
  refine x_iload_n (pc := 48) g rfl 0 rfl dJ6_bitCount_0f7a4_48 ?_
  refine x_bipush (pc := 49) (v := (63 : Int32)) g (by decide) dJ6_bitCount_0f7a4_49 ?_
  refine x_iand (pc := 51) g dJ6_bitCount_0f7a4_51 ?_
  exact x_ireturn (pc := 52) g hrt dJ6_bitCount_0f7a4_52
def F_J9_floorMod_7cf53 (a0 : Int32) (a1 : Int32) (σ0 : Sx) : Option (Int32 × Sx) := gdx (¬ a1 = 0) (nmx ((jrem a0 a1)) (fun v1 => (if 0 ≤ (a0 ^^^ a1) then some (v1, σ0) else (if v1 = 0 then some (v1, σ0) else some ((v1 + a1), σ0)))))
set_option maxRecDepth 100000 in
set_option maxHeartbeats 4000000 in
theorem mc_J9_floorMod_7cf53 {D : va_G} {al : Nat → Nat} {cA : Nat → ClassId} {ba : Nat} (a0 : Int32) (a1 : Int32) : MCx D al cA ba yJ9_floorMod_7cf53 cJ9_floorMod_7cf53 3 (some .int) 0 0 rvI [.int a0, .int a1] (F_J9_floorMod_7cf53 a0 a1) := by
  refine MCx_of (by decide +kernel) (Nat.le_of_ble_eq_true rfl) ?_
  intro p l e s m args below meth c σ0 g hrt
  unfold F_J9_floorMod_7cf53
  refine x_lv (lv' := [(0, .int a0), (1, .int a1)]) [0, 1] rfl ?_
  refine x_iload_n (pc := 0) g rfl 0 rfl dJ9_floorMod_7cf53_0 ?_
  refine x_iload_n (pc := 1) g rfl 1 rfl dJ9_floorMod_7cf53_1 ?_
  refine x_gd (fun hd1 => ?_)
  refine x_irem (pc := 2) g hd1 dJ9_floorMod_7cf53_2 ?_
  refine x_nm (fun v1 => ?_)
  refine x_istore_n (pc := 3) (lv' := [(2, .int v1), (0, .int a0), (1, .int a1)]) g rfl (by decide) rfl dJ9_floorMod_7cf53_3 ?_
  refine x_iload_n (pc := 4) g rfl 1 rfl dJ9_floorMod_7cf53_4 ?_
  refine x_iload_n (pc := 5) g rfl 2 rfl dJ9_floorMod_7cf53_5 ?_
  refine x_ixor (pc := 6) g dJ9_floorMod_7cf53_6 ?_
  refine x_if_ge (pc := 7) (tgt := 18) g (by decide) dJ9_floorMod_7cf53_7 ?_ ?_
  · refine x_iload_n (pc := 18) g rfl 0 rfl dJ9_floorMod_7cf53_18 ?_
    exact x_ireturn (pc := 19) g hrt dJ9_floorMod_7cf53_19
  · refine x_iload_n (pc := 10) g rfl 0 rfl dJ9_floorMod_7cf53_10 ?_
    refine x_if_eq (pc := 11) (tgt := 18) g (by decide) dJ9_floorMod_7cf53_11 ?_ ?_
    · refine x_iload_n (pc := 18) g rfl 0 rfl dJ9_floorMod_7cf53_18 ?_
      exact x_ireturn (pc := 19) g hrt dJ9_floorMod_7cf53_19
    · refine x_iload_n (pc := 14) g rfl 0 rfl dJ9_floorMod_7cf53_14 ?_
      refine x_iload_n (pc := 15) g rfl 2 rfl dJ9_floorMod_7cf53_15 ?_
      refine x_iadd (pc := 16) g dJ9_floorMod_7cf53_16 ?_
      exact x_ireturn (pc := 17) g hrt dJ9_floorMod_7cf53_17
def F_J9_min_7cf53 (a0 : Int32) (a1 : Int32) (σ0 : Sx) : Option (Int32 × Sx) := (if a1 < a0 then some (a1, σ0) else some (a0, σ0))
set_option maxRecDepth 100000 in
set_option maxHeartbeats 4000000 in
theorem mc_J9_min_7cf53 {D : va_G} {al : Nat → Nat} {cA : Nat → ClassId} {ba : Nat} (a0 : Int32) (a1 : Int32) : MCx D al cA ba yJ9_min_7cf53 cJ9_min_7cf53 2 (some .int) 0 0 rvI [.int a0, .int a1] (F_J9_min_7cf53 a0 a1) := by
  refine MCx_of (by decide +kernel) (Nat.le_of_ble_eq_true rfl) ?_
  intro p l e s m args below meth c σ0 g hrt
  unfold F_J9_min_7cf53
  refine x_lv (lv' := [(0, .int a0), (1, .int a1)]) [0, 1] rfl ?_
  refine x_iload_n (pc := 0) g rfl 0 rfl dJ9_min_7cf53_0 ?_
  refine x_iload_n (pc := 1) g rfl 1 rfl dJ9_min_7cf53_1 ?_
  refine x_icmp_gt (pc := 2) (tgt := 9) g (by decide) dJ9_min_7cf53_2 ?_ ?_
  · refine x_iload_n (pc := 9) g rfl 1 rfl dJ9_min_7cf53_9 ?_
    exact x_ireturn (pc := 10) g hrt dJ9_min_7cf53_10
  · refine x_iload_n (pc := 5) g rfl 0 rfl dJ9_min_7cf53_5 ?_
    refine x_goto (pc := 6) (tgt := 10) g (by decide) dJ9_min_7cf53_6 ?_
    exact x_ireturn (pc := 10) g hrt dJ9_min_7cf53_10
def B_J7_fill_d0a16_L6 (N : Nat) (i0 : Nat) (n0 : Nat) (a1 : Int64) (r6 : Int32 → Sx → Option (Unit × Sx)) (x1 : Int32) (σ1 : Sx) : Option (Unit × Sx) := (if (Int32.ofNat n0) ≤ x1 then some ((), σ1) else sLx i0 n0 x1 a1 σ1 (fun σ2 => r6 (x1 + (1 : Int32)) σ2))
def F_J7_fill_d0a16 (N : Nat) (i0 : Nat) (n0 : Nat) (a1 : Int64) (σ0 : Sx) : Option (Unit × Sx) := lpx1 (B_J7_fill_d0a16_L6 N i0 n0 a1) N (0 : Int32) σ0
set_option maxRecDepth 100000 in
set_option maxHeartbeats 4000000 in
theorem mc_J7_fill_d0a16 {D : va_G} {al : Nat → Nat} {cA : Nat → ClassId} {ba : Nat} (N : Nat) (i0 n0 : Nat) {r0 : List (Option Nat)} (hs0 : shL[i0]? = some (2, n0, r0)) (hn0 : n0 < 2 ^ 31) (a1 : Int64) : MCx D al cA ba yJ7_fill_d0a16 cJ7_fill_d0a16 5 none 0 0 rvU [.ref (al i0), .long a1] (F_J7_fill_d0a16 N i0 n0 a1) := by
  refine MCx_of (by decide +kernel) (Nat.le_of_ble_eq_true rfl) ?_
  intro p l e s m args below meth c σ0 g hrt
  unfold F_J7_fill_d0a16
  refine x_lv (lv' := [(0, .ref (al i0)), (1, .long a1)]) [0, 1] rfl ?_
  refine x_iconst (pc := 0) (v := (0 : Int32)) g (by decide) dJ7_fill_d0a16_0 ?_
  refine x_istore_n (pc := 1) (lv' := [(3, .int (0 : Int32)), (0, .ref (al i0)), (1, .long a1)]) g rfl (by decide) rfl dJ7_fill_d0a16_1 ?_
  refine x_aload_n (pc := 2) g rfl 1 rfl dJ7_fill_d0a16_2 ?_
  refine x_alen (pc := 3) (t := 1) g hs0 (by decide) rfl dJ7_fill_d0a16_3 ?_
  refine x_istore (pc := 4) (lv' := [(4, .int (Int32.ofNat n0)), (3, .int (0 : Int32)), (0, .ref (al i0)), (1, .long a1)]) g (by decide) rfl dJ7_fill_d0a16_4 ?_
  refine x_lv [2, 3, 1, 0] rfl ?_
  refine lpx1_ind (fun (x1 : Int32) (σ1 : Sx) (K : Option (Unit × Sx)) => XTx p l e { frames := 0, cells := 0, slots := 0, locals := 0 } s m args below meth c D al cA ba 5 (MQx rvU D al cA ba below args s) 0 0 6 [(0, .ref (al i0)), (1, .long a1), (3, .int x1), (4, .int (Int32.ofNat n0))] [] σ1 (K)) (fun _ _ => x_no) (fun r6 hr6 x1 σ1 => ?_) N (0 : Int32) σ0
  show XTx p l e { frames := 0, cells := 0, slots := 0, locals := 0 } s m args below meth c D al cA ba 5 (MQx rvU D al cA ba below args s) 0 0 6 [(0, .ref (al i0)), (1, .long a1), (3, .int x1), (4, .int (Int32.ofNat n0))] [] σ1 (B_J7_fill_d0a16_L6 N i0 n0 a1 r6 x1 σ1)
  unfold B_J7_fill_d0a16_L6
  refine x_iload_n (pc := 6) g rfl 2 rfl dJ7_fill_d0a16_6 ?_
  refine x_iload (pc := 7) g 3 rfl dJ7_fill_d0a16_7 ?_
  refine x_icmp_ge (pc := 9) (tgt := 22) g (by decide) dJ7_fill_d0a16_9 ?_ ?_
  · exact x_return (pc := 22) g hrt dJ7_fill_d0a16_22
  · refine x_aload_n (pc := 12) g rfl 0 rfl dJ7_fill_d0a16_12 ?_
    refine x_iload_n (pc := 13) g rfl 2 rfl dJ7_fill_d0a16_13 ?_
    refine x_lload_n (pc := 14) g rfl 1 rfl dJ7_fill_d0a16_14 ?_
    refine x_last (pc := 15) g hs0 hn0 dJ7_fill_d0a16_15 (fun σ2 => ?_)
    refine x_iinc (pc := 16) (v := (x1 + (1 : Int32))) (lv' := [(3, .int (x1 + (1 : Int32))), (0, .ref (al i0)), (1, .long a1), (4, .int (Int32.ofNat n0))]) g 2 rfl (by rfl) (by decide) rfl dJ7_fill_d0a16_16 ?_
    refine x_goto (pc := 19) (tgt := 6) g (by decide) dJ7_fill_d0a16_19 ?_
    refine x_lv [1, 2, 0, 3] rfl ?_
    exact hr6 (x1 + (1 : Int32)) σ2
