def F_X3_told (a0 : Int32) (σ0 : Sx) : Option (Int32 × Sx) := aIx 94 4 a0 σ0 (fun v1 => some (v1, σ0))
set_option maxRecDepth 100000 in
set_option maxHeartbeats 4000000 in
theorem mc_X3_told {D : va_G} {al : Nat → Nat} {cA : Nat → ClassId} {ba : Nat} (a0 : Int32) : MCx D al cA ba yX3_told cX3_told 2 (some .int) 0 0 rvI [.ref (al 6), .int a0] (F_X3_told a0) := by
  refine MCx_of (by decide +kernel) (Nat.le_of_ble_eq_true rfl) ?_
  intro p l e s m args below meth c σ0 g hrt
  unfold F_X3_told
  refine x_lv (lv' := [(0, .ref (al 6)), (1, .int a0)]) [0, 1] rfl ?_
  refine x_aload_n (pc := 0) g rfl 0 rfl dX3_told_0 ?_
  refine x_getR (pc := 1) g sh_6 fl_X3_11 rfl dX3_told_1 ?_
  refine x_iload_n (pc := 4) g rfl 1 rfl dX3_told_4 ?_
  refine x_iald (pc := 5) g sh_94 (by decide) dX3_told_5 (fun v1 => ?_)
  exact x_ireturn (pc := 6) g hrt dX3_told_6
def F_X3_lived (a0 : Int32) (a1 : Int32) (a2 : Int32) (σ0 : Sx) : Option (Unit × Sx) := aIx 94 4 (0 : Int32) σ0 (fun v1 => sIx 94 4 (0 : Int32) (v1 + (1 : Int32)) σ0 (fun σ1 => aIx 94 4 (1 : Int32) σ1 (fun v2 => sIx 94 4 (1 : Int32) (v2 + a1) σ1 (fun σ2 => aIx 94 4 (2 : Int32) σ2 (fun v3 => sIx 94 4 (2 : Int32) (v3 + a2) σ2 (fun σ3 => sIx 94 4 (3 : Int32) a0 σ3 (fun σ4 => some ((), σ4))))))))
set_option maxRecDepth 100000 in
set_option maxHeartbeats 4000000 in
theorem mc_X3_lived {D : va_G} {al : Nat → Nat} {cA : Nat → ClassId} {ba : Nat} (a0 : Int32) (a1 : Int32) (a2 : Int32) : MCx D al cA ba yX3_lived cX3_lived 4 none 0 0 rvU [.ref (al 6), .int a0, .int a1, .int a2] (F_X3_lived a0 a1 a2) := by
  refine MCx_of (by decide +kernel) (Nat.le_of_ble_eq_true rfl) ?_
  intro p l e s m args below meth c σ0 g hrt
  unfold F_X3_lived
  refine x_lv (lv' := [(0, .ref (al 6)), (1, .int a0), (2, .int a1), (3, .int a2)]) [0, 1, 2, 3] rfl ?_
  refine x_aload_n (pc := 0) g rfl 0 rfl dX3_lived_0 ?_
  refine x_getR (pc := 1) g sh_6 fl_X3_11 rfl dX3_lived_1 ?_
  refine x_iconst (pc := 4) (v := (0 : Int32)) g (by decide) dX3_lived_4 ?_
  refine x_dup2 (pc := 5) g rfl rfl dX3_lived_5 ?_
  refine x_iald (pc := 6) g sh_94 (by decide) dX3_lived_6 (fun v1 => ?_)
  refine x_iconst (pc := 7) (v := (1 : Int32)) g (by decide) dX3_lived_7 ?_
  refine x_iadd (pc := 8) g dX3_lived_8 ?_
  refine x_iast (pc := 9) g sh_94 (by decide) dX3_lived_9 (fun σ1 => ?_)
  refine x_aload_n (pc := 10) g rfl 0 rfl dX3_lived_10 ?_
  refine x_getR (pc := 11) g sh_6 fl_X3_11 rfl dX3_lived_11 ?_
  refine x_iconst (pc := 14) (v := (1 : Int32)) g (by decide) dX3_lived_14 ?_
  refine x_dup2 (pc := 15) g rfl rfl dX3_lived_15 ?_
  refine x_iald (pc := 16) g sh_94 (by decide) dX3_lived_16 (fun v2 => ?_)
  refine x_iload_n (pc := 17) g rfl 2 rfl dX3_lived_17 ?_
  refine x_iadd (pc := 18) g dX3_lived_18 ?_
  refine x_iast (pc := 19) g sh_94 (by decide) dX3_lived_19 (fun σ2 => ?_)
  refine x_aload_n (pc := 20) g rfl 0 rfl dX3_lived_20 ?_
  refine x_getR (pc := 21) g sh_6 fl_X3_11 rfl dX3_lived_21 ?_
  refine x_iconst (pc := 24) (v := (2 : Int32)) g (by decide) dX3_lived_24 ?_
  refine x_dup2 (pc := 25) g rfl rfl dX3_lived_25 ?_
  refine x_iald (pc := 26) g sh_94 (by decide) dX3_lived_26 (fun v3 => ?_)
  refine x_iload_n (pc := 27) g rfl 3 rfl dX3_lived_27 ?_
  refine x_iadd (pc := 28) g dX3_lived_28 ?_
  refine x_iast (pc := 29) g sh_94 (by decide) dX3_lived_29 (fun σ3 => ?_)
  refine x_aload_n (pc := 30) g rfl 0 rfl dX3_lived_30 ?_
  refine x_getR (pc := 31) g sh_6 fl_X3_11 rfl dX3_lived_31 ?_
  refine x_iconst (pc := 34) (v := (3 : Int32)) g (by decide) dX3_lived_34 ?_
  refine x_iload_n (pc := 35) g rfl 1 rfl dX3_lived_35 ?_
  refine x_iast (pc := 36) g sh_94 (by decide) dX3_lived_36 (fun σ4 => ?_)
  exact x_return (pc := 37) g hrt dX3_lived_37
def F_X3_keepImage (σ0 : Sx) : Option (Unit × Sx) := cIx 94 4 (0 : Int32) 95 4 (0 : Int32) (Int32.ofNat 4) σ0 (fun σ1 => pZx 6 2 (1 : Int32) σ1 (fun σ2 => some ((), σ2)))
set_option maxRecDepth 100000 in
set_option maxHeartbeats 4000000 in
theorem mc_X3_keepImage {D : va_G} {al : Nat → Nat} {cA : Nat → ClassId} {ba : Nat}  : MCx D al cA ba yX3_keepImage cX3_keepImage 1 none 1 60 rvU [.ref (al 6)] (F_X3_keepImage ) := by
  refine MCx_of (by decide +kernel) (Nat.le_of_ble_eq_true rfl) ?_
  intro p l e s m args below meth c σ0 g hrt
  unfold F_X3_keepImage
  refine x_lv (lv' := [(0, .ref (al 6))]) [0] rfl ?_
  refine x_aload_n (pc := 0) g rfl 0 rfl dX3_keepImage_0 ?_
  refine x_getR (pc := 1) g sh_6 fl_X3_11 rfl dX3_keepImage_1 ?_
  refine x_iconst (pc := 4) (v := (0 : Int32)) g (by decide) dX3_keepImage_4 ?_
  refine x_aload_n (pc := 5) g rfl 0 rfl dX3_keepImage_5 ?_
  refine x_getR (pc := 6) g sh_6 fl_X3_15 rfl dX3_keepImage_6 ?_
  refine x_iconst (pc := 9) (v := (0 : Int32)) g (by decide) dX3_keepImage_9 ?_
  refine x_aload_n (pc := 10) g rfl 0 rfl dX3_keepImage_10 ?_
  refine x_getR (pc := 11) g sh_6 fl_X3_11 rfl dX3_keepImage_11 ?_
  refine x_alen (pc := 14) (t := 0) g sh_94 (by decide) rfl dX3_keepImage_14 ?_
  refine x_copyI (pc := 15) g sh_94 sh_95 (by decide) (by decide) lk_X3_18 (Nat.le_of_ble_eq_true rfl) (Nat.le_of_ble_eq_true rfl) dX3_keepImage_15 (Nat.le_of_ble_eq_true rfl) (fun σ1 => ?_)
  refine x_aload_n (pc := 18) g rfl 0 rfl dX3_keepImage_18 ?_
  refine x_iconst (pc := 19) (v := (1 : Int32)) g (by decide) dX3_keepImage_19 ?_
  refine x_putZ (pc := 20) g sh_6 fl_X3_24 rfl dX3_keepImage_20 (fun σ2 => ?_)
  exact x_return (pc := 23) g hrt dX3_keepImage_23
def F_X3_layBack (σ0 : Sx) : Option (Int32 × Sx) := nmx (fun (σ1 : Sx) => rZx (siI σ1 6 2) σ1) (fun (j25 : Sx → Option (Int32 × Sx)) => (if (siI σ0 6 2) = 0 then j25 σ0 else cIx 95 4 (0 : Int32) 94 4 (0 : Int32) (Int32.ofNat 4) σ0 (fun σ2 => j25 σ2)))
set_option maxRecDepth 100000 in
set_option maxHeartbeats 4000000 in
theorem mc_X3_layBack {D : va_G} {al : Nat → Nat} {cA : Nat → ClassId} {ba : Nat}  : MCx D al cA ba yX3_layBack cX3_layBack 1 (some .boolean) 1 60 rvI [.ref (al 6)] (F_X3_layBack ) := by
  refine MCx_of (by decide +kernel) (Nat.le_of_ble_eq_true rfl) ?_
  intro p l e s m args below meth c σ0 g hrt
  unfold F_X3_layBack
  refine x_lv (lv' := [(0, .ref (al 6))]) [0] rfl ?_
  refine x_aload_n (pc := 0) g rfl 0 rfl dX3_layBack_0 ?_
  refine x_getI (pc := 1) g sh_6 fl_X3_24 rfl dX3_layBack_1 ?_
  refine x_jn (fun (j25 : Sx → Option (Int32 × Sx)) => ∀ (σ1 : Sx), XTx p l e { frames := 1, cells := 0, slots := 0, locals := 60 } s m args below meth c D al cA ba 1 (MQx rvI D al cA ba below args s) 0 0 25 [(0, .ref (al 6))] [] σ1 (j25 σ1)) (fun σ1 => ?_) (fun j25 hj25 => ?_)
  · refine x_aload_n (pc := 25) g rfl 0 rfl dX3_layBack_25 ?_
    refine x_getI (pc := 26) g sh_6 fl_X3_24 rfl dX3_layBack_26 ?_
    exact x_rZ (pc := 29) g hrt dX3_layBack_29
  · refine x_if_eq (pc := 4) (tgt := 25) g (by decide) dX3_layBack_4 ?_ ?_
    · exact hj25 σ0
    · refine x_aload_n (pc := 7) g rfl 0 rfl dX3_layBack_7 ?_
      refine x_getR (pc := 8) g sh_6 fl_X3_15 rfl dX3_layBack_8 ?_
      refine x_iconst (pc := 11) (v := (0 : Int32)) g (by decide) dX3_layBack_11 ?_
      refine x_aload_n (pc := 12) g rfl 0 rfl dX3_layBack_12 ?_
      refine x_getR (pc := 13) g sh_6 fl_X3_11 rfl dX3_layBack_13 ?_
      refine x_iconst (pc := 16) (v := (0 : Int32)) g (by decide) dX3_layBack_16 ?_
      refine x_aload_n (pc := 17) g rfl 0 rfl dX3_layBack_17 ?_
      refine x_getR (pc := 18) g sh_6 fl_X3_11 rfl dX3_layBack_18 ?_
      refine x_alen (pc := 21) (t := 0) g sh_94 (by decide) rfl dX3_layBack_21 ?_
      refine x_copyI (pc := 22) g sh_95 sh_94 (by decide) (by decide) lk_X3_18 (Nat.le_of_ble_eq_true rfl) (Nat.le_of_ble_eq_true rfl) dX3_layBack_22 (Nat.le_of_ble_eq_true rfl) (fun σ2 => ?_)
      exact hj25 σ2
