def F_X9_isPlace (a0 : Int32) (σ0 : Sx) : Option (Int32 × Sx) := (if a0 < 0 then some ((0 : Int32), σ0) else (if (8 : Int32) ≤ a0 then some ((0 : Int32), σ0) else some ((1 : Int32), σ0)))
set_option maxRecDepth 100000 in
set_option maxHeartbeats 4000000 in
theorem mc_X9_isPlace {D : va_G} {al : Nat → Nat} {cA : Nat → ClassId} {ba : Nat} (a0 : Int32) : MCx D al cA ba yX9_isPlace cX9_isPlace 1 (some .boolean) 0 0 rvI [.int a0] (F_X9_isPlace a0) := by
  refine MCx_of (by decide +kernel) (Nat.le_of_ble_eq_true rfl) ?_
  intro p l e s m args below meth c σ0 g hrt
  unfold F_X9_isPlace
  refine x_lv (lv' := [(0, .int a0)]) [0] rfl ?_
  refine x_iload_n (pc := 0) g rfl 0 rfl dX9_isPlace_0 ?_
  refine x_if_lt (pc := 1) (tgt := 14) g (by decide) dX9_isPlace_1 ?_ ?_
  · refine x_iconst (pc := 14) (v := (0 : Int32)) g (by decide) dX9_isPlace_14 ?_
    exact x_zreturn (pc := 15) g hrt (by decide) dX9_isPlace_15
  · refine x_iload_n (pc := 4) g rfl 0 rfl dX9_isPlace_4 ?_
    refine x_bipush (pc := 5) (v := (8 : Int32)) g (by decide) dX9_isPlace_5 ?_
    refine x_icmp_ge (pc := 7) (tgt := 14) g (by decide) dX9_isPlace_7 ?_ ?_
    · refine x_iconst (pc := 14) (v := (0 : Int32)) g (by decide) dX9_isPlace_14 ?_
      exact x_zreturn (pc := 15) g hrt (by decide) dX9_isPlace_15
    · refine x_iconst (pc := 10) (v := (1 : Int32)) g (by decide) dX9_isPlace_10 ?_
      refine x_goto (pc := 11) (tgt := 15) g (by decide) dX9_isPlace_11 ?_
      exact x_zreturn (pc := 15) g hrt (by decide) dX9_isPlace_15
def F_X9_isShelf (a0 : Int32) (σ0 : Sx) : Option (Int32 × Sx) := (if a0 < 0 then some ((0 : Int32), σ0) else (if (6 : Int32) ≤ a0 then some ((0 : Int32), σ0) else some ((1 : Int32), σ0)))
set_option maxRecDepth 100000 in
set_option maxHeartbeats 4000000 in
theorem mc_X9_isShelf {D : va_G} {al : Nat → Nat} {cA : Nat → ClassId} {ba : Nat} (a0 : Int32) : MCx D al cA ba yX9_isShelf cX9_isShelf 1 (some .boolean) 0 0 rvI [.int a0] (F_X9_isShelf a0) := by
  refine MCx_of (by decide +kernel) (Nat.le_of_ble_eq_true rfl) ?_
  intro p l e s m args below meth c σ0 g hrt
  unfold F_X9_isShelf
  refine x_lv (lv' := [(0, .int a0)]) [0] rfl ?_
  refine x_iload_n (pc := 0) g rfl 0 rfl dX9_isShelf_0 ?_
  refine x_if_lt (pc := 1) (tgt := 14) g (by decide) dX9_isShelf_1 ?_ ?_
  · refine x_iconst (pc := 14) (v := (0 : Int32)) g (by decide) dX9_isShelf_14 ?_
    exact x_zreturn (pc := 15) g hrt (by decide) dX9_isShelf_15
  · refine x_iload_n (pc := 4) g rfl 0 rfl dX9_isShelf_4 ?_
    refine x_bipush (pc := 5) (v := (6 : Int32)) g (by decide) dX9_isShelf_5 ?_
    refine x_icmp_ge (pc := 7) (tgt := 14) g (by decide) dX9_isShelf_7 ?_ ?_
    · refine x_iconst (pc := 14) (v := (0 : Int32)) g (by decide) dX9_isShelf_14 ?_
      exact x_zreturn (pc := 15) g hrt (by decide) dX9_isShelf_15
    · refine x_iconst (pc := 10) (v := (1 : Int32)) g (by decide) dX9_isShelf_10 ?_
      refine x_goto (pc := 11) (tgt := 15) g (by decide) dX9_isShelf_11 ?_
      exact x_zreturn (pc := 15) g hrt (by decide) dX9_isShelf_15
def F_X9_isZeroOrOne (a0 : Int32) (σ0 : Sx) : Option (Int32 × Sx) := (if a0 = 0 then some ((1 : Int32), σ0) else (if a0 = (1 : Int32) then some ((1 : Int32), σ0) else some ((0 : Int32), σ0)))
set_option maxRecDepth 100000 in
set_option maxHeartbeats 4000000 in
theorem mc_X9_isZeroOrOne {D : va_G} {al : Nat → Nat} {cA : Nat → ClassId} {ba : Nat} (a0 : Int32) : MCx D al cA ba yX9_isZeroOrOne cX9_isZeroOrOne 1 (some .boolean) 0 0 rvI [.int a0] (F_X9_isZeroOrOne a0) := by
  refine MCx_of (by decide +kernel) (Nat.le_of_ble_eq_true rfl) ?_
  intro p l e s m args below meth c σ0 g hrt
  unfold F_X9_isZeroOrOne
  refine x_lv (lv' := [(0, .int a0)]) [0] rfl ?_
  refine x_iload_n (pc := 0) g rfl 0 rfl dX9_isZeroOrOne_0 ?_
  refine x_if_eq (pc := 1) (tgt := 9) g (by decide) dX9_isZeroOrOne_1 ?_ ?_
  · refine x_iconst (pc := 9) (v := (1 : Int32)) g (by decide) dX9_isZeroOrOne_9 ?_
    refine x_goto (pc := 10) (tgt := 14) g (by decide) dX9_isZeroOrOne_10 ?_
    exact x_zreturn (pc := 14) g hrt (by decide) dX9_isZeroOrOne_14
  · refine x_iload_n (pc := 4) g rfl 0 rfl dX9_isZeroOrOne_4 ?_
    refine x_iconst (pc := 5) (v := (1 : Int32)) g (by decide) dX9_isZeroOrOne_5 ?_
    refine x_icmp_ne (pc := 6) (tgt := 13) g (by decide) dX9_isZeroOrOne_6 ?_ ?_
    · refine x_iconst (pc := 13) (v := (0 : Int32)) g (by decide) dX9_isZeroOrOne_13 ?_
      exact x_zreturn (pc := 14) g hrt (by decide) dX9_isZeroOrOne_14
    · refine x_iconst (pc := 9) (v := (1 : Int32)) g (by decide) dX9_isZeroOrOne_9 ?_
      refine x_goto (pc := 10) (tgt := 14) g (by decide) dX9_isZeroOrOne_10 ?_
      exact x_zreturn (pc := 14) g hrt (by decide) dX9_isZeroOrOne_14
def F_X9_isMinute (a0 : Int32) (σ0 : Sx) : Option (Int32 × Sx) := (if a0 < 0 then some ((0 : Int32), σ0) else (if (999 : Int32) < a0 then some ((0 : Int32), σ0) else some ((1 : Int32), σ0)))
set_option maxRecDepth 100000 in
set_option maxHeartbeats 4000000 in
theorem mc_X9_isMinute {D : va_G} {al : Nat → Nat} {cA : Nat → ClassId} {ba : Nat} (a0 : Int32) : MCx D al cA ba yX9_isMinute cX9_isMinute 1 (some .boolean) 0 0 rvI [.int a0] (F_X9_isMinute a0) := by
  refine MCx_of (by decide +kernel) (Nat.le_of_ble_eq_true rfl) ?_
  intro p l e s m args below meth c σ0 g hrt
  unfold F_X9_isMinute
  refine x_lv (lv' := [(0, .int a0)]) [0] rfl ?_
  refine x_iload_n (pc := 0) g rfl 0 rfl dX9_isMinute_0 ?_
  refine x_if_lt (pc := 1) (tgt := 15) g (by decide) dX9_isMinute_1 ?_ ?_
  · refine x_iconst (pc := 15) (v := (0 : Int32)) g (by decide) dX9_isMinute_15 ?_
    exact x_zreturn (pc := 16) g hrt (by decide) dX9_isMinute_16
  · refine x_iload_n (pc := 4) g rfl 0 rfl dX9_isMinute_4 ?_
    refine x_sipush (pc := 5) (v := (999 : Int32)) g (by decide) dX9_isMinute_5 ?_
    refine x_icmp_gt (pc := 8) (tgt := 15) g (by decide) dX9_isMinute_8 ?_ ?_
    · refine x_iconst (pc := 15) (v := (0 : Int32)) g (by decide) dX9_isMinute_15 ?_
      exact x_zreturn (pc := 16) g hrt (by decide) dX9_isMinute_16
    · refine x_iconst (pc := 11) (v := (1 : Int32)) g (by decide) dX9_isMinute_11 ?_
      refine x_goto (pc := 12) (tgt := 16) g (by decide) dX9_isMinute_12 ?_
      exact x_zreturn (pc := 16) g hrt (by decide) dX9_isMinute_16
