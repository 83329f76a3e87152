def W_X8_init_2 (cA : Nat → ClassId) (ba : Nat) (hp : Nat → va_E) : Nat → va_E := upE (upE (upE (upE (upE (upE (upE (upE (upE (upR (upE (upE (upR (upE (upE (upE (upE (upE (upE (upR (upE (upE (upR (upE (hp) 2 (.inl (cA 6, 3, .inr (.inr (.inr (.inr (fun j => if j < 3 then some (ba + 2 + 1 + j) else none))))))) 3 3 (.inl (cA 1, 5, .inl (fun _ => 0)))) 1 (.inr (8, (Value.int 0 :: Value.ref (ba + 2) :: Value.null :: Value.null :: Value.null :: Value.null :: Value.null :: [])))) 6 (.inl (cA 6, 8, .inr (.inr (.inr (.inr (fun j => if j < 8 then some (ba + 6 + 1 + j) else none))))))) 7 8 (.inl (cA 1, 8, .inl (fun _ => 0)))) 1 (.inr (8, (Value.int 0 :: Value.ref (ba + 2) :: Value.ref (ba + 6) :: Value.null :: Value.null :: Value.null :: Value.null :: [])))) 15 (.inl (cA 1, 5, .inl (fun _ => 0)))) 1 (.inr (8, (Value.int 0 :: Value.ref (ba + 2) :: Value.ref (ba + 6) :: Value.ref (ba + 15) :: Value.null :: Value.null :: Value.null :: [])))) 16 (.inl (cA 1, 20, .inl (fun _ => 0)))) 1 (.inr (8, (Value.int 0 :: Value.ref (ba + 2) :: Value.ref (ba + 6) :: Value.ref (ba + 15) :: Value.ref (ba + 16) :: Value.null :: Value.null :: [])))) 17 (.inl (cA 6, 20, .inr (.inr (.inr (.inr (fun j => if j < 20 then some (ba + 17 + 1 + j) else none))))))) 18 20 (.inl (cA 1, 8, .inl (fun _ => 0)))) 1 (.inr (8, (Value.int 0 :: Value.ref (ba + 2) :: Value.ref (ba + 6) :: Value.ref (ba + 15) :: Value.ref (ba + 16) :: Value.ref (ba + 17) :: Value.null :: [])))) 38 (.inl (cA 6, 20, .inr (.inr (.inr (.inr (fun j => if j < 20 then some (ba + 38 + 1 + j) else none))))))) 39 20 (.inl (cA 1, 8, .inl (fun _ => 0)))) 1 (.inr (8, (Value.int 0 :: Value.ref (ba + 2) :: Value.ref (ba + 6) :: Value.ref (ba + 15) :: Value.ref (ba + 16) :: Value.ref (ba + 17) :: Value.ref (ba + 38) :: [])))) 7 (.inl (cA 1, 8, .inl (fun j => if j < 8 then (5 : Int32) else (fun _ => 0) j)))) 8 (.inl (cA 1, 8, .inl (fun j => if j < 8 then (5 : Int32) else (fun _ => 0) j)))) 9 (.inl (cA 1, 8, .inl (fun j => if j < 8 then (5 : Int32) else (fun _ => 0) j)))) 10 (.inl (cA 1, 8, .inl (fun j => if j < 8 then (5 : Int32) else (fun _ => 0) j)))) 11 (.inl (cA 1, 8, .inl (fun j => if j < 8 then (5 : Int32) else (fun _ => 0) j)))) 12 (.inl (cA 1, 8, .inl (fun j => if j < 8 then (5 : Int32) else (fun _ => 0) j)))) 13 (.inl (cA 1, 8, .inl (fun j => if j < 8 then (5 : Int32) else (fun _ => 0) j)))) 14 (.inl (cA 1, 8, .inl (fun j => if j < 8 then (5 : Int32) else (fun _ => 0) j)))
set_option maxRecDepth 100000 in
set_option maxHeartbeats 16000000 in
theorem cc_X8_init_2 {D : va_G} {cA : Nat → ClassId} {ba : Nat} {hp : Nat → va_E} (h0 : hp 1 = .inr (8, (Value.int 0 :: Value.null :: Value.null :: Value.null :: Value.null :: Value.null :: Value.null :: []))) : CCx D cA ba yX8_init cX8_init 2 1 23 57 475 [.ref (ba + 1)] 2 hp 59 (W_X8_init_2 cA ba hp) := by
  refine CCx_of (by decide +kernel) (Nat.le_of_ble_eq_true rfl) ?_
  intro p l e s m args below meth c g hrt hmn
  refine c_aload_n (pc := 0) g rfl 0 rfl dX8_init_0 ?_
  refine c_obj (pc := 1) g co_X8_3 (Nat.le_of_ble_eq_true rfl) (Nat.le_of_ble_eq_true rfl) (Nat.le_of_ble_eq_true rfl) dX8_init_1 ?_
  refine c_aload_n (pc := 4) g rfl 0 rfl dX8_init_4 ?_
  refine c_iconst (pc := 5) (v := (3 : Int32)) g (by decide) dX8_init_5 ?_
  refine c_iconst (pc := 6) (v := (5 : Int32)) g (by decide) dX8_init_6 ?_
  refine c_mna (pc := 7) (n := 2) (N := 3) (K := 5) g ck_X8_9 ca_int (by decide) (by decide) (by decide) (by decide) (by decide) (by decide) (Nat.le_of_ble_eq_true rfl) (Nat.le_of_ble_eq_true rfl) dX8_init_7 ?_
  refine c_put (pc := 11) (n := 6) (k := 1) (fs := (Value.int 0 :: Value.null :: Value.null :: Value.null :: Value.null :: Value.null :: Value.null :: [])) (fs2 := (Value.int 0 :: Value.ref (ba + 2) :: Value.null :: Value.null :: Value.null :: Value.null :: Value.null :: [])) g (by decide) h0 rfl cfl_X8_11 (fun _ => ⟨hmn, fun C T N h => by cases Option.some.inj (show some (RX8, TX8, 7) = some (C, T, N) from h); rfl⟩) rfl rfl (Nat.le_of_ble_eq_true rfl) dX8_init_11 ?_
  refine c_aload_n (pc := 14) g rfl 0 rfl dX8_init_14 ?_
  refine c_bipush (pc := 15) (v := (8 : Int32)) g (by decide) dX8_init_15 ?_
  refine c_bipush (pc := 17) (v := (8 : Int32)) g (by decide) dX8_init_17 ?_
  refine c_mna (pc := 19) (n := 6) (N := 8) (K := 8) g ck_X8_9 ca_int (by decide) (by decide) (by decide) (by decide) (by decide) (by decide) (Nat.le_of_ble_eq_true rfl) (Nat.le_of_ble_eq_true rfl) dX8_init_19 ?_
  refine c_put (pc := 23) (n := 15) (k := 1) (fs := (Value.int 0 :: Value.ref (ba + 2) :: Value.null :: Value.null :: Value.null :: Value.null :: Value.null :: [])) (fs2 := (Value.int 0 :: Value.ref (ba + 2) :: Value.ref (ba + 6) :: Value.null :: Value.null :: Value.null :: Value.null :: [])) g (by decide) rfl rfl cfl_X8_16 (fun _ => ⟨hmn, fun C T N h => by cases Option.some.inj (show some (RX8, TX8, 7) = some (C, T, N) from h); rfl⟩) rfl rfl (Nat.le_of_ble_eq_true rfl) dX8_init_23 ?_
  refine c_aload_n (pc := 26) g rfl 0 rfl dX8_init_26 ?_
  refine c_iconst (pc := 27) (v := (5 : Int32)) g (by decide) dX8_init_27 ?_
  refine c_newa (pc := 28) (n := 15) (a0 := (5, .inl (fun _ => 0))) (t := 0) (ty := .int) g rfl ca_int rfl (fun _ _ => rfl) (fun _ => rfl) (by decide) (by decide) (by decide) (Nat.le_of_ble_eq_true rfl) (Nat.le_of_ble_eq_true rfl) dX8_init_28 ?_
  refine c_put (pc := 30) (n := 16) (k := 1) (fs := (Value.int 0 :: Value.ref (ba + 2) :: Value.ref (ba + 6) :: Value.null :: Value.null :: Value.null :: Value.null :: [])) (fs2 := (Value.int 0 :: Value.ref (ba + 2) :: Value.ref (ba + 6) :: Value.ref (ba + 15) :: Value.null :: Value.null :: Value.null :: [])) g (by decide) rfl rfl cfl_X8_19 (fun _ => ⟨hmn, fun C T N h => by cases Option.some.inj (show some (RX8, TX8, 7) = some (C, T, N) from h); rfl⟩) rfl rfl (Nat.le_of_ble_eq_true rfl) dX8_init_30 ?_
  refine c_aload_n (pc := 33) g rfl 0 rfl dX8_init_33 ?_
  refine c_bipush (pc := 34) (v := (20 : Int32)) g (by decide) dX8_init_34 ?_
  refine c_newa (pc := 36) (n := 16) (a0 := (20, .inl (fun _ => 0))) (t := 0) (ty := .int) g rfl ca_int rfl (fun _ _ => rfl) (fun _ => rfl) (by decide) (by decide) (by decide) (Nat.le_of_ble_eq_true rfl) (Nat.le_of_ble_eq_true rfl) dX8_init_36 ?_
  refine c_put (pc := 38) (n := 17) (k := 1) (fs := (Value.int 0 :: Value.ref (ba + 2) :: Value.ref (ba + 6) :: Value.ref (ba + 15) :: Value.null :: Value.null :: Value.null :: [])) (fs2 := (Value.int 0 :: Value.ref (ba + 2) :: Value.ref (ba + 6) :: Value.ref (ba + 15) :: Value.ref (ba + 16) :: Value.null :: Value.null :: [])) g (by decide) rfl rfl cfl_X8_23 (fun _ => ⟨hmn, fun C T N h => by cases Option.some.inj (show some (RX8, TX8, 7) = some (C, T, N) from h); rfl⟩) rfl rfl (Nat.le_of_ble_eq_true rfl) dX8_init_38 ?_
  refine c_aload_n (pc := 41) g rfl 0 rfl dX8_init_41 ?_
  refine c_bipush (pc := 42) (v := (20 : Int32)) g (by decide) dX8_init_42 ?_
  refine c_bipush (pc := 44) (v := (8 : Int32)) g (by decide) dX8_init_44 ?_
  refine c_mna (pc := 46) (n := 17) (N := 20) (K := 8) g ck_X8_9 ca_int (by decide) (by decide) (by decide) (by decide) (by decide) (by decide) (Nat.le_of_ble_eq_true rfl) (Nat.le_of_ble_eq_true rfl) dX8_init_46 ?_
  refine c_put (pc := 50) (n := 38) (k := 1) (fs := (Value.int 0 :: Value.ref (ba + 2) :: Value.ref (ba + 6) :: Value.ref (ba + 15) :: Value.ref (ba + 16) :: Value.null :: Value.null :: [])) (fs2 := (Value.int 0 :: Value.ref (ba + 2) :: Value.ref (ba + 6) :: Value.ref (ba + 15) :: Value.ref (ba + 16) :: Value.ref (ba + 17) :: Value.null :: [])) g (by decide) rfl rfl cfl_X8_26 (fun _ => ⟨hmn, fun C T N h => by cases Option.some.inj (show some (RX8, TX8, 7) = some (C, T, N) from h); rfl⟩) rfl rfl (Nat.le_of_ble_eq_true rfl) dX8_init_50 ?_
  refine c_aload_n (pc := 53) g rfl 0 rfl dX8_init_53 ?_
  refine c_bipush (pc := 54) (v := (20 : Int32)) g (by decide) dX8_init_54 ?_
  refine c_bipush (pc := 56) (v := (8 : Int32)) g (by decide) dX8_init_56 ?_
  refine c_mna (pc := 58) (n := 38) (N := 20) (K := 8) g ck_X8_9 ca_int (by decide) (by decide) (by decide) (by decide) (by decide) (by decide) (Nat.le_of_ble_eq_true rfl) (Nat.le_of_ble_eq_true rfl) dX8_init_58 ?_
  refine c_put (pc := 62) (n := 59) (k := 1) (fs := (Value.int 0 :: Value.ref (ba + 2) :: Value.ref (ba + 6) :: Value.ref (ba + 15) :: Value.ref (ba + 16) :: Value.ref (ba + 17) :: Value.null :: [])) (fs2 := (Value.int 0 :: Value.ref (ba + 2) :: Value.ref (ba + 6) :: Value.ref (ba + 15) :: Value.ref (ba + 16) :: Value.ref (ba + 17) :: Value.ref (ba + 38) :: [])) g (by decide) rfl rfl cfl_X8_29 (fun _ => ⟨hmn, fun C T N h => by cases Option.some.inj (show some (RX8, TX8, 7) = some (C, T, N) from h); rfl⟩) rfl rfl (Nat.le_of_ble_eq_true rfl) dX8_init_62 ?_
  refine c_iconst (pc := 65) (v := (0 : Int32)) g (by decide) dX8_init_65 ?_
  refine c_istore_n (pc := 66) (lv' := [(1, Value.int (0 : Int32)), (0, Value.ref (ba + 1))]) g rfl (by decide) rfl dX8_init_66 ?_
  refine c_iload_n (pc := 67) g rfl 0 rfl dX8_init_67 ?_
  refine c_bipush (pc := 68) (v := (8 : Int32)) g (by decide) dX8_init_68 ?_
  refine c_ge_f (pc := 70) (tgt := 89) g (by decide) (by decide) dX8_init_70 ?_
  refine c_aload_n (pc := 73) g rfl 1 rfl dX8_init_73 ?_
  refine c_get (pc := 74) (n := 59) (k := 1) (fs := (Value.int 0 :: Value.ref (ba + 2) :: Value.ref (ba + 6) :: Value.ref (ba + 15) :: Value.ref (ba + 16) :: Value.ref (ba + 17) :: Value.ref (ba + 38) :: [])) g (Value.ref (ba + 6)) (by decide) rfl cfl_X8_16 rfl dX8_init_74 ?_
  refine c_iload_n (pc := 77) g rfl 0 rfl dX8_init_77 ?_
  refine c_aald (pc := 78) (n := 59) (k := 6) (N := 8) g (ba + 7) (by decide) rfl (by unfold vp_in; decide) rfl dX8_init_78 ?_
  refine c_iconst (pc := 79) (v := (5 : Int32)) g (by decide) dX8_init_79 ?_
  refine c_callS (pc := 80) (n := 59) (nA := 2) (As := [Value.ref (ba + 7), Value.int (5 : Int32)]) g (cc_fill (k := 7) (f := (fun _ => 0)) (5 : Int32) (by decide) (by decide) rfl) cm_X8_32 cs_m_J7_fill_53178 cz_m_J7_fill_53178 cc_m_J7_fill_53178 ⟨by decide +kernel, by decide +kernel, by decide +kernel⟩ rfl ⟨(Nat.le_of_ble_eq_true rfl), (Nat.le_of_ble_eq_true rfl)⟩ ⟨(Nat.le_of_ble_eq_true rfl), (Nat.le_of_ble_eq_true rfl)⟩ rfl (Nat.le_of_ble_eq_true rfl) dX8_init_80 ?_
  refine c_iinc (pc := 83) (v := (1 : Int32)) (lv' := [(1, Value.int (1 : Int32)), (0, Value.ref (ba + 1))]) g 0 rfl (by decide) (by decide) rfl dX8_init_83 ?_
  refine c_goto (pc := 86) (tgt := 67) g (by decide) dX8_init_86 ?_
  refine c_iload_n (pc := 67) g rfl 0 rfl dX8_init_67 ?_
  refine c_bipush (pc := 68) (v := (8 : Int32)) g (by decide) dX8_init_68 ?_
  refine c_ge_f (pc := 70) (tgt := 89) g (by decide) (by decide) dX8_init_70 ?_
  refine c_aload_n (pc := 73) g rfl 1 rfl dX8_init_73 ?_
  refine c_get (pc := 74) (n := 59) (k := 1) (fs := (Value.int 0 :: Value.ref (ba + 2) :: Value.ref (ba + 6) :: Value.ref (ba + 15) :: Value.ref (ba + 16) :: Value.ref (ba + 17) :: Value.ref (ba + 38) :: [])) g (Value.ref (ba + 6)) (by decide) rfl cfl_X8_16 rfl dX8_init_74 ?_
  refine c_iload_n (pc := 77) g rfl 0 rfl dX8_init_77 ?_
  refine c_aald (pc := 78) (n := 59) (k := 6) (N := 8) g (ba + 8) (by decide) rfl (by unfold vp_in; decide) rfl dX8_init_78 ?_
  refine c_iconst (pc := 79) (v := (5 : Int32)) g (by decide) dX8_init_79 ?_
  refine c_callS (pc := 80) (n := 59) (nA := 2) (As := [Value.ref (ba + 8), Value.int (5 : Int32)]) g (cc_fill (k := 8) (f := (fun _ => 0)) (5 : Int32) (by decide) (by decide) rfl) cm_X8_32 cs_m_J7_fill_53178 cz_m_J7_fill_53178 cc_m_J7_fill_53178 ⟨by decide +kernel, by decide +kernel, by decide +kernel⟩ rfl ⟨(Nat.le_of_ble_eq_true rfl), (Nat.le_of_ble_eq_true rfl)⟩ ⟨(Nat.le_of_ble_eq_true rfl), (Nat.le_of_ble_eq_true rfl)⟩ rfl (Nat.le_of_ble_eq_true rfl) dX8_init_80 ?_
  refine c_iinc (pc := 83) (v := (2 : Int32)) (lv' := [(1, Value.int (2 : Int32)), (0, Value.ref (ba + 1))]) g 0 rfl (by decide) (by decide) rfl dX8_init_83 ?_
  refine c_goto (pc := 86) (tgt := 67) g (by decide) dX8_init_86 ?_
  refine c_iload_n (pc := 67) g rfl 0 rfl dX8_init_67 ?_
  refine c_bipush (pc := 68) (v := (8 : Int32)) g (by decide) dX8_init_68 ?_
  refine c_ge_f (pc := 70) (tgt := 89) g (by decide) (by decide) dX8_init_70 ?_
  refine c_aload_n (pc := 73) g rfl 1 rfl dX8_init_73 ?_
  refine c_get (pc := 74) (n := 59) (k := 1) (fs := (Value.int 0 :: Value.ref (ba + 2) :: Value.ref (ba + 6) :: Value.ref (ba + 15) :: Value.ref (ba + 16) :: Value.ref (ba + 17) :: Value.ref (ba + 38) :: [])) g (Value.ref (ba + 6)) (by decide) rfl cfl_X8_16 rfl dX8_init_74 ?_
  refine c_iload_n (pc := 77) g rfl 0 rfl dX8_init_77 ?_
  refine c_aald (pc := 78) (n := 59) (k := 6) (N := 8) g (ba + 9) (by decide) rfl (by unfold vp_in; decide) rfl dX8_init_78 ?_
  refine c_iconst (pc := 79) (v := (5 : Int32)) g (by decide) dX8_init_79 ?_
  refine c_callS (pc := 80) (n := 59) (nA := 2) (As := [Value.ref (ba + 9), Value.int (5 : Int32)]) g (cc_fill (k := 9) (f := (fun _ => 0)) (5 : Int32) (by decide) (by decide) rfl) cm_X8_32 cs_m_J7_fill_53178 cz_m_J7_fill_53178 cc_m_J7_fill_53178 ⟨by decide +kernel, by decide +kernel, by decide +kernel⟩ rfl ⟨(Nat.le_of_ble_eq_true rfl), (Nat.le_of_ble_eq_true rfl)⟩ ⟨(Nat.le_of_ble_eq_true rfl), (Nat.le_of_ble_eq_true rfl)⟩ rfl (Nat.le_of_ble_eq_true rfl) dX8_init_80 ?_
  refine c_iinc (pc := 83) (v := (3 : Int32)) (lv' := [(1, Value.int (3 : Int32)), (0, Value.ref (ba + 1))]) g 0 rfl (by decide) (by decide) rfl dX8_init_83 ?_
  refine c_goto (pc := 86) (tgt := 67) g (by decide) dX8_init_86 ?_
  refine c_iload_n (pc := 67) g rfl 0 rfl dX8_init_67 ?_
  refine c_bipush (pc := 68) (v := (8 : Int32)) g (by decide) dX8_init_68 ?_
  refine c_ge_f (pc := 70) (tgt := 89) g (by decide) (by decide) dX8_init_70 ?_
  refine c_aload_n (pc := 73) g rfl 1 rfl dX8_init_73 ?_
  refine c_get (pc := 74) (n := 59) (k := 1) (fs := (Value.int 0 :: Value.ref (ba + 2) :: Value.ref (ba + 6) :: Value.ref (ba + 15) :: Value.ref (ba + 16) :: Value.ref (ba + 17) :: Value.ref (ba + 38) :: [])) g (Value.ref (ba + 6)) (by decide) rfl cfl_X8_16 rfl dX8_init_74 ?_
  refine c_iload_n (pc := 77) g rfl 0 rfl dX8_init_77 ?_
  refine c_aald (pc := 78) (n := 59) (k := 6) (N := 8) g (ba + 10) (by decide) rfl (by unfold vp_in; decide) rfl dX8_init_78 ?_
  refine c_iconst (pc := 79) (v := (5 : Int32)) g (by decide) dX8_init_79 ?_
  refine c_callS (pc := 80) (n := 59) (nA := 2) (As := [Value.ref (ba + 10), Value.int (5 : Int32)]) g (cc_fill (k := 10) (f := (fun _ => 0)) (5 : Int32) (by decide) (by decide) rfl) cm_X8_32 cs_m_J7_fill_53178 cz_m_J7_fill_53178 cc_m_J7_fill_53178 ⟨by decide +kernel, by decide +kernel, by decide +kernel⟩ rfl ⟨(Nat.le_of_ble_eq_true rfl), (Nat.le_of_ble_eq_true rfl)⟩ ⟨(Nat.le_of_ble_eq_true rfl), (Nat.le_of_ble_eq_true rfl)⟩ rfl (Nat.le_of_ble_eq_true rfl) dX8_init_80 ?_
  refine c_iinc (pc := 83) (v := (4 : Int32)) (lv' := [(1, Value.int (4 : Int32)), (0, Value.ref (ba + 1))]) g 0 rfl (by decide) (by decide) rfl dX8_init_83 ?_
  refine c_goto (pc := 86) (tgt := 67) g (by decide) dX8_init_86 ?_
  refine c_iload_n (pc := 67) g rfl 0 rfl dX8_init_67 ?_
  refine c_bipush (pc := 68) (v := (8 : Int32)) g (by decide) dX8_init_68 ?_
  refine c_ge_f (pc := 70) (tgt := 89) g (by decide) (by decide) dX8_init_70 ?_
  refine c_aload_n (pc := 73) g rfl 1 rfl dX8_init_73 ?_
  refine c_get (pc := 74) (n := 59) (k := 1) (fs := (Value.int 0 :: Value.ref (ba + 2) :: Value.ref (ba + 6) :: Value.ref (ba + 15) :: Value.ref (ba + 16) :: Value.ref (ba + 17) :: Value.ref (ba + 38) :: [])) g (Value.ref (ba + 6)) (by decide) rfl cfl_X8_16 rfl dX8_init_74 ?_
  refine c_iload_n (pc := 77) g rfl 0 rfl dX8_init_77 ?_
  refine c_aald (pc := 78) (n := 59) (k := 6) (N := 8) g (ba + 11) (by decide) rfl (by unfold vp_in; decide) rfl dX8_init_78 ?_
  refine c_iconst (pc := 79) (v := (5 : Int32)) g (by decide) dX8_init_79 ?_
  refine c_callS (pc := 80) (n := 59) (nA := 2) (As := [Value.ref (ba + 11), Value.int (5 : Int32)]) g (cc_fill (k := 11) (f := (fun _ => 0)) (5 : Int32) (by decide) (by decide) rfl) cm_X8_32 cs_m_J7_fill_53178 cz_m_J7_fill_53178 cc_m_J7_fill_53178 ⟨by decide +kernel, by decide +kernel, by decide +kernel⟩ rfl ⟨(Nat.le_of_ble_eq_true rfl), (Nat.le_of_ble_eq_true rfl)⟩ ⟨(Nat.le_of_ble_eq_true rfl), (Nat.le_of_ble_eq_true rfl)⟩ rfl (Nat.le_of_ble_eq_true rfl) dX8_init_80 ?_
  refine c_iinc (pc := 83) (v := (5 : Int32)) (lv' := [(1, Value.int (5 : Int32)), (0, Value.ref (ba + 1))]) g 0 rfl (by decide) (by decide) rfl dX8_init_83 ?_
  refine c_goto (pc := 86) (tgt := 67) g (by decide) dX8_init_86 ?_
  refine c_iload_n (pc := 67) g rfl 0 rfl dX8_init_67 ?_
  refine c_bipush (pc := 68) (v := (8 : Int32)) g (by decide) dX8_init_68 ?_
  refine c_ge_f (pc := 70) (tgt := 89) g (by decide) (by decide) dX8_init_70 ?_
  refine c_aload_n (pc := 73) g rfl 1 rfl dX8_init_73 ?_
  refine c_get (pc := 74) (n := 59) (k := 1) (fs := (Value.int 0 :: Value.ref (ba + 2) :: Value.ref (ba + 6) :: Value.ref (ba + 15) :: Value.ref (ba + 16) :: Value.ref (ba + 17) :: Value.ref (ba + 38) :: [])) g (Value.ref (ba + 6)) (by decide) rfl cfl_X8_16 rfl dX8_init_74 ?_
  refine c_iload_n (pc := 77) g rfl 0 rfl dX8_init_77 ?_
  refine c_aald (pc := 78) (n := 59) (k := 6) (N := 8) g (ba + 12) (by decide) rfl (by unfold vp_in; decide) rfl dX8_init_78 ?_
  refine c_iconst (pc := 79) (v := (5 : Int32)) g (by decide) dX8_init_79 ?_
  refine c_callS (pc := 80) (n := 59) (nA := 2) (As := [Value.ref (ba + 12), Value.int (5 : Int32)]) g (cc_fill (k := 12) (f := (fun _ => 0)) (5 : Int32) (by decide) (by decide) rfl) cm_X8_32 cs_m_J7_fill_53178 cz_m_J7_fill_53178 cc_m_J7_fill_53178 ⟨by decide +kernel, by decide +kernel, by decide +kernel⟩ rfl ⟨(Nat.le_of_ble_eq_true rfl), (Nat.le_of_ble_eq_true rfl)⟩ ⟨(Nat.le_of_ble_eq_true rfl), (Nat.le_of_ble_eq_true rfl)⟩ rfl (Nat.le_of_ble_eq_true rfl) dX8_init_80 ?_
  refine c_iinc (pc := 83) (v := (6 : Int32)) (lv' := [(1, Value.int (6 : Int32)), (0, Value.ref (ba + 1))]) g 0 rfl (by decide) (by decide) rfl dX8_init_83 ?_
  refine c_goto (pc := 86) (tgt := 67) g (by decide) dX8_init_86 ?_
  refine c_iload_n (pc := 67) g rfl 0 rfl dX8_init_67 ?_
  refine c_bipush (pc := 68) (v := (8 : Int32)) g (by decide) dX8_init_68 ?_
  refine c_ge_f (pc := 70) (tgt := 89) g (by decide) (by decide) dX8_init_70 ?_
  refine c_aload_n (pc := 73) g rfl 1 rfl dX8_init_73 ?_
  refine c_get (pc := 74) (n := 59) (k := 1) (fs := (Value.int 0 :: Value.ref (ba + 2) :: Value.ref (ba + 6) :: Value.ref (ba + 15) :: Value.ref (ba + 16) :: Value.ref (ba + 17) :: Value.ref (ba + 38) :: [])) g (Value.ref (ba + 6)) (by decide) rfl cfl_X8_16 rfl dX8_init_74 ?_
  refine c_iload_n (pc := 77) g rfl 0 rfl dX8_init_77 ?_
  refine c_aald (pc := 78) (n := 59) (k := 6) (N := 8) g (ba + 13) (by decide) rfl (by unfold vp_in; decide) rfl dX8_init_78 ?_
  refine c_iconst (pc := 79) (v := (5 : Int32)) g (by decide) dX8_init_79 ?_
  refine c_callS (pc := 80) (n := 59) (nA := 2) (As := [Value.ref (ba + 13), Value.int (5 : Int32)]) g (cc_fill (k := 13) (f := (fun _ => 0)) (5 : Int32) (by decide) (by decide) rfl) cm_X8_32 cs_m_J7_fill_53178 cz_m_J7_fill_53178 cc_m_J7_fill_53178 ⟨by decide +kernel, by decide +kernel, by decide +kernel⟩ rfl ⟨(Nat.le_of_ble_eq_true rfl), (Nat.le_of_ble_eq_true rfl)⟩ ⟨(Nat.le_of_ble_eq_true rfl), (Nat.le_of_ble_eq_true rfl)⟩ rfl (Nat.le_of_ble_eq_true rfl) dX8_init_80 ?_
  refine c_iinc (pc := 83) (v := (7 : Int32)) (lv' := [(1, Value.int (7 : Int32)), (0, Value.ref (ba + 1))]) g 0 rfl (by decide) (by decide) rfl dX8_init_83 ?_
  refine c_goto (pc := 86) (tgt := 67) g (by decide) dX8_init_86 ?_
  refine c_iload_n (pc := 67) g rfl 0 rfl dX8_init_67 ?_
  refine c_bipush (pc := 68) (v := (8 : Int32)) g (by decide) dX8_init_68 ?_
  refine c_ge_f (pc := 70) (tgt := 89) g (by decide) (by decide) dX8_init_70 ?_
  refine c_aload_n (pc := 73) g rfl 1 rfl dX8_init_73 ?_
  refine c_get (pc := 74) (n := 59) (k := 1) (fs := (Value.int 0 :: Value.ref (ba + 2) :: Value.ref (ba + 6) :: Value.ref (ba + 15) :: Value.ref (ba + 16) :: Value.ref (ba + 17) :: Value.ref (ba + 38) :: [])) g (Value.ref (ba + 6)) (by decide) rfl cfl_X8_16 rfl dX8_init_74 ?_
  refine c_iload_n (pc := 77) g rfl 0 rfl dX8_init_77 ?_
  refine c_aald (pc := 78) (n := 59) (k := 6) (N := 8) g (ba + 14) (by decide) rfl (by unfold vp_in; decide) rfl dX8_init_78 ?_
  refine c_iconst (pc := 79) (v := (5 : Int32)) g (by decide) dX8_init_79 ?_
  refine c_callS (pc := 80) (n := 59) (nA := 2) (As := [Value.ref (ba + 14), Value.int (5 : Int32)]) g (cc_fill (k := 14) (f := (fun _ => 0)) (5 : Int32) (by decide) (by decide) rfl) cm_X8_32 cs_m_J7_fill_53178 cz_m_J7_fill_53178 cc_m_J7_fill_53178 ⟨by decide +kernel, by decide +kernel, by decide +kernel⟩ rfl ⟨(Nat.le_of_ble_eq_true rfl), (Nat.le_of_ble_eq_true rfl)⟩ ⟨(Nat.le_of_ble_eq_true rfl), (Nat.le_of_ble_eq_true rfl)⟩ rfl (Nat.le_of_ble_eq_true rfl) dX8_init_80 ?_
  refine c_iinc (pc := 83) (v := (8 : Int32)) (lv' := [(1, Value.int (8 : Int32)), (0, Value.ref (ba + 1))]) g 0 rfl (by decide) (by decide) rfl dX8_init_83 ?_
  refine c_goto (pc := 86) (tgt := 67) g (by decide) dX8_init_86 ?_
  refine c_iload_n (pc := 67) g rfl 0 rfl dX8_init_67 ?_
  refine c_bipush (pc := 68) (v := (8 : Int32)) g (by decide) dX8_init_68 ?_
  refine c_ge_t (pc := 70) (tgt := 89) g (by decide) (by decide) dX8_init_70 ?_
  exact c_ret (pc := 89) g hrt ⟨rfl, rfl⟩ rfl rfl dX8_init_89
def W_X4_init_60 (cA : Nat → ClassId) (ba : Nat) (hp : Nat → va_E) : Nat → va_E := upE (upE (upE (upE (upE (upE (upE (upE (upE (upE (upE (hp) 60 (.inl (cA 1, 120, .inl (fun _ => 0)))) 59 (.inr (4, (Value.int 0 :: Value.ref (ba + 60) :: Value.int 0 :: Value.null :: Value.int 0 :: Value.null :: Value.int 0 :: Value.null :: Value.int 0 :: [])))) 61 (.inl (cA 1, 121, .inl (fun _ => 0)))) 59 (.inr (4, (Value.int 0 :: Value.ref (ba + 60) :: Value.int 0 :: Value.ref (ba + 61) :: Value.int 0 :: Value.null :: Value.int 0 :: Value.null :: Value.int 0 :: [])))) 62 (.inl (cA 1, 121, .inl (fun _ => 0)))) 59 (.inr (4, (Value.int 0 :: Value.ref (ba + 60) :: Value.int 0 :: Value.ref (ba + 61) :: Value.int 0 :: Value.ref (ba + 62) :: Value.int 0 :: Value.null :: Value.int 0 :: [])))) 63 (.inl (cA 1, 121, .inl (fun _ => 0)))) 59 (.inr (4, (Value.int 0 :: Value.ref (ba + 60) :: Value.int 0 :: Value.ref (ba + 61) :: Value.int 0 :: Value.ref (ba + 62) :: Value.int 0 :: Value.ref (ba + 63) :: Value.int 0 :: [])))) 62 (.inl (cA 1, 121, .inl (upd (fun _ => 0) (Int32.toNatClampNeg (0 : Int32)) (10110 : Int32))))) 62 (.inl (cA 1, 121, .inl (upd (upd (fun _ => 0) (Int32.toNatClampNeg (0 : Int32)) (10110 : Int32)) (Int32.toNatClampNeg (1 : Int32)) (10059 : Int32))))) 59 (.inr (4, (Value.int 0 :: Value.ref (ba + 60) :: Value.int 0 :: Value.ref (ba + 61) :: Value.int 0 :: Value.ref (ba + 62) :: Value.int (2 : Int32) :: Value.ref (ba + 63) :: Value.int 0 :: [])))
set_option maxRecDepth 100000 in
set_option maxHeartbeats 16000000 in
theorem cc_X4_init_60 {D : va_G} {cA : Nat → ClassId} {ba : Nat} {hp : Nat → va_E} (h0 : hp 59 = .inr (4, (Value.int 0 :: Value.null :: Value.int 0 :: Value.null :: Value.int 0 :: Value.null :: Value.int 0 :: Value.null :: Value.int 0 :: []))) : CCx D cA ba yX4_init cX4_init 1 1 20 4 483 [.ref (ba + 59)] 60 hp 64 (W_X4_init_60 cA ba hp) := by
  refine CCx_of (by decide +kernel) (Nat.le_of_ble_eq_true rfl) ?_
  intro p l e s m args below meth c g hrt hmn
  refine c_aload_n (pc := 0) g rfl 0 rfl dX4_init_0 ?_
  refine c_obj (pc := 1) g co_X4_1 (Nat.le_of_ble_eq_true rfl) (Nat.le_of_ble_eq_true rfl) (Nat.le_of_ble_eq_true rfl) dX4_init_1 ?_
  refine c_aload_n (pc := 4) g rfl 0 rfl dX4_init_4 ?_
  refine c_bipush (pc := 5) (v := (120 : Int32)) g (by decide) dX4_init_5 ?_
  refine c_newa (pc := 7) (n := 60) (a0 := (120, .inl (fun _ => 0))) (t := 0) (ty := .int) g rfl ca_int rfl (fun _ _ => rfl) (fun _ => rfl) (by decide) (by decide) (by decide) (Nat.le_of_ble_eq_true rfl) (Nat.le_of_ble_eq_true rfl) dX4_init_7 ?_
  refine c_put (pc := 9) (n := 61) (k := 59) (fs := (Value.int 0 :: Value.null :: Value.int 0 :: Value.null :: Value.int 0 :: Value.null :: Value.int 0 :: Value.null :: Value.int 0 :: [])) (fs2 := (Value.int 0 :: Value.ref (ba + 60) :: Value.int 0 :: Value.null :: Value.int 0 :: Value.null :: Value.int 0 :: Value.null :: Value.int 0 :: [])) g (by decide) h0 rfl cfl_X4_9 (fun _ => ⟨hmn, fun C T N h => by cases Option.some.inj (show some (RX4, TX4, 9) = some (C, T, N) from h); rfl⟩) rfl rfl (Nat.le_of_ble_eq_true rfl) dX4_init_9 ?_
  refine c_aload_n (pc := 12) g rfl 0 rfl dX4_init_12 ?_
  refine c_bipush (pc := 13) (v := (121 : Int32)) g (by decide) dX4_init_13 ?_
  refine c_newa (pc := 15) (n := 61) (a0 := (121, .inl (fun _ => 0))) (t := 0) (ty := .int) g rfl ca_int rfl (fun _ _ => rfl) (fun _ => rfl) (by decide) (by decide) (by decide) (Nat.le_of_ble_eq_true rfl) (Nat.le_of_ble_eq_true rfl) dX4_init_15 ?_
  refine c_put (pc := 17) (n := 62) (k := 59) (fs := (Value.int 0 :: Value.ref (ba + 60) :: Value.int 0 :: Value.null :: Value.int 0 :: Value.null :: Value.int 0 :: Value.null :: Value.int 0 :: [])) (fs2 := (Value.int 0 :: Value.ref (ba + 60) :: Value.int 0 :: Value.ref (ba + 61) :: Value.int 0 :: Value.null :: Value.int 0 :: Value.null :: Value.int 0 :: [])) g (by decide) rfl rfl cfl_X4_13 (fun _ => ⟨hmn, fun C T N h => by cases Option.some.inj (show some (RX4, TX4, 9) = some (C, T, N) from h); rfl⟩) rfl rfl (Nat.le_of_ble_eq_true rfl) dX4_init_17 ?_
  refine c_aload_n (pc := 20) g rfl 0 rfl dX4_init_20 ?_
  refine c_bipush (pc := 21) (v := (121 : Int32)) g (by decide) dX4_init_21 ?_
  refine c_newa (pc := 23) (n := 62) (a0 := (121, .inl (fun _ => 0))) (t := 0) (ty := .int) g rfl ca_int rfl (fun _ _ => rfl) (fun _ => rfl) (by decide) (by decide) (by decide) (Nat.le_of_ble_eq_true rfl) (Nat.le_of_ble_eq_true rfl) dX4_init_23 ?_
  refine c_put (pc := 25) (n := 63) (k := 59) (fs := (Value.int 0 :: Value.ref (ba + 60) :: Value.int 0 :: Value.ref (ba + 61) :: Value.int 0 :: Value.null :: Value.int 0 :: Value.null :: Value.int 0 :: [])) (fs2 := (Value.int 0 :: Value.ref (ba + 60) :: Value.int 0 :: Value.ref (ba + 61) :: Value.int 0 :: Value.ref (ba + 62) :: Value.int 0 :: Value.null :: Value.int 0 :: [])) g (by decide) rfl rfl cfl_X4_16 (fun _ => ⟨hmn, fun C T N h => by cases Option.some.inj (show some (RX4, TX4, 9) = some (C, T, N) from h); rfl⟩) rfl rfl (Nat.le_of_ble_eq_true rfl) dX4_init_25 ?_
  refine c_aload_n (pc := 28) g rfl 0 rfl dX4_init_28 ?_
  refine c_bipush (pc := 29) (v := (121 : Int32)) g (by decide) dX4_init_29 ?_
  refine c_newa (pc := 31) (n := 63) (a0 := (121, .inl (fun _ => 0))) (t := 0) (ty := .int) g rfl ca_int rfl (fun _ _ => rfl) (fun _ => rfl) (by decide) (by decide) (by decide) (Nat.le_of_ble_eq_true rfl) (Nat.le_of_ble_eq_true rfl) dX4_init_31 ?_
  refine c_put (pc := 33) (n := 64) (k := 59) (fs := (Value.int 0 :: Value.ref (ba + 60) :: Value.int 0 :: Value.ref (ba + 61) :: Value.int 0 :: Value.ref (ba + 62) :: Value.int 0 :: Value.null :: Value.int 0 :: [])) (fs2 := (Value.int 0 :: Value.ref (ba + 60) :: Value.int 0 :: Value.ref (ba + 61) :: Value.int 0 :: Value.ref (ba + 62) :: Value.int 0 :: Value.ref (ba + 63) :: Value.int 0 :: [])) g (by decide) rfl rfl cfl_X4_19 (fun _ => ⟨hmn, fun C T N h => by cases Option.some.inj (show some (RX4, TX4, 9) = some (C, T, N) from h); rfl⟩) rfl rfl (Nat.le_of_ble_eq_true rfl) dX4_init_33 ?_
  refine c_aload_n (pc := 36) g rfl 0 rfl dX4_init_36 ?_
  refine c_get (pc := 37) (n := 64) (k := 59) (fs := (Value.int 0 :: Value.ref (ba + 60) :: Value.int 0 :: Value.ref (ba + 61) :: Value.int 0 :: Value.ref (ba + 62) :: Value.int 0 :: Value.ref (ba + 63) :: Value.int 0 :: [])) g (Value.ref (ba + 62)) (by decide) rfl cfl_X4_16 rfl dX4_init_37 ?_
  refine c_iconst (pc := 40) (v := (0 : Int32)) g (by decide) dX4_init_40 ?_
  refine c_sipush (pc := 41) (v := (10110 : Int32)) g (by decide) dX4_init_41 ?_
  refine c_iast (pc := 44) (n := 64) (k := 62) (N := 121) g (by decide) rfl (by unfold vp_in; decide) dX4_init_44 ?_
  refine c_aload_n (pc := 45) g rfl 0 rfl dX4_init_45 ?_
  refine c_get (pc := 46) (n := 64) (k := 59) (fs := (Value.int 0 :: Value.ref (ba + 60) :: Value.int 0 :: Value.ref (ba + 61) :: Value.int 0 :: Value.ref (ba + 62) :: Value.int 0 :: Value.ref (ba + 63) :: Value.int 0 :: [])) g (Value.ref (ba + 62)) (by decide) rfl cfl_X4_16 rfl dX4_init_46 ?_
  refine c_iconst (pc := 49) (v := (1 : Int32)) g (by decide) dX4_init_49 ?_
  refine c_sipush (pc := 50) (v := (10059 : Int32)) g (by decide) dX4_init_50 ?_
  refine c_iast (pc := 53) (n := 64) (k := 62) (N := 121) g (by decide) rfl (by unfold vp_in; decide) dX4_init_53 ?_
  refine c_aload_n (pc := 54) g rfl 0 rfl dX4_init_54 ?_
  refine c_iconst (pc := 55) (v := (2 : Int32)) g (by decide) dX4_init_55 ?_
  refine c_put (pc := 56) (n := 64) (k := 59) (fs := (Value.int 0 :: Value.ref (ba + 60) :: Value.int 0 :: Value.ref (ba + 61) :: Value.int 0 :: Value.ref (ba + 62) :: Value.int 0 :: Value.ref (ba + 63) :: Value.int 0 :: [])) (fs2 := (Value.int 0 :: Value.ref (ba + 60) :: Value.int 0 :: Value.ref (ba + 61) :: Value.int 0 :: Value.ref (ba + 62) :: Value.int (2 : Int32) :: Value.ref (ba + 63) :: Value.int 0 :: [])) g (by decide) rfl rfl cfl_X4_22 (fun h => by cases h) rfl rfl (Nat.le_of_ble_eq_true rfl) dX4_init_56 ?_
  exact c_ret (pc := 59) g hrt ⟨rfl, rfl⟩ rfl rfl dX4_init_59
def W_X2_init_65 (cA : Nat → ClassId) (ba : Nat) (hp : Nat → va_E) : Nat → va_E := upE (upE (upE (upE (upE (upE (upE (upE (upE (upE (upE (upE (upE (upE (upE (upE (upE (hp) 64 (.inr (2, (Value.null :: Value.null :: Value.int (1 : Int32) :: Value.null :: Value.null :: Value.int 0 :: Value.null :: Value.null :: Value.null :: Value.null :: Value.int 0 :: Value.null :: [])))) 65 (.inl (cA 1, 1024, .inl (fun _ => 0)))) 64 (.inr (2, (Value.null :: Value.null :: Value.int (1 : Int32) :: Value.ref (ba + 65) :: Value.null :: Value.int 0 :: Value.null :: Value.null :: Value.null :: Value.null :: Value.int 0 :: Value.null :: [])))) 66 (.inl (cA 1, 1024, .inl (fun _ => 0)))) 64 (.inr (2, (Value.null :: Value.null :: Value.int (1 : Int32) :: Value.ref (ba + 65) :: Value.ref (ba + 66) :: Value.int 0 :: Value.null :: Value.null :: Value.null :: Value.null :: Value.int 0 :: Value.null :: [])))) 67 (.inl (cA 1, 5, .inl (fun _ => 0)))) 64 (.inr (2, (Value.null :: Value.null :: Value.int (1 : Int32) :: Value.ref (ba + 65) :: Value.ref (ba + 66) :: Value.int 0 :: Value.ref (ba + 67) :: Value.null :: Value.null :: Value.null :: Value.int 0 :: Value.null :: [])))) 68 (.inl (cA 1, 5, .inl (fun _ => 0)))) 64 (.inr (2, (Value.null :: Value.null :: Value.int (1 : Int32) :: Value.ref (ba + 65) :: Value.ref (ba + 66) :: Value.int 0 :: Value.ref (ba + 67) :: Value.ref (ba + 68) :: Value.null :: Value.null :: Value.int 0 :: Value.null :: [])))) 69 (.inl (cA 1, 160, .inl (fun _ => 0)))) 64 (.inr (2, (Value.null :: Value.null :: Value.int (1 : Int32) :: Value.ref (ba + 65) :: Value.ref (ba + 66) :: Value.int 0 :: Value.ref (ba + 67) :: Value.ref (ba + 68) :: Value.ref (ba + 69) :: Value.null :: Value.int 0 :: Value.null :: [])))) 70 (.inl (cA 1, 1024, .inl (fun _ => 0)))) 64 (.inr (2, (Value.null :: Value.null :: Value.int (1 : Int32) :: Value.ref (ba + 65) :: Value.ref (ba + 66) :: Value.int 0 :: Value.ref (ba + 67) :: Value.ref (ba + 68) :: Value.ref (ba + 69) :: Value.ref (ba + 70) :: Value.int 0 :: Value.null :: [])))) 71 (.inl (cA 1, 1024, .inl (fun _ => 0)))) 64 (.inr (2, (Value.null :: Value.null :: Value.int (1 : Int32) :: Value.ref (ba + 65) :: Value.ref (ba + 66) :: Value.int 0 :: Value.ref (ba + 67) :: Value.ref (ba + 68) :: Value.ref (ba + 69) :: Value.ref (ba + 70) :: Value.int 0 :: Value.ref (ba + 71) :: [])))) 64 (.inr (2, (Value.ref (ba + 1) :: Value.null :: Value.int (1 : Int32) :: Value.ref (ba + 65) :: Value.ref (ba + 66) :: Value.int 0 :: Value.ref (ba + 67) :: Value.ref (ba + 68) :: Value.ref (ba + 69) :: Value.ref (ba + 70) :: Value.int 0 :: Value.ref (ba + 71) :: [])))) 64 (.inr (2, (Value.ref (ba + 1) :: Value.ref (ba + 59) :: Value.int (1 : Int32) :: Value.ref (ba + 65) :: Value.ref (ba + 66) :: Value.int 0 :: Value.ref (ba + 67) :: Value.ref (ba + 68) :: Value.ref (ba + 69) :: Value.ref (ba + 70) :: Value.int 0 :: Value.ref (ba + 71) :: [])))
set_option maxRecDepth 100000 in
set_option maxHeartbeats 16000000 in
theorem cc_X2_init_65 {D : va_G} {cA : Nat → ClassId} {ba : Nat} {hp : Nat → va_E} (h0 : hp 64 = .inr (2, (Value.null :: Value.null :: Value.int 0 :: Value.null :: Value.null :: Value.int 0 :: Value.null :: Value.null :: Value.null :: Value.null :: Value.int 0 :: Value.null :: []))) : CCx D cA ba yX2_init cX2_init 3 1 20 7 4266 [.ref (ba + 64), .ref (ba + 1), .ref (ba + 59)] 65 hp 72 (W_X2_init_65 cA ba hp) := by
  refine CCx_of (by decide +kernel) (Nat.le_of_ble_eq_true rfl) ?_
  intro p l e s m args below meth c g hrt hmn
  refine c_aload_n (pc := 0) g rfl 0 rfl dX2_init_0 ?_
  refine c_obj (pc := 1) g co_X2_3 (Nat.le_of_ble_eq_true rfl) (Nat.le_of_ble_eq_true rfl) (Nat.le_of_ble_eq_true rfl) dX2_init_1 ?_
  refine c_aload_n (pc := 4) g rfl 0 rfl dX2_init_4 ?_
  refine c_iconst (pc := 5) (v := (1 : Int32)) g (by decide) dX2_init_5 ?_
  refine c_put (pc := 6) (n := 65) (k := 64) (fs := (Value.null :: Value.null :: Value.int 0 :: Value.null :: Value.null :: Value.int 0 :: Value.null :: Value.null :: Value.null :: Value.null :: Value.int 0 :: Value.null :: [])) (fs2 := (Value.null :: Value.null :: Value.int (1 : Int32) :: Value.null :: Value.null :: Value.int 0 :: Value.null :: Value.null :: Value.null :: Value.null :: Value.int 0 :: Value.null :: [])) g (by decide) h0 rfl cfl_X2_9 (fun h => by cases h) rfl rfl (Nat.le_of_ble_eq_true rfl) dX2_init_6 ?_
  refine c_aload_n (pc := 9) g rfl 0 rfl dX2_init_9 ?_
  refine c_sipush (pc := 10) (v := (1024 : Int32)) g (by decide) dX2_init_10 ?_
  refine c_newa (pc := 13) (n := 65) (a0 := (1024, .inl (fun _ => 0))) (t := 0) (ty := .int) g rfl ca_int rfl (fun _ _ => rfl) (fun _ => rfl) (by decide) (by decide) (by decide) (Nat.le_of_ble_eq_true rfl) (Nat.le_of_ble_eq_true rfl) dX2_init_13 ?_
  refine c_put (pc := 15) (n := 66) (k := 64) (fs := (Value.null :: Value.null :: Value.int (1 : Int32) :: Value.null :: Value.null :: Value.int 0 :: Value.null :: Value.null :: Value.null :: Value.null :: Value.int 0 :: Value.null :: [])) (fs2 := (Value.null :: Value.null :: Value.int (1 : Int32) :: Value.ref (ba + 65) :: Value.null :: Value.int 0 :: Value.null :: Value.null :: Value.null :: Value.null :: Value.int 0 :: Value.null :: [])) g (by decide) rfl rfl cfl_X2_15 (fun _ => ⟨hmn, fun C T N h => by cases Option.some.inj (show some (RX2, TX2, 12) = some (C, T, N) from h); rfl⟩) rfl rfl (Nat.le_of_ble_eq_true rfl) dX2_init_15 ?_
  refine c_aload_n (pc := 18) g rfl 0 rfl dX2_init_18 ?_
  refine c_sipush (pc := 19) (v := (1024 : Int32)) g (by decide) dX2_init_19 ?_
  refine c_newa (pc := 22) (n := 66) (a0 := (1024, .inl (fun _ => 0))) (t := 0) (ty := .int) g rfl ca_int rfl (fun _ _ => rfl) (fun _ => rfl) (by decide) (by decide) (by decide) (Nat.le_of_ble_eq_true rfl) (Nat.le_of_ble_eq_true rfl) dX2_init_22 ?_
  refine c_put (pc := 24) (n := 67) (k := 64) (fs := (Value.null :: Value.null :: Value.int (1 : Int32) :: Value.ref (ba + 65) :: Value.null :: Value.int 0 :: Value.null :: Value.null :: Value.null :: Value.null :: Value.int 0 :: Value.null :: [])) (fs2 := (Value.null :: Value.null :: Value.int (1 : Int32) :: Value.ref (ba + 65) :: Value.ref (ba + 66) :: Value.int 0 :: Value.null :: Value.null :: Value.null :: Value.null :: Value.int 0 :: Value.null :: [])) g (by decide) rfl rfl cfl_X2_19 (fun _ => ⟨hmn, fun C T N h => by cases Option.some.inj (show some (RX2, TX2, 12) = some (C, T, N) from h); rfl⟩) rfl rfl (Nat.le_of_ble_eq_true rfl) dX2_init_24 ?_
  refine c_aload_n (pc := 27) g rfl 0 rfl dX2_init_27 ?_
  refine c_iconst (pc := 28) (v := (5 : Int32)) g (by decide) dX2_init_28 ?_
  refine c_newa (pc := 29) (n := 67) (a0 := (5, .inl (fun _ => 0))) (t := 0) (ty := .int) g rfl ca_int rfl (fun _ _ => rfl) (fun _ => rfl) (by decide) (by decide) (by decide) (Nat.le_of_ble_eq_true rfl) (Nat.le_of_ble_eq_true rfl) dX2_init_29 ?_
  refine c_put (pc := 31) (n := 68) (k := 64) (fs := (Value.null :: Value.null :: Value.int (1 : Int32) :: Value.ref (ba + 65) :: Value.ref (ba + 66) :: Value.int 0 :: Value.null :: Value.null :: Value.null :: Value.null :: Value.int 0 :: Value.null :: [])) (fs2 := (Value.null :: Value.null :: Value.int (1 : Int32) :: Value.ref (ba + 65) :: Value.ref (ba + 66) :: Value.int 0 :: Value.ref (ba + 67) :: Value.null :: Value.null :: Value.null :: Value.int 0 :: Value.null :: [])) g (by decide) rfl rfl cfl_X2_22 (fun _ => ⟨hmn, fun C T N h => by cases Option.some.inj (show some (RX2, TX2, 12) = some (C, T, N) from h); rfl⟩) rfl rfl (Nat.le_of_ble_eq_true rfl) dX2_init_31 ?_
  refine c_aload_n (pc := 34) g rfl 0 rfl dX2_init_34 ?_
  refine c_iconst (pc := 35) (v := (5 : Int32)) g (by decide) dX2_init_35 ?_
  refine c_newa (pc := 36) (n := 68) (a0 := (5, .inl (fun _ => 0))) (t := 0) (ty := .int) g rfl ca_int rfl (fun _ _ => rfl) (fun _ => rfl) (by decide) (by decide) (by decide) (Nat.le_of_ble_eq_true rfl) (Nat.le_of_ble_eq_true rfl) dX2_init_36 ?_
  refine c_put (pc := 38) (n := 69) (k := 64) (fs := (Value.null :: Value.null :: Value.int (1 : Int32) :: Value.ref (ba + 65) :: Value.ref (ba + 66) :: Value.int 0 :: Value.ref (ba + 67) :: Value.null :: Value.null :: Value.null :: Value.int 0 :: Value.null :: [])) (fs2 := (Value.null :: Value.null :: Value.int (1 : Int32) :: Value.ref (ba + 65) :: Value.ref (ba + 66) :: Value.int 0 :: Value.ref (ba + 67) :: Value.ref (ba + 68) :: Value.null :: Value.null :: Value.int 0 :: Value.null :: [])) g (by decide) rfl rfl cfl_X2_25 (fun _ => ⟨hmn, fun C T N h => by cases Option.some.inj (show some (RX2, TX2, 12) = some (C, T, N) from h); rfl⟩) rfl rfl (Nat.le_of_ble_eq_true rfl) dX2_init_38 ?_
  refine c_aload_n (pc := 41) g rfl 0 rfl dX2_init_41 ?_
  refine c_sipush (pc := 42) (v := (160 : Int32)) g (by decide) dX2_init_42 ?_
  refine c_newa (pc := 45) (n := 69) (a0 := (160, .inl (fun _ => 0))) (t := 0) (ty := .int) g rfl ca_int rfl (fun _ _ => rfl) (fun _ => rfl) (by decide) (by decide) (by decide) (Nat.le_of_ble_eq_true rfl) (Nat.le_of_ble_eq_true rfl) dX2_init_45 ?_
  refine c_put (pc := 47) (n := 70) (k := 64) (fs := (Value.null :: Value.null :: Value.int (1 : Int32) :: Value.ref (ba + 65) :: Value.ref (ba + 66) :: Value.int 0 :: Value.ref (ba + 67) :: Value.ref (ba + 68) :: Value.null :: Value.null :: Value.int 0 :: Value.null :: [])) (fs2 := (Value.null :: Value.null :: Value.int (1 : Int32) :: Value.ref (ba + 65) :: Value.ref (ba + 66) :: Value.int 0 :: Value.ref (ba + 67) :: Value.ref (ba + 68) :: Value.ref (ba + 69) :: Value.null :: Value.int 0 :: Value.null :: [])) g (by decide) rfl rfl cfl_X2_28 (fun _ => ⟨hmn, fun C T N h => by cases Option.some.inj (show some (RX2, TX2, 12) = some (C, T, N) from h); rfl⟩) rfl rfl (Nat.le_of_ble_eq_true rfl) dX2_init_47 ?_
  refine c_aload_n (pc := 50) g rfl 0 rfl dX2_init_50 ?_
  refine c_sipush (pc := 51) (v := (1024 : Int32)) g (by decide) dX2_init_51 ?_
  refine c_newa (pc := 54) (n := 70) (a0 := (1024, .inl (fun _ => 0))) (t := 0) (ty := .int) g rfl ca_int rfl (fun _ _ => rfl) (fun _ => rfl) (by decide) (by decide) (by decide) (Nat.le_of_ble_eq_true rfl) (Nat.le_of_ble_eq_true rfl) dX2_init_54 ?_
  refine c_put (pc := 56) (n := 71) (k := 64) (fs := (Value.null :: Value.null :: Value.int (1 : Int32) :: Value.ref (ba + 65) :: Value.ref (ba + 66) :: Value.int 0 :: Value.ref (ba + 67) :: Value.ref (ba + 68) :: Value.ref (ba + 69) :: Value.null :: Value.int 0 :: Value.null :: [])) (fs2 := (Value.null :: Value.null :: Value.int (1 : Int32) :: Value.ref (ba + 65) :: Value.ref (ba + 66) :: Value.int 0 :: Value.ref (ba + 67) :: Value.ref (ba + 68) :: Value.ref (ba + 69) :: Value.ref (ba + 70) :: Value.int 0 :: Value.null :: [])) g (by decide) rfl rfl cfl_X2_31 (fun _ => ⟨hmn, fun C T N h => by cases Option.some.inj (show some (RX2, TX2, 12) = some (C, T, N) from h); rfl⟩) rfl rfl (Nat.le_of_ble_eq_true rfl) dX2_init_56 ?_
  refine c_aload_n (pc := 59) g rfl 0 rfl dX2_init_59 ?_
  refine c_sipush (pc := 60) (v := (1024 : Int32)) g (by decide) dX2_init_60 ?_
  refine c_newa (pc := 63) (n := 71) (a0 := (1024, .inl (fun _ => 0))) (t := 0) (ty := .int) g rfl ca_int rfl (fun _ _ => rfl) (fun _ => rfl) (by decide) (by decide) (by decide) (Nat.le_of_ble_eq_true rfl) (Nat.le_of_ble_eq_true rfl) dX2_init_63 ?_
  refine c_put (pc := 65) (n := 72) (k := 64) (fs := (Value.null :: Value.null :: Value.int (1 : Int32) :: Value.ref (ba + 65) :: Value.ref (ba + 66) :: Value.int 0 :: Value.ref (ba + 67) :: Value.ref (ba + 68) :: Value.ref (ba + 69) :: Value.ref (ba + 70) :: Value.int 0 :: Value.null :: [])) (fs2 := (Value.null :: Value.null :: Value.int (1 : Int32) :: Value.ref (ba + 65) :: Value.ref (ba + 66) :: Value.int 0 :: Value.ref (ba + 67) :: Value.ref (ba + 68) :: Value.ref (ba + 69) :: Value.ref (ba + 70) :: Value.int 0 :: Value.ref (ba + 71) :: [])) g (by decide) rfl rfl cfl_X2_34 (fun _ => ⟨hmn, fun C T N h => by cases Option.some.inj (show some (RX2, TX2, 12) = some (C, T, N) from h); rfl⟩) rfl rfl (Nat.le_of_ble_eq_true rfl) dX2_init_65 ?_
  refine c_aload_n (pc := 68) g rfl 0 rfl dX2_init_68 ?_
  refine c_aload_n (pc := 69) g rfl 1 rfl dX2_init_69 ?_
  refine c_put (pc := 70) (n := 72) (k := 64) (fs := (Value.null :: Value.null :: Value.int (1 : Int32) :: Value.ref (ba + 65) :: Value.ref (ba + 66) :: Value.int 0 :: Value.ref (ba + 67) :: Value.ref (ba + 68) :: Value.ref (ba + 69) :: Value.ref (ba + 70) :: Value.int 0 :: Value.ref (ba + 71) :: [])) (fs2 := (Value.ref (ba + 1) :: Value.null :: Value.int (1 : Int32) :: Value.ref (ba + 65) :: Value.ref (ba + 66) :: Value.int 0 :: Value.ref (ba + 67) :: Value.ref (ba + 68) :: Value.ref (ba + 69) :: Value.ref (ba + 70) :: Value.int 0 :: Value.ref (ba + 71) :: [])) g (by decide) rfl rfl cfl_X2_37 (fun _ => ⟨hmn, fun C T N h => by cases Option.some.inj (show some (RX2, TX2, 12) = some (C, T, N) from h); rfl⟩) rfl rfl (Nat.le_of_ble_eq_true rfl) dX2_init_70 ?_
  refine c_aload_n (pc := 73) g rfl 0 rfl dX2_init_73 ?_
  refine c_aload_n (pc := 74) g rfl 2 rfl dX2_init_74 ?_
  refine c_put (pc := 75) (n := 72) (k := 64) (fs := (Value.ref (ba + 1) :: Value.null :: Value.int (1 : Int32) :: Value.ref (ba + 65) :: Value.ref (ba + 66) :: Value.int 0 :: Value.ref (ba + 67) :: Value.ref (ba + 68) :: Value.ref (ba + 69) :: Value.ref (ba + 70) :: Value.int 0 :: Value.ref (ba + 71) :: [])) (fs2 := (Value.ref (ba + 1) :: Value.ref (ba + 59) :: Value.int (1 : Int32) :: Value.ref (ba + 65) :: Value.ref (ba + 66) :: Value.int 0 :: Value.ref (ba + 67) :: Value.ref (ba + 68) :: Value.ref (ba + 69) :: Value.ref (ba + 70) :: Value.int 0 :: Value.ref (ba + 71) :: [])) g (by decide) rfl rfl cfl_X2_41 (fun _ => ⟨hmn, fun C T N h => by cases Option.some.inj (show some (RX2, TX2, 12) = some (C, T, N) from h); rfl⟩) rfl rfl (Nat.le_of_ble_eq_true rfl) dX2_init_75 ?_
  exact c_ret (pc := 78) g hrt ⟨rfl, rfl⟩ rfl rfl dX2_init_78
def W_X5_init_73 (cA : Nat → ClassId) (ba : Nat) (hp : Nat → va_E) : Nat → va_E := upE (upE (upE (upE (upE (upE (upE (upE (hp) 73 (.inl (cA 1, 1024, .inl (fun _ => 0)))) 72 (.inr (5, (Value.null :: Value.null :: Value.ref (ba + 73) :: Value.int 0 :: Value.null :: Value.null :: [])))) 74 (.inl (cA 1, 32, .inl (fun _ => 0)))) 72 (.inr (5, (Value.null :: Value.null :: Value.ref (ba + 73) :: Value.int 0 :: Value.ref (ba + 74) :: Value.null :: [])))) 75 (.inl (cA 1, 3208, .inl (fun _ => 0)))) 72 (.inr (5, (Value.null :: Value.null :: Value.ref (ba + 73) :: Value.int 0 :: Value.ref (ba + 74) :: Value.ref (ba + 75) :: [])))) 72 (.inr (5, (Value.ref (ba + 1) :: Value.null :: Value.ref (ba + 73) :: Value.int 0 :: Value.ref (ba + 74) :: Value.ref (ba + 75) :: [])))) 72 (.inr (5, (Value.ref (ba + 1) :: Value.ref (ba + 64) :: Value.ref (ba + 73) :: Value.int 0 :: Value.ref (ba + 74) :: Value.ref (ba + 75) :: [])))
set_option maxRecDepth 100000 in
set_option maxHeartbeats 16000000 in
theorem cc_X5_init_73 {D : va_G} {cA : Nat → ClassId} {ba : Nat} {hp : Nat → va_E} (h0 : hp 72 = .inr (5, (Value.null :: Value.null :: Value.null :: Value.int 0 :: Value.null :: Value.null :: []))) : CCx D cA ba yX5_init cX5_init 3 1 20 3 4264 [.ref (ba + 72), .ref (ba + 1), .ref (ba + 64)] 73 hp 76 (W_X5_init_73 cA ba hp) := by
  refine CCx_of (by decide +kernel) (Nat.le_of_ble_eq_true rfl) ?_
  intro p l e s m args below meth c g hrt hmn
  refine c_aload_n (pc := 0) g rfl 0 rfl dX5_init_0 ?_
  refine c_obj (pc := 1) g co_X5_3 (Nat.le_of_ble_eq_true rfl) (Nat.le_of_ble_eq_true rfl) (Nat.le_of_ble_eq_true rfl) dX5_init_1 ?_
  refine c_aload_n (pc := 4) g rfl 0 rfl dX5_init_4 ?_
  refine c_sipush (pc := 5) (v := (1024 : Int32)) g (by decide) dX5_init_5 ?_
  refine c_newa (pc := 8) (n := 73) (a0 := (1024, .inl (fun _ => 0))) (t := 0) (ty := .int) g rfl ca_int rfl (fun _ _ => rfl) (fun _ => rfl) (by decide) (by decide) (by decide) (Nat.le_of_ble_eq_true rfl) (Nat.le_of_ble_eq_true rfl) dX5_init_8 ?_
  refine c_put (pc := 10) (n := 74) (k := 72) (fs := (Value.null :: Value.null :: Value.null :: Value.int 0 :: Value.null :: Value.null :: [])) (fs2 := (Value.null :: Value.null :: Value.ref (ba + 73) :: Value.int 0 :: Value.null :: Value.null :: [])) g (by decide) h0 rfl cfl_X5_9 (fun _ => ⟨hmn, fun C T N h => by cases Option.some.inj (show some (RX5, TX5, 6) = some (C, T, N) from h); rfl⟩) rfl rfl (Nat.le_of_ble_eq_true rfl) dX5_init_10 ?_
  refine c_aload_n (pc := 13) g rfl 0 rfl dX5_init_13 ?_
  refine c_bipush (pc := 14) (v := (32 : Int32)) g (by decide) dX5_init_14 ?_
  refine c_newa (pc := 16) (n := 74) (a0 := (32, .inl (fun _ => 0))) (t := 0) (ty := .int) g rfl ca_int rfl (fun _ _ => rfl) (fun _ => rfl) (by decide) (by decide) (by decide) (Nat.le_of_ble_eq_true rfl) (Nat.le_of_ble_eq_true rfl) dX5_init_16 ?_
  refine c_put (pc := 18) (n := 75) (k := 72) (fs := (Value.null :: Value.null :: Value.ref (ba + 73) :: Value.int 0 :: Value.null :: Value.null :: [])) (fs2 := (Value.null :: Value.null :: Value.ref (ba + 73) :: Value.int 0 :: Value.ref (ba + 74) :: Value.null :: [])) g (by decide) rfl rfl cfl_X5_15 (fun _ => ⟨hmn, fun C T N h => by cases Option.some.inj (show some (RX5, TX5, 6) = some (C, T, N) from h); rfl⟩) rfl rfl (Nat.le_of_ble_eq_true rfl) dX5_init_18 ?_
  refine c_aload_n (pc := 21) g rfl 0 rfl dX5_init_21 ?_
  refine c_sipush (pc := 22) (v := (3208 : Int32)) g (by decide) dX5_init_22 ?_
  refine c_newa (pc := 25) (n := 75) (a0 := (3208, .inl (fun _ => 0))) (t := 0) (ty := .int) g rfl ca_int rfl (fun _ _ => rfl) (fun _ => rfl) (by decide) (by decide) (by decide) (Nat.le_of_ble_eq_true rfl) (Nat.le_of_ble_eq_true rfl) dX5_init_25 ?_
  refine c_put (pc := 27) (n := 76) (k := 72) (fs := (Value.null :: Value.null :: Value.ref (ba + 73) :: Value.int 0 :: Value.ref (ba + 74) :: Value.null :: [])) (fs2 := (Value.null :: Value.null :: Value.ref (ba + 73) :: Value.int 0 :: Value.ref (ba + 74) :: Value.ref (ba + 75) :: [])) g (by decide) rfl rfl cfl_X5_18 (fun _ => ⟨hmn, fun C T N h => by cases Option.some.inj (show some (RX5, TX5, 6) = some (C, T, N) from h); rfl⟩) rfl rfl (Nat.le_of_ble_eq_true rfl) dX5_init_27 ?_
  refine c_aload_n (pc := 30) g rfl 0 rfl dX5_init_30 ?_
  refine c_aload_n (pc := 31) g rfl 1 rfl dX5_init_31 ?_
  refine c_put (pc := 32) (n := 76) (k := 72) (fs := (Value.null :: Value.null :: Value.ref (ba + 73) :: Value.int 0 :: Value.ref (ba + 74) :: Value.ref (ba + 75) :: [])) (fs2 := (Value.ref (ba + 1) :: Value.null :: Value.ref (ba + 73) :: Value.int 0 :: Value.ref (ba + 74) :: Value.ref (ba + 75) :: [])) g (by decide) rfl rfl cfl_X5_21 (fun _ => ⟨hmn, fun C T N h => by cases Option.some.inj (show some (RX5, TX5, 6) = some (C, T, N) from h); rfl⟩) rfl rfl (Nat.le_of_ble_eq_true rfl) dX5_init_32 ?_
  refine c_aload_n (pc := 35) g rfl 0 rfl dX5_init_35 ?_
  refine c_aload_n (pc := 36) g rfl 2 rfl dX5_init_36 ?_
  refine c_put (pc := 37) (n := 76) (k := 72) (fs := (Value.ref (ba + 1) :: Value.null :: Value.ref (ba + 73) :: Value.int 0 :: Value.ref (ba + 74) :: Value.ref (ba + 75) :: [])) (fs2 := (Value.ref (ba + 1) :: Value.ref (ba + 64) :: Value.ref (ba + 73) :: Value.int 0 :: Value.ref (ba + 74) :: Value.ref (ba + 75) :: [])) g (by decide) rfl rfl cfl_X5_25 (fun _ => ⟨hmn, fun C T N h => by cases Option.some.inj (show some (RX5, TX5, 6) = some (C, T, N) from h); rfl⟩) rfl rfl (Nat.le_of_ble_eq_true rfl) dX5_init_37 ?_
  exact c_ret (pc := 40) g hrt ⟨rfl, rfl⟩ rfl rfl dX5_init_40
def W_X7_init_77 (cA : Nat → ClassId) (ba : Nat) (hp : Nat → va_E) : Nat → va_E := upE (upE (upE (upE (hp) 77 (.inl (cA 1, 5, .inl (fun _ => 0)))) 76 (.inr (7, (Value.null :: Value.null :: Value.ref (ba + 77) :: [])))) 76 (.inr (7, (Value.ref (ba + 1) :: Value.null :: Value.ref (ba + 77) :: [])))) 76 (.inr (7, (Value.ref (ba + 1) :: Value.ref (ba + 64) :: Value.ref (ba + 77) :: [])))
set_option maxRecDepth 100000 in
set_option maxHeartbeats 16000000 in
theorem cc_X7_init_77 {D : va_G} {cA : Nat → ClassId} {ba : Nat} {hp : Nat → va_E} (h0 : hp 76 = .inr (7, (Value.null :: Value.null :: Value.null :: []))) : CCx D cA ba yX7_init cX7_init 3 1 20 1 5 [.ref (ba + 76), .ref (ba + 1), .ref (ba + 64)] 77 hp 78 (W_X7_init_77 cA ba hp) := by
  refine CCx_of (by decide +kernel) (Nat.le_of_ble_eq_true rfl) ?_
  intro p l e s m args below meth c g hrt hmn
  refine c_aload_n (pc := 0) g rfl 0 rfl dX7_init_0 ?_
  refine c_obj (pc := 1) g co_X7_3 (Nat.le_of_ble_eq_true rfl) (Nat.le_of_ble_eq_true rfl) (Nat.le_of_ble_eq_true rfl) dX7_init_1 ?_
  refine c_aload_n (pc := 4) g rfl 0 rfl dX7_init_4 ?_
  refine c_iconst (pc := 5) (v := (5 : Int32)) g (by decide) dX7_init_5 ?_
  refine c_newa (pc := 6) (n := 77) (a0 := (5, .inl (fun _ => 0))) (t := 0) (ty := .int) g rfl ca_int rfl (fun _ _ => rfl) (fun _ => rfl) (by decide) (by decide) (by decide) (Nat.le_of_ble_eq_true rfl) (Nat.le_of_ble_eq_true rfl) dX7_init_6 ?_
  refine c_put (pc := 8) (n := 78) (k := 76) (fs := (Value.null :: Value.null :: Value.null :: [])) (fs2 := (Value.null :: Value.null :: Value.ref (ba + 77) :: [])) g (by decide) h0 rfl cfl_X7_9 (fun _ => ⟨hmn, fun C T N h => by cases Option.some.inj (show some (RX7, TX7, 3) = some (C, T, N) from h); rfl⟩) rfl rfl (Nat.le_of_ble_eq_true rfl) dX7_init_8 ?_
  refine c_aload_n (pc := 11) g rfl 0 rfl dX7_init_11 ?_
  refine c_aload_n (pc := 12) g rfl 1 rfl dX7_init_12 ?_
  refine c_put (pc := 13) (n := 78) (k := 76) (fs := (Value.null :: Value.null :: Value.ref (ba + 77) :: [])) (fs2 := (Value.ref (ba + 1) :: Value.null :: Value.ref (ba + 77) :: [])) g (by decide) rfl rfl cfl_X7_15 (fun _ => ⟨hmn, fun C T N h => by cases Option.some.inj (show some (RX7, TX7, 3) = some (C, T, N) from h); rfl⟩) rfl rfl (Nat.le_of_ble_eq_true rfl) dX7_init_13 ?_
  refine c_aload_n (pc := 16) g rfl 0 rfl dX7_init_16 ?_
  refine c_aload_n (pc := 17) g rfl 2 rfl dX7_init_17 ?_
  refine c_put (pc := 18) (n := 78) (k := 76) (fs := (Value.ref (ba + 1) :: Value.null :: Value.ref (ba + 77) :: [])) (fs2 := (Value.ref (ba + 1) :: Value.ref (ba + 64) :: Value.ref (ba + 77) :: [])) g (by decide) rfl rfl cfl_X7_19 (fun _ => ⟨hmn, fun C T N h => by cases Option.some.inj (show some (RX7, TX7, 3) = some (C, T, N) from h); rfl⟩) rfl rfl (Nat.le_of_ble_eq_true rfl) dX7_init_18 ?_
  exact c_ret (pc := 21) g hrt ⟨rfl, rfl⟩ rfl rfl dX7_init_21
def W_X3_init_79 (cA : Nat → ClassId) (ba : Nat) (hp : Nat → va_E) : Nat → va_E := upE (upE (upE (upE (upE (hp) 79 (.inl (cA 1, 4, .inl (fun _ => 0)))) 78 (.inr (3, (Value.ref (ba + 79) :: Value.null :: Value.int 0 :: [])))) 80 (.inl (cA 1, 4, .inl (fun _ => 0)))) 78 (.inr (3, (Value.ref (ba + 79) :: Value.ref (ba + 80) :: Value.int 0 :: [])))) 79 (.inl (cA 1, 4, .inl (upd (fun _ => 0) (Int32.toNatClampNeg (3 : Int32)) (-2 : Int32))))
set_option maxRecDepth 100000 in
set_option maxHeartbeats 16000000 in
theorem cc_X3_init_79 {D : va_G} {cA : Nat → ClassId} {ba : Nat} {hp : Nat → va_E} (h0 : hp 78 = .inr (3, (Value.null :: Value.null :: Value.int 0 :: []))) : CCx D cA ba yX3_init cX3_init 1 1 20 2 8 [.ref (ba + 78)] 79 hp 81 (W_X3_init_79 cA ba hp) := by
  refine CCx_of (by decide +kernel) (Nat.le_of_ble_eq_true rfl) ?_
  intro p l e s m args below meth c g hrt hmn
  refine c_aload_n (pc := 0) g rfl 0 rfl dX3_init_0 ?_
  refine c_obj (pc := 1) g co_X3_3 (Nat.le_of_ble_eq_true rfl) (Nat.le_of_ble_eq_true rfl) (Nat.le_of_ble_eq_true rfl) dX3_init_1 ?_
  refine c_aload_n (pc := 4) g rfl 0 rfl dX3_init_4 ?_
  refine c_iconst (pc := 5) (v := (4 : Int32)) g (by decide) dX3_init_5 ?_
  refine c_newa (pc := 6) (n := 79) (a0 := (4, .inl (fun _ => 0))) (t := 0) (ty := .int) g rfl ca_int rfl (fun _ _ => rfl) (fun _ => rfl) (by decide) (by decide) (by decide) (Nat.le_of_ble_eq_true rfl) (Nat.le_of_ble_eq_true rfl) dX3_init_6 ?_
  refine c_put (pc := 8) (n := 80) (k := 78) (fs := (Value.null :: Value.null :: Value.int 0 :: [])) (fs2 := (Value.ref (ba + 79) :: Value.null :: Value.int 0 :: [])) g (by decide) h0 rfl cfl_X3_11 (fun _ => ⟨hmn, fun C T N h => by cases Option.some.inj (show some (RX3, TX3, 3) = some (C, T, N) from h); rfl⟩) rfl rfl (Nat.le_of_ble_eq_true rfl) dX3_init_8 ?_
  refine c_aload_n (pc := 11) g rfl 0 rfl dX3_init_11 ?_
  refine c_iconst (pc := 12) (v := (4 : Int32)) g (by decide) dX3_init_12 ?_
  refine c_newa (pc := 13) (n := 80) (a0 := (4, .inl (fun _ => 0))) (t := 0) (ty := .int) g rfl ca_int rfl (fun _ _ => rfl) (fun _ => rfl) (by decide) (by decide) (by decide) (Nat.le_of_ble_eq_true rfl) (Nat.le_of_ble_eq_true rfl) dX3_init_13 ?_
  refine c_put (pc := 15) (n := 81) (k := 78) (fs := (Value.ref (ba + 79) :: Value.null :: Value.int 0 :: [])) (fs2 := (Value.ref (ba + 79) :: Value.ref (ba + 80) :: Value.int 0 :: [])) g (by decide) rfl rfl cfl_X3_15 (fun _ => ⟨hmn, fun C T N h => by cases Option.some.inj (show some (RX3, TX3, 3) = some (C, T, N) from h); rfl⟩) rfl rfl (Nat.le_of_ble_eq_true rfl) dX3_init_15 ?_
  refine c_aload_n (pc := 18) g rfl 0 rfl dX3_init_18 ?_
  refine c_get (pc := 19) (n := 81) (k := 78) (fs := (Value.ref (ba + 79) :: Value.ref (ba + 80) :: Value.int 0 :: [])) g (Value.ref (ba + 79)) (by decide) rfl cfl_X3_11 rfl dX3_init_19 ?_
  refine c_iconst (pc := 22) (v := (3 : Int32)) g (by decide) dX3_init_22 ?_
  refine c_bipush (pc := 23) (v := (-2 : Int32)) g (by decide) dX3_init_23 ?_
  refine c_iast (pc := 25) (n := 81) (k := 79) (N := 4) g (by decide) rfl (by unfold vp_in; decide) dX3_init_25 ?_
  exact c_ret (pc := 26) g hrt ⟨rfl, rfl⟩ rfl rfl dX3_init_26
def W_X1_init_82 (cA : Nat → ClassId) (ba : Nat) (hp : Nat → va_E) : Nat → va_E := upE (upR (upE (hp) 82 (.inl (cA 6, 4, .inr (.inr (.inr (.inr (fun j => if j < 4 then some (ba + 82 + 1 + j) else none))))))) 83 4 (.inl (cA 1, 40, .inl (fun _ => 0)))) 81 (.inr (1, (Value.ref (ba + 82) :: Value.int 0 :: Value.int 0 :: [])))
set_option maxRecDepth 100000 in
set_option maxHeartbeats 16000000 in
theorem cc_X1_init_82 {D : va_G} {cA : Nat → ClassId} {ba : Nat} {hp : Nat → va_E} (h0 : hp 81 = .inr (1, (Value.null :: Value.int 0 :: Value.int 0 :: []))) : CCx D cA ba yX1_init cX1_init 1 1 20 5 164 [.ref (ba + 81)] 82 hp 87 (W_X1_init_82 cA ba hp) := by
  refine CCx_of (by decide +kernel) (Nat.le_of_ble_eq_true rfl) ?_
  intro p l e s m args below meth c g hrt hmn
  refine c_aload_n (pc := 0) g rfl 0 rfl dX1_init_0 ?_
  refine c_obj (pc := 1) g co_X1_1 (Nat.le_of_ble_eq_true rfl) (Nat.le_of_ble_eq_true rfl) (Nat.le_of_ble_eq_true rfl) dX1_init_1 ?_
  refine c_aload_n (pc := 4) g rfl 0 rfl dX1_init_4 ?_
  refine c_iconst (pc := 5) (v := (4 : Int32)) g (by decide) dX1_init_5 ?_
  refine c_bipush (pc := 6) (v := (40 : Int32)) g (by decide) dX1_init_6 ?_
  refine c_mna (pc := 8) (n := 82) (N := 4) (K := 40) g ck_X1_9 ca_int (by decide) (by decide) (by decide) (by decide) (by decide) (by decide) (Nat.le_of_ble_eq_true rfl) (Nat.le_of_ble_eq_true rfl) dX1_init_8 ?_
  refine c_put (pc := 12) (n := 87) (k := 81) (fs := (Value.null :: Value.int 0 :: Value.int 0 :: [])) (fs2 := (Value.ref (ba + 82) :: Value.int 0 :: Value.int 0 :: [])) g (by decide) h0 rfl cfl_X1_11 (fun _ => ⟨hmn, fun C T N h => by cases Option.some.inj (show some (RX1, TX1, 3) = some (C, T, N) from h); rfl⟩) rfl rfl (Nat.le_of_ble_eq_true rfl) dX1_init_12 ?_
  exact c_ret (pc := 15) g hrt ⟨rfl, rfl⟩ rfl rfl dX1_init_15
def W_X0_init_88 (cA : Nat → ClassId) (ba : Nat) (hp : Nat → va_E) : Nat → va_E := upE (upE (upE (upE (hp) 88 (.inl (cA 1, 50, .inl (fun _ => 0)))) 87 (.inr (0, (Value.int 0 :: Value.ref (ba + 88) :: Value.int 0 :: Value.null :: Value.int 0 :: Value.int 0 :: [])))) 89 (.inl (cA 1, 24, .inl (fun _ => 0)))) 87 (.inr (0, (Value.int 0 :: Value.ref (ba + 88) :: Value.int 0 :: Value.ref (ba + 89) :: Value.int 0 :: Value.int 0 :: [])))
set_option maxRecDepth 100000 in
set_option maxHeartbeats 16000000 in
theorem cc_X0_init_88 {D : va_G} {cA : Nat → ClassId} {ba : Nat} {hp : Nat → va_E} (h0 : hp 87 = .inr (0, (Value.int 0 :: Value.null :: Value.int 0 :: Value.null :: Value.int 0 :: Value.int 0 :: []))) : CCx D cA ba yX0_init cX0_init 1 1 20 2 74 [.ref (ba + 87)] 88 hp 90 (W_X0_init_88 cA ba hp) := by
  refine CCx_of (by decide +kernel) (Nat.le_of_ble_eq_true rfl) ?_
  intro p l e s m args below meth c g hrt hmn
  refine c_aload_n (pc := 0) g rfl 0 rfl dX0_init_0 ?_
  refine c_obj (pc := 1) g co_X0_3 (Nat.le_of_ble_eq_true rfl) (Nat.le_of_ble_eq_true rfl) (Nat.le_of_ble_eq_true rfl) dX0_init_1 ?_
  refine c_aload_n (pc := 4) g rfl 0 rfl dX0_init_4 ?_
  refine c_bipush (pc := 5) (v := (50 : Int32)) g (by decide) dX0_init_5 ?_
  refine c_newa (pc := 7) (n := 88) (a0 := (50, .inl (fun _ => 0))) (t := 0) (ty := .int) g rfl ca_int rfl (fun _ _ => rfl) (fun _ => rfl) (by decide) (by decide) (by decide) (Nat.le_of_ble_eq_true rfl) (Nat.le_of_ble_eq_true rfl) dX0_init_7 ?_
  refine c_put (pc := 9) (n := 89) (k := 87) (fs := (Value.int 0 :: Value.null :: Value.int 0 :: Value.null :: Value.int 0 :: Value.int 0 :: [])) (fs2 := (Value.int 0 :: Value.ref (ba + 88) :: Value.int 0 :: Value.null :: Value.int 0 :: Value.int 0 :: [])) g (by decide) h0 rfl cfl_X0_11 (fun _ => ⟨hmn, fun C T N h => by cases Option.some.inj (show some (RX0, TX0, 6) = some (C, T, N) from h); rfl⟩) rfl rfl (Nat.le_of_ble_eq_true rfl) dX0_init_9 ?_
  refine c_aload_n (pc := 12) g rfl 0 rfl dX0_init_12 ?_
  refine c_bipush (pc := 13) (v := (24 : Int32)) g (by decide) dX0_init_13 ?_
  refine c_newa (pc := 15) (n := 89) (a0 := (24, .inl (fun _ => 0))) (t := 0) (ty := .int) g rfl ca_int rfl (fun _ _ => rfl) (fun _ => rfl) (by decide) (by decide) (by decide) (Nat.le_of_ble_eq_true rfl) (Nat.le_of_ble_eq_true rfl) dX0_init_15 ?_
  refine c_put (pc := 17) (n := 90) (k := 87) (fs := (Value.int 0 :: Value.ref (ba + 88) :: Value.int 0 :: Value.null :: Value.int 0 :: Value.int 0 :: [])) (fs2 := (Value.int 0 :: Value.ref (ba + 88) :: Value.int 0 :: Value.ref (ba + 89) :: Value.int 0 :: Value.int 0 :: [])) g (by decide) rfl rfl cfl_X0_15 (fun _ => ⟨hmn, fun C T N h => by cases Option.some.inj (show some (RX0, TX0, 6) = some (C, T, N) from h); rfl⟩) rfl rfl (Nat.le_of_ble_eq_true rfl) dX0_init_17 ?_
  exact c_ret (pc := 20) g hrt ⟨rfl, rfl⟩ rfl rfl dX0_init_20
def W_X6_init_92 (cA : Nat → ClassId) (ba : Nat) (hp : Nat → va_E) : Nat → va_E := upE (upE (upE (hp) 91 (.inr (6, (Value.int (-1 : Int32) :: Value.int 0 :: Value.int 0 :: Value.null :: [])))) 92 (.inl (cA 2, 60, .inr (.inl (fun _ => 0))))) 91 (.inr (6, (Value.int (-1 : Int32) :: Value.int 0 :: Value.int 0 :: Value.ref (ba + 92) :: [])))
set_option maxRecDepth 100000 in
set_option maxHeartbeats 16000000 in
theorem cc_X6_init_92 {D : va_G} {cA : Nat → ClassId} {ba : Nat} {hp : Nat → va_E} (h0 : hp 91 = .inr (6, (Value.int 0 :: Value.int 0 :: Value.int 0 :: Value.null :: []))) : CCx D cA ba yX6_init cX6_init 1 1 20 1 60 [.ref (ba + 91)] 92 hp 93 (W_X6_init_92 cA ba hp) := by
  refine CCx_of (by decide +kernel) (Nat.le_of_ble_eq_true rfl) ?_
  intro p l e s m args below meth c g hrt hmn
  refine c_aload_n (pc := 0) g rfl 0 rfl dX6_init_0 ?_
  refine c_obj (pc := 1) g co_X6_3 (Nat.le_of_ble_eq_true rfl) (Nat.le_of_ble_eq_true rfl) (Nat.le_of_ble_eq_true rfl) dX6_init_1 ?_
  refine c_aload_n (pc := 4) g rfl 0 rfl dX6_init_4 ?_
  refine c_iconst (pc := 5) (v := (-1 : Int32)) g (by decide) dX6_init_5 ?_
  refine c_put (pc := 6) (n := 92) (k := 91) (fs := (Value.int 0 :: Value.int 0 :: Value.int 0 :: Value.null :: [])) (fs2 := (Value.int (-1 : Int32) :: Value.int 0 :: Value.int 0 :: Value.null :: [])) g (by decide) h0 rfl cfl_X6_11 (fun h => by cases h) rfl rfl (Nat.le_of_ble_eq_true rfl) dX6_init_6 ?_
  refine c_aload_n (pc := 9) g rfl 0 rfl dX6_init_9 ?_
  refine c_bipush (pc := 10) (v := (60 : Int32)) g (by decide) dX6_init_10 ?_
  refine c_newa (pc := 12) (n := 92) (a0 := (60, .inr (.inl (fun _ => 0)))) (t := 1) (ty := .long) g rfl ca_long rfl (fun _ _ => rfl) (fun _ => rfl) (by decide) (by decide) (by decide) (Nat.le_of_ble_eq_true rfl) (Nat.le_of_ble_eq_true rfl) dX6_init_12 ?_
  refine c_put (pc := 14) (n := 93) (k := 91) (fs := (Value.int (-1 : Int32) :: Value.int 0 :: Value.int 0 :: Value.null :: [])) (fs2 := (Value.int (-1 : Int32) :: Value.int 0 :: Value.int 0 :: Value.ref (ba + 92) :: [])) g (by decide) rfl rfl cfl_X6_15 (fun _ => ⟨hmn, fun C T N h => by cases Option.some.inj (show some (RX6, TX6, 4) = some (C, T, N) from h); rfl⟩) rfl rfl (Nat.le_of_ble_eq_true rfl) dX6_init_14 ?_
  exact c_ret (pc := 17) g hrt ⟨rfl, rfl⟩ rfl rfl dX6_init_17
def W_X6_init_94 (cA : Nat → ClassId) (ba : Nat) (hp : Nat → va_E) : Nat → va_E := upE (upE (upE (hp) 93 (.inr (6, (Value.int (-1 : Int32) :: Value.int 0 :: Value.int 0 :: Value.null :: [])))) 94 (.inl (cA 2, 60, .inr (.inl (fun _ => 0))))) 93 (.inr (6, (Value.int (-1 : Int32) :: Value.int 0 :: Value.int 0 :: Value.ref (ba + 94) :: [])))
set_option maxRecDepth 100000 in
set_option maxHeartbeats 16000000 in
theorem cc_X6_init_94 {D : va_G} {cA : Nat → ClassId} {ba : Nat} {hp : Nat → va_E} (h0 : hp 93 = .inr (6, (Value.int 0 :: Value.int 0 :: Value.int 0 :: Value.null :: []))) : CCx D cA ba yX6_init cX6_init 1 1 20 1 60 [.ref (ba + 93)] 94 hp 95 (W_X6_init_94 cA ba hp) := by
  refine CCx_of (by decide +kernel) (Nat.le_of_ble_eq_true rfl) ?_
  intro p l e s m args below meth c g hrt hmn
  refine c_aload_n (pc := 0) g rfl 0 rfl dX6_init_0 ?_
  refine c_obj (pc := 1) g co_X6_3 (Nat.le_of_ble_eq_true rfl) (Nat.le_of_ble_eq_true rfl) (Nat.le_of_ble_eq_true rfl) dX6_init_1 ?_
  refine c_aload_n (pc := 4) g rfl 0 rfl dX6_init_4 ?_
  refine c_iconst (pc := 5) (v := (-1 : Int32)) g (by decide) dX6_init_5 ?_
  refine c_put (pc := 6) (n := 94) (k := 93) (fs := (Value.int 0 :: Value.int 0 :: Value.int 0 :: Value.null :: [])) (fs2 := (Value.int (-1 : Int32) :: Value.int 0 :: Value.int 0 :: Value.null :: [])) g (by decide) h0 rfl cfl_X6_11 (fun h => by cases h) rfl rfl (Nat.le_of_ble_eq_true rfl) dX6_init_6 ?_
  refine c_aload_n (pc := 9) g rfl 0 rfl dX6_init_9 ?_
  refine c_bipush (pc := 10) (v := (60 : Int32)) g (by decide) dX6_init_10 ?_
  refine c_newa (pc := 12) (n := 94) (a0 := (60, .inr (.inl (fun _ => 0)))) (t := 1) (ty := .long) g rfl ca_long rfl (fun _ _ => rfl) (fun _ => rfl) (by decide) (by decide) (by decide) (Nat.le_of_ble_eq_true rfl) (Nat.le_of_ble_eq_true rfl) dX6_init_12 ?_
  refine c_put (pc := 14) (n := 95) (k := 93) (fs := (Value.int (-1 : Int32) :: Value.int 0 :: Value.int 0 :: Value.null :: [])) (fs2 := (Value.int (-1 : Int32) :: Value.int 0 :: Value.int 0 :: Value.ref (ba + 94) :: [])) g (by decide) rfl rfl cfl_X6_15 (fun _ => ⟨hmn, fun C T N h => by cases Option.some.inj (show some (RX6, TX6, 4) = some (C, T, N) from h); rfl⟩) rfl rfl (Nat.le_of_ble_eq_true rfl) dX6_init_14 ?_
  exact c_ret (pc := 17) g hrt ⟨rfl, rfl⟩ rfl rfl dX6_init_17
def W_X6_init_96 (cA : Nat → ClassId) (ba : Nat) (hp : Nat → va_E) : Nat → va_E := upE (upE (upE (hp) 95 (.inr (6, (Value.int (-1 : Int32) :: Value.int 0 :: Value.int 0 :: Value.null :: [])))) 96 (.inl (cA 2, 60, .inr (.inl (fun _ => 0))))) 95 (.inr (6, (Value.int (-1 : Int32) :: Value.int 0 :: Value.int 0 :: Value.ref (ba + 96) :: [])))
set_option maxRecDepth 100000 in
set_option maxHeartbeats 16000000 in
theorem cc_X6_init_96 {D : va_G} {cA : Nat → ClassId} {ba : Nat} {hp : Nat → va_E} (h0 : hp 95 = .inr (6, (Value.int 0 :: Value.int 0 :: Value.int 0 :: Value.null :: []))) : CCx D cA ba yX6_init cX6_init 1 1 20 1 60 [.ref (ba + 95)] 96 hp 97 (W_X6_init_96 cA ba hp) := by
  refine CCx_of (by decide +kernel) (Nat.le_of_ble_eq_true rfl) ?_
  intro p l e s m args below meth c g hrt hmn
  refine c_aload_n (pc := 0) g rfl 0 rfl dX6_init_0 ?_
  refine c_obj (pc := 1) g co_X6_3 (Nat.le_of_ble_eq_true rfl) (Nat.le_of_ble_eq_true rfl) (Nat.le_of_ble_eq_true rfl) dX6_init_1 ?_
  refine c_aload_n (pc := 4) g rfl 0 rfl dX6_init_4 ?_
  refine c_iconst (pc := 5) (v := (-1 : Int32)) g (by decide) dX6_init_5 ?_
  refine c_put (pc := 6) (n := 96) (k := 95) (fs := (Value.int 0 :: Value.int 0 :: Value.int 0 :: Value.null :: [])) (fs2 := (Value.int (-1 : Int32) :: Value.int 0 :: Value.int 0 :: Value.null :: [])) g (by decide) h0 rfl cfl_X6_11 (fun h => by cases h) rfl rfl (Nat.le_of_ble_eq_true rfl) dX6_init_6 ?_
  refine c_aload_n (pc := 9) g rfl 0 rfl dX6_init_9 ?_
  refine c_bipush (pc := 10) (v := (60 : Int32)) g (by decide) dX6_init_10 ?_
  refine c_newa (pc := 12) (n := 96) (a0 := (60, .inr (.inl (fun _ => 0)))) (t := 1) (ty := .long) g rfl ca_long rfl (fun _ _ => rfl) (fun _ => rfl) (by decide) (by decide) (by decide) (Nat.le_of_ble_eq_true rfl) (Nat.le_of_ble_eq_true rfl) dX6_init_12 ?_
  refine c_put (pc := 14) (n := 97) (k := 95) (fs := (Value.int (-1 : Int32) :: Value.int 0 :: Value.int 0 :: Value.null :: [])) (fs2 := (Value.int (-1 : Int32) :: Value.int 0 :: Value.int 0 :: Value.ref (ba + 96) :: [])) g (by decide) rfl rfl cfl_X6_15 (fun _ => ⟨hmn, fun C T N h => by cases Option.some.inj (show some (RX6, TX6, 4) = some (C, T, N) from h); rfl⟩) rfl rfl (Nat.le_of_ble_eq_true rfl) dX6_init_14 ?_
  exact c_ret (pc := 17) g hrt ⟨rfl, rfl⟩ rfl rfl dX6_init_17
def W_X6_init_98 (cA : Nat → ClassId) (ba : Nat) (hp : Nat → va_E) : Nat → va_E := upE (upE (upE (hp) 97 (.inr (6, (Value.int (-1 : Int32) :: Value.int 0 :: Value.int 0 :: Value.null :: [])))) 98 (.inl (cA 2, 60, .inr (.inl (fun _ => 0))))) 97 (.inr (6, (Value.int (-1 : Int32) :: Value.int 0 :: Value.int 0 :: Value.ref (ba + 98) :: [])))
set_option maxRecDepth 100000 in
set_option maxHeartbeats 16000000 in
theorem cc_X6_init_98 {D : va_G} {cA : Nat → ClassId} {ba : Nat} {hp : Nat → va_E} (h0 : hp 97 = .inr (6, (Value.int 0 :: Value.int 0 :: Value.int 0 :: Value.null :: []))) : CCx D cA ba yX6_init cX6_init 1 1 20 1 60 [.ref (ba + 97)] 98 hp 99 (W_X6_init_98 cA ba hp) := by
  refine CCx_of (by decide +kernel) (Nat.le_of_ble_eq_true rfl) ?_
  intro p l e s m args below meth c g hrt hmn
  refine c_aload_n (pc := 0) g rfl 0 rfl dX6_init_0 ?_
  refine c_obj (pc := 1) g co_X6_3 (Nat.le_of_ble_eq_true rfl) (Nat.le_of_ble_eq_true rfl) (Nat.le_of_ble_eq_true rfl) dX6_init_1 ?_
  refine c_aload_n (pc := 4) g rfl 0 rfl dX6_init_4 ?_
  refine c_iconst (pc := 5) (v := (-1 : Int32)) g (by decide) dX6_init_5 ?_
  refine c_put (pc := 6) (n := 98) (k := 97) (fs := (Value.int 0 :: Value.int 0 :: Value.int 0 :: Value.null :: [])) (fs2 := (Value.int (-1 : Int32) :: Value.int 0 :: Value.int 0 :: Value.null :: [])) g (by decide) h0 rfl cfl_X6_11 (fun h => by cases h) rfl rfl (Nat.le_of_ble_eq_true rfl) dX6_init_6 ?_
  refine c_aload_n (pc := 9) g rfl 0 rfl dX6_init_9 ?_
  refine c_bipush (pc := 10) (v := (60 : Int32)) g (by decide) dX6_init_10 ?_
  refine c_newa (pc := 12) (n := 98) (a0 := (60, .inr (.inl (fun _ => 0)))) (t := 1) (ty := .long) g rfl ca_long rfl (fun _ _ => rfl) (fun _ => rfl) (by decide) (by decide) (by decide) (Nat.le_of_ble_eq_true rfl) (Nat.le_of_ble_eq_true rfl) dX6_init_12 ?_
  refine c_put (pc := 14) (n := 99) (k := 97) (fs := (Value.int (-1 : Int32) :: Value.int 0 :: Value.int 0 :: Value.null :: [])) (fs2 := (Value.int (-1 : Int32) :: Value.int 0 :: Value.int 0 :: Value.ref (ba + 98) :: [])) g (by decide) rfl rfl cfl_X6_15 (fun _ => ⟨hmn, fun C T N h => by cases Option.some.inj (show some (RX6, TX6, 4) = some (C, T, N) from h); rfl⟩) rfl rfl (Nat.le_of_ble_eq_true rfl) dX6_init_14 ?_
  exact c_ret (pc := 17) g hrt ⟨rfl, rfl⟩ rfl rfl dX6_init_17
def W_X6_init_100 (cA : Nat → ClassId) (ba : Nat) (hp : Nat → va_E) : Nat → va_E := upE (upE (upE (hp) 99 (.inr (6, (Value.int (-1 : Int32) :: Value.int 0 :: Value.int 0 :: Value.null :: [])))) 100 (.inl (cA 2, 60, .inr (.inl (fun _ => 0))))) 99 (.inr (6, (Value.int (-1 : Int32) :: Value.int 0 :: Value.int 0 :: Value.ref (ba + 100) :: [])))
set_option maxRecDepth 100000 in
set_option maxHeartbeats 16000000 in
theorem cc_X6_init_100 {D : va_G} {cA : Nat → ClassId} {ba : Nat} {hp : Nat → va_E} (h0 : hp 99 = .inr (6, (Value.int 0 :: Value.int 0 :: Value.int 0 :: Value.null :: []))) : CCx D cA ba yX6_init cX6_init 1 1 20 1 60 [.ref (ba + 99)] 100 hp 101 (W_X6_init_100 cA ba hp) := by
  refine CCx_of (by decide +kernel) (Nat.le_of_ble_eq_true rfl) ?_
  intro p l e s m args below meth c g hrt hmn
  refine c_aload_n (pc := 0) g rfl 0 rfl dX6_init_0 ?_
  refine c_obj (pc := 1) g co_X6_3 (Nat.le_of_ble_eq_true rfl) (Nat.le_of_ble_eq_true rfl) (Nat.le_of_ble_eq_true rfl) dX6_init_1 ?_
  refine c_aload_n (pc := 4) g rfl 0 rfl dX6_init_4 ?_
  refine c_iconst (pc := 5) (v := (-1 : Int32)) g (by decide) dX6_init_5 ?_
  refine c_put (pc := 6) (n := 100) (k := 99) (fs := (Value.int 0 :: Value.int 0 :: Value.int 0 :: Value.null :: [])) (fs2 := (Value.int (-1 : Int32) :: Value.int 0 :: Value.int 0 :: Value.null :: [])) g (by decide) h0 rfl cfl_X6_11 (fun h => by cases h) rfl rfl (Nat.le_of_ble_eq_true rfl) dX6_init_6 ?_
  refine c_aload_n (pc := 9) g rfl 0 rfl dX6_init_9 ?_
  refine c_bipush (pc := 10) (v := (60 : Int32)) g (by decide) dX6_init_10 ?_
  refine c_newa (pc := 12) (n := 100) (a0 := (60, .inr (.inl (fun _ => 0)))) (t := 1) (ty := .long) g rfl ca_long rfl (fun _ _ => rfl) (fun _ => rfl) (by decide) (by decide) (by decide) (Nat.le_of_ble_eq_true rfl) (Nat.le_of_ble_eq_true rfl) dX6_init_12 ?_
  refine c_put (pc := 14) (n := 101) (k := 99) (fs := (Value.int (-1 : Int32) :: Value.int 0 :: Value.int 0 :: Value.null :: [])) (fs2 := (Value.int (-1 : Int32) :: Value.int 0 :: Value.int 0 :: Value.ref (ba + 100) :: [])) g (by decide) rfl rfl cfl_X6_15 (fun _ => ⟨hmn, fun C T N h => by cases Option.some.inj (show some (RX6, TX6, 4) = some (C, T, N) from h); rfl⟩) rfl rfl (Nat.le_of_ble_eq_true rfl) dX6_init_14 ?_
  exact c_ret (pc := 17) g hrt ⟨rfl, rfl⟩ rfl rfl dX6_init_17
def W_X6_init_102 (cA : Nat → ClassId) (ba : Nat) (hp : Nat → va_E) : Nat → va_E := upE (upE (upE (hp) 101 (.inr (6, (Value.int (-1 : Int32) :: Value.int 0 :: Value.int 0 :: Value.null :: [])))) 102 (.inl (cA 2, 60, .inr (.inl (fun _ => 0))))) 101 (.inr (6, (Value.int (-1 : Int32) :: Value.int 0 :: Value.int 0 :: Value.ref (ba + 102) :: [])))
set_option maxRecDepth 100000 in
set_option maxHeartbeats 16000000 in
theorem cc_X6_init_102 {D : va_G} {cA : Nat → ClassId} {ba : Nat} {hp : Nat → va_E} (h0 : hp 101 = .inr (6, (Value.int 0 :: Value.int 0 :: Value.int 0 :: Value.null :: []))) : CCx D cA ba yX6_init cX6_init 1 1 20 1 60 [.ref (ba + 101)] 102 hp 103 (W_X6_init_102 cA ba hp) := by
  refine CCx_of (by decide +kernel) (Nat.le_of_ble_eq_true rfl) ?_
  intro p l e s m args below meth c g hrt hmn
  refine c_aload_n (pc := 0) g rfl 0 rfl dX6_init_0 ?_
  refine c_obj (pc := 1) g co_X6_3 (Nat.le_of_ble_eq_true rfl) (Nat.le_of_ble_eq_true rfl) (Nat.le_of_ble_eq_true rfl) dX6_init_1 ?_
  refine c_aload_n (pc := 4) g rfl 0 rfl dX6_init_4 ?_
  refine c_iconst (pc := 5) (v := (-1 : Int32)) g (by decide) dX6_init_5 ?_
  refine c_put (pc := 6) (n := 102) (k := 101) (fs := (Value.int 0 :: Value.int 0 :: Value.int 0 :: Value.null :: [])) (fs2 := (Value.int (-1 : Int32) :: Value.int 0 :: Value.int 0 :: Value.null :: [])) g (by decide) h0 rfl cfl_X6_11 (fun h => by cases h) rfl rfl (Nat.le_of_ble_eq_true rfl) dX6_init_6 ?_
  refine c_aload_n (pc := 9) g rfl 0 rfl dX6_init_9 ?_
  refine c_bipush (pc := 10) (v := (60 : Int32)) g (by decide) dX6_init_10 ?_
  refine c_newa (pc := 12) (n := 102) (a0 := (60, .inr (.inl (fun _ => 0)))) (t := 1) (ty := .long) g rfl ca_long rfl (fun _ _ => rfl) (fun _ => rfl) (by decide) (by decide) (by decide) (Nat.le_of_ble_eq_true rfl) (Nat.le_of_ble_eq_true rfl) dX6_init_12 ?_
  refine c_put (pc := 14) (n := 103) (k := 101) (fs := (Value.int (-1 : Int32) :: Value.int 0 :: Value.int 0 :: Value.null :: [])) (fs2 := (Value.int (-1 : Int32) :: Value.int 0 :: Value.int 0 :: Value.ref (ba + 102) :: [])) g (by decide) rfl rfl cfl_X6_15 (fun _ => ⟨hmn, fun C T N h => by cases Option.some.inj (show some (RX6, TX6, 4) = some (C, T, N) from h); rfl⟩) rfl rfl (Nat.le_of_ble_eq_true rfl) dX6_init_14 ?_
  exact c_ret (pc := 17) g hrt ⟨rfl, rfl⟩ rfl rfl dX6_init_17
