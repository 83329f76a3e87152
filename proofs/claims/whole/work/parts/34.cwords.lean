def dfl_10 : List Value := [Value.int 0, Value.int 0, Value.null, Value.null, Value.null, Value.null, Value.null, Value.null, Value.null, Value.int 0, Value.int 0, Value.null, Value.null, Value.null, Value.null, Value.null, Value.int 0, Value.int 0, Value.int 0, Value.int 0, Value.int 0, Value.null, Value.null, Value.null, Value.null, Value.null, Value.null, Value.null, Value.int 0, Value.null, Value.null, Value.null, Value.int 0, Value.int 0, Value.int 0, Value.int 0, Value.int 0, Value.null, Value.int 0, Value.int 0, Value.int 0, Value.null, Value.null, Value.int 0, Value.null, Value.null, Value.null, Value.null, Value.int 0, Value.int 0, Value.null, Value.int 0, Value.null, Value.null, Value.null, Value.null, Value.null]
theorem co_X9_1 : Cond.methodLink RX9 1 Lib.objectInit ∈ TWx := tw_t (tb_1 (List.mem_of_getElem? (i := 21) rfl)) rfl
theorem ck_X9_7 : Cond.classLink RX9 7 RX8 ∈ TWx := tw_t (tb_1 (List.mem_of_getElem? (i := 24) rfl)) rfl
theorem ci_8 : Cond.instantiable RX8 7 ∈ TWx := tw_t (tb_1 (List.mem_of_getElem? (i := 25) rfl)) rfl
theorem cz_8 : Cond.initialized RX8 ∈ TWx := tw_t (tb_1 (List.mem_of_getElem? (i := 2) rfl)) rfl
theorem df_8 : ∀ j, j < 7 → defaultValue (tyX8 j) = vp_V (Value.int 0 :: Value.null :: Value.null :: Value.null :: Value.null :: Value.null :: Value.null :: []) j := by
  intro j hj
  match j, hj with
  | 0, _ => rfl
  | 1, _ => rfl
  | 2, _ => rfl
  | 3, _ => rfl
  | 4, _ => rfl
  | 5, _ => rfl
  | 6, _ => rfl
  | j + 7, h => exact absurd h (by omega)
theorem cm_X9_9 : Cond.methodLink RX9 9 yX8_init ∈ TWx := tw_t (tb_1 (List.mem_of_getElem? (i := 26) rfl)) rfl
theorem cz_m_X8_init : Cond.initialized yX8_init.cls ∈ TWx := tw_t (tb_1 (List.mem_of_getElem? (i := 2) rfl)) rfl
theorem cc_m_X8_init : Cond.code yX8_init cX8_init 2 none ∈ TWx := tw_t (tb_1 (List.mem_of_getElem? (i := 28) rfl)) rfl
theorem co_X8_3 : Cond.methodLink RX8 3 Lib.objectInit ∈ TWx := tw_t (tb_1 (List.mem_of_getElem? (i := 29) rfl)) rfl
theorem ck_X8_9 : Cond.classLink RX8 9 "[[I" ∈ TWx := tw_t (tb_1 (List.mem_of_getElem? (i := 30) rfl)) rfl
theorem ca_int : Cond.arrayClass .int ∈ TWx := tw_t (tb_1 (List.mem_of_getElem? (i := 69) rfl)) rfl
theorem cfl_X8_11 : FLx RX8 11 8 1 (tyX8 1) true := ⟨RX8, TX8, 7, tyX8, rfl, by decide, uw_8, tyX8_ok, nmX8, tw_t (tb_1 (List.mem_of_getElem? (i := 40) rfl)) rfl, rfl, rfl⟩
theorem cfl_X8_16 : FLx RX8 16 8 2 (tyX8 2) true := ⟨RX8, TX8, 7, tyX8, rfl, by decide, uw_8, tyX8_ok, nmX8, tw_t (tb_1 (List.mem_of_getElem? (i := 41) rfl)) rfl, rfl, rfl⟩
theorem cfl_X8_19 : FLx RX8 19 8 3 (tyX8 3) true := ⟨RX8, TX8, 7, tyX8, rfl, by decide, uw_8, tyX8_ok, nmX8, tw_t (tb_1 (List.mem_of_getElem? (i := 42) rfl)) rfl, rfl, rfl⟩
theorem cfl_X8_23 : FLx RX8 23 8 4 (tyX8 4) true := ⟨RX8, TX8, 7, tyX8, rfl, by decide, uw_8, tyX8_ok, nmX8, tw_t (tb_1 (List.mem_of_getElem? (i := 45) rfl)) rfl, rfl, rfl⟩
theorem cfl_X8_26 : FLx RX8 26 8 5 (tyX8 5) true := ⟨RX8, TX8, 7, tyX8, rfl, by decide, uw_8, tyX8_ok, nmX8, tw_t (tb_1 (List.mem_of_getElem? (i := 48) rfl)) rfl, rfl, rfl⟩
theorem cfl_X8_29 : FLx RX8 29 8 6 (tyX8 6) true := ⟨RX8, TX8, 7, tyX8, rfl, by decide, uw_8, tyX8_ok, nmX8, tw_t (tb_1 (List.mem_of_getElem? (i := 52) rfl)) rfl, rfl, rfl⟩
theorem cm_X8_32 : Cond.methodLink RX8 32 yJ7_fill_53178 ∈ TWx := tw_t (tb_1 (List.mem_of_getElem? (i := 32) rfl)) rfl
theorem cz_m_J7_fill_53178 : Cond.initialized yJ7_fill_53178.cls ∈ TWx := tw_t (tb_1 (List.mem_of_getElem? (i := 3) rfl)) rfl
theorem cc_m_J7_fill_53178 : Cond.code yJ7_fill_53178 cJ7_fill_53178 4 none ∈ TWx := tw_t (tb_1 (List.mem_of_getElem? (i := 34) rfl)) rfl
theorem cs_m_J7_fill_53178 : Cond.static yJ7_fill_53178 ∈ TWx := tw_t (tb_1 (List.mem_of_getElem? (i := 33) rfl)) rfl
theorem ci_m_X8_init : Cond.instanceMethod yX8_init ∈ TWx := tw_t (tb_1 (List.mem_of_getElem? (i := 27) rfl)) rfl
theorem ck_X9_10 : Cond.classLink RX9 10 RX4 ∈ TWx := tw_t (tb_1 (List.mem_of_getElem? (i := 70) rfl)) rfl
theorem ci_4 : Cond.instantiable RX4 9 ∈ TWx := tw_t (tb_1 (List.mem_of_getElem? (i := 71) rfl)) rfl
theorem cz_4 : Cond.initialized RX4 ∈ TWx := tw_t (tb_1 (List.mem_of_getElem? (i := 4) rfl)) rfl
theorem df_4 : ∀ j, j < 9 → defaultValue (tyX4 j) = vp_V (Value.int 0 :: Value.null :: Value.int 0 :: Value.null :: Value.int 0 :: Value.null :: Value.int 0 :: Value.null :: Value.int 0 :: []) j := by
  intro j hj
  match j, hj with
  | 0, _ => rfl
  | 1, _ => rfl
  | 2, _ => rfl
  | 3, _ => rfl
  | 4, _ => rfl
  | 5, _ => rfl
  | 6, _ => rfl
  | 7, _ => rfl
  | 8, _ => rfl
  | j + 9, h => exact absurd h (by omega)
theorem cm_X9_12 : Cond.methodLink RX9 12 yX4_init ∈ TWx := tw_t (tb_1 (List.mem_of_getElem? (i := 72) rfl)) rfl
theorem cz_m_X4_init : Cond.initialized yX4_init.cls ∈ TWx := tw_t (tb_1 (List.mem_of_getElem? (i := 4) rfl)) rfl
theorem cc_m_X4_init : Cond.code yX4_init cX4_init 1 none ∈ TWx := tw_t (tb_1 (List.mem_of_getElem? (i := 74) rfl)) rfl
theorem co_X4_1 : Cond.methodLink RX4 1 Lib.objectInit ∈ TWx := tw_t (tb_1 (List.mem_of_getElem? (i := 75) rfl)) rfl
theorem cfl_X4_9 : FLx RX4 9 4 1 (tyX4 1) true := ⟨RX4, TX4, 9, tyX4, rfl, by decide, uw_4, tyX4_ok, nmX4, tw_t (tb_1 (List.mem_of_getElem? (i := 78) rfl)) rfl, rfl, rfl⟩
theorem cfl_X4_13 : FLx RX4 13 4 3 (tyX4 3) true := ⟨RX4, TX4, 9, tyX4, rfl, by decide, uw_4, tyX4_ok, nmX4, tw_t (tb_1 (List.mem_of_getElem? (i := 80) rfl)) rfl, rfl, rfl⟩
theorem cfl_X4_16 : FLx RX4 16 4 5 (tyX4 5) true := ⟨RX4, TX4, 9, tyX4, rfl, by decide, uw_4, tyX4_ok, nmX4, tw_t (tb_1 (List.mem_of_getElem? (i := 82) rfl)) rfl, rfl, rfl⟩
theorem cfl_X4_19 : FLx RX4 19 4 7 (tyX4 7) true := ⟨RX4, TX4, 9, tyX4, rfl, by decide, uw_4, tyX4_ok, nmX4, tw_t (tb_1 (List.mem_of_getElem? (i := 84) rfl)) rfl, rfl, rfl⟩
theorem cfl_X4_22 : FLx RX4 22 4 6 .int false := ⟨RX4, TX4, 9, tyX4, rfl, by decide, uw_4, tyX4_ok, nmX4, tw_t (tb_1 (List.mem_of_getElem? (i := 83) rfl)) rfl, rfl, rfl⟩
theorem ci_m_X4_init : Cond.instanceMethod yX4_init ∈ TWx := tw_t (tb_1 (List.mem_of_getElem? (i := 73) rfl)) rfl
theorem ck_X9_13 : Cond.classLink RX9 13 RX2 ∈ TWx := tw_t (tb_1 (List.mem_of_getElem? (i := 105) rfl)) rfl
theorem ci_2 : Cond.instantiable RX2 12 ∈ TWx := tw_t (tb_1 (List.mem_of_getElem? (i := 106) rfl)) rfl
theorem cz_2 : Cond.initialized RX2 ∈ TWx := tw_t (tb_1 (List.mem_of_getElem? (i := 5) rfl)) rfl
theorem df_2 : ∀ j, j < 12 → defaultValue (tyX2 j) = vp_V (Value.null :: Value.null :: Value.int 0 :: Value.null :: Value.null :: Value.int 0 :: Value.null :: Value.null :: Value.null :: Value.null :: Value.int 0 :: Value.null :: []) j := by
  intro j hj
  match j, hj with
  | 0, _ => rfl
  | 1, _ => rfl
  | 2, _ => rfl
  | 3, _ => rfl
  | 4, _ => rfl
  | 5, _ => rfl
  | 6, _ => rfl
  | 7, _ => rfl
  | 8, _ => rfl
  | 9, _ => rfl
  | 10, _ => rfl
  | 11, _ => rfl
  | j + 12, h => exact absurd h (by omega)
theorem cm_X9_15 : Cond.methodLink RX9 15 yX2_init ∈ TWx := tw_t (tb_1 (List.mem_of_getElem? (i := 107) rfl)) rfl
theorem cz_m_X2_init : Cond.initialized yX2_init.cls ∈ TWx := tw_t (tb_1 (List.mem_of_getElem? (i := 5) rfl)) rfl
theorem cc_m_X2_init : Cond.code yX2_init cX2_init 3 none ∈ TWx := tw_t (tb_1 (List.mem_of_getElem? (i := 109) rfl)) rfl
theorem co_X2_3 : Cond.methodLink RX2 3 Lib.objectInit ∈ TWx := tw_t (tb_1 (List.mem_of_getElem? (i := 110) rfl)) rfl
theorem cfl_X2_9 : FLx RX2 9 2 2 .boolean false := ⟨RX2, TX2, 12, tyX2, rfl, by decide, uw_2, tyX2_ok, nmX2, tw_t (tb_1 (List.mem_of_getElem? (i := 113) rfl)) rfl, rfl, rfl⟩
theorem cfl_X2_15 : FLx RX2 15 2 3 (tyX2 3) true := ⟨RX2, TX2, 12, tyX2, rfl, by decide, uw_2, tyX2_ok, nmX2, tw_t (tb_1 (List.mem_of_getElem? (i := 114) rfl)) rfl, rfl, rfl⟩
theorem cfl_X2_19 : FLx RX2 19 2 4 (tyX2 4) true := ⟨RX2, TX2, 12, tyX2, rfl, by decide, uw_2, tyX2_ok, nmX2, tw_t (tb_1 (List.mem_of_getElem? (i := 116) rfl)) rfl, rfl, rfl⟩
theorem cfl_X2_22 : FLx RX2 22 2 6 (tyX2 6) true := ⟨RX2, TX2, 12, tyX2, rfl, by decide, uw_2, tyX2_ok, nmX2, tw_t (tb_1 (List.mem_of_getElem? (i := 120) rfl)) rfl, rfl, rfl⟩
theorem cfl_X2_25 : FLx RX2 25 2 7 (tyX2 7) true := ⟨RX2, TX2, 12, tyX2, rfl, by decide, uw_2, tyX2_ok, nmX2, tw_t (tb_1 (List.mem_of_getElem? (i := 121) rfl)) rfl, rfl, rfl⟩
theorem cfl_X2_28 : FLx RX2 28 2 8 (tyX2 8) true := ⟨RX2, TX2, 12, tyX2, rfl, by decide, uw_2, tyX2_ok, nmX2, tw_t (tb_1 (List.mem_of_getElem? (i := 122) rfl)) rfl, rfl, rfl⟩
theorem cfl_X2_31 : FLx RX2 31 2 9 (tyX2 9) true := ⟨RX2, TX2, 12, tyX2, rfl, by decide, uw_2, tyX2_ok, nmX2, tw_t (tb_1 (List.mem_of_getElem? (i := 123) rfl)) rfl, rfl, rfl⟩
theorem cfl_X2_34 : FLx RX2 34 2 11 (tyX2 11) true := ⟨RX2, TX2, 12, tyX2, rfl, by decide, uw_2, tyX2_ok, nmX2, tw_t (tb_1 (List.mem_of_getElem? (i := 129) rfl)) rfl, rfl, rfl⟩
theorem cfl_X2_37 : FLx RX2 37 2 0 (tyX2 0) true := ⟨RX2, TX2, 12, tyX2, rfl, by decide, uw_2, tyX2_ok, nmX2, tw_t (tb_1 (List.mem_of_getElem? (i := 111) rfl)) rfl, rfl, rfl⟩
theorem cfl_X2_41 : FLx RX2 41 2 1 (tyX2 1) true := ⟨RX2, TX2, 12, tyX2, rfl, by decide, uw_2, tyX2_ok, nmX2, tw_t (tb_1 (List.mem_of_getElem? (i := 112) rfl)) rfl, rfl, rfl⟩
theorem ci_m_X2_init : Cond.instanceMethod yX2_init ∈ TWx := tw_t (tb_1 (List.mem_of_getElem? (i := 108) rfl)) rfl
theorem cfl_X9_18 : FLx RX9 18 9 0 (tyX9 0) true := ⟨RX9, TX9, 9, tyX9, rfl, by decide, uw_9, tyX9_ok, nmX9, tw_t (tb_2 (List.mem_of_getElem? (i := 44) rfl)) rfl, rfl, rfl⟩
theorem cfl_X9_24 : FLx RX9 24 9 1 (tyX9 1) true := ⟨RX9, TX9, 9, tyX9, rfl, by decide, uw_9, tyX9_ok, nmX9, tw_t (tb_2 (List.mem_of_getElem? (i := 45) rfl)) rfl, rfl, rfl⟩
theorem cfl_X9_28 : FLx RX9 28 9 2 (tyX9 2) true := ⟨RX9, TX9, 9, tyX9, rfl, by decide, uw_9, tyX9_ok, nmX9, tw_t (tb_2 (List.mem_of_getElem? (i := 46) rfl)) rfl, rfl, rfl⟩
theorem ck_X9_32 : Cond.classLink RX9 32 RX5 ∈ TWx := tw_t (tb_1 (List.mem_of_getElem? (i := 155) rfl)) rfl
theorem ci_5 : Cond.instantiable RX5 6 ∈ TWx := tw_t (tb_1 (List.mem_of_getElem? (i := 156) rfl)) rfl
theorem cz_5 : Cond.initialized RX5 ∈ TWx := tw_t (tb_1 (List.mem_of_getElem? (i := 6) rfl)) rfl
theorem df_5 : ∀ j, j < 6 → defaultValue (tyX5 j) = vp_V (Value.null :: Value.null :: Value.null :: Value.int 0 :: Value.null :: Value.null :: []) j := by
  intro j hj
  match j, hj with
  | 0, _ => rfl
  | 1, _ => rfl
  | 2, _ => rfl
  | 3, _ => rfl
  | 4, _ => rfl
  | 5, _ => rfl
  | j + 6, h => exact absurd h (by omega)
theorem cm_X9_34 : Cond.methodLink RX9 34 yX5_init ∈ TWx := tw_t (tb_1 (List.mem_of_getElem? (i := 157) rfl)) rfl
theorem cz_m_X5_init : Cond.initialized yX5_init.cls ∈ TWx := tw_t (tb_1 (List.mem_of_getElem? (i := 6) rfl)) rfl
theorem cc_m_X5_init : Cond.code yX5_init cX5_init 3 none ∈ TWx := tw_t (tb_1 (List.mem_of_getElem? (i := 159) rfl)) rfl
theorem co_X5_3 : Cond.methodLink RX5 3 Lib.objectInit ∈ TWx := tw_t (tb_1 (List.mem_of_getElem? (i := 160) rfl)) rfl
theorem cfl_X5_9 : FLx RX5 9 5 2 (tyX5 2) true := ⟨RX5, TX5, 6, tyX5, rfl, by decide, uw_5, tyX5_ok, nmX5, tw_t (tb_1 (List.mem_of_getElem? (i := 163) rfl)) rfl, rfl, rfl⟩
theorem cfl_X5_15 : FLx RX5 15 5 4 (tyX5 4) true := ⟨RX5, TX5, 6, tyX5, rfl, by decide, uw_5, tyX5_ok, nmX5, tw_t (tb_1 (List.mem_of_getElem? (i := 166) rfl)) rfl, rfl, rfl⟩
theorem cfl_X5_18 : FLx RX5 18 5 5 (tyX5 5) true := ⟨RX5, TX5, 6, tyX5, rfl, by decide, uw_5, tyX5_ok, nmX5, tw_t (tb_1 (List.mem_of_getElem? (i := 167) rfl)) rfl, rfl, rfl⟩
theorem cfl_X5_21 : FLx RX5 21 5 0 (tyX5 0) true := ⟨RX5, TX5, 6, tyX5, rfl, by decide, uw_5, tyX5_ok, nmX5, tw_t (tb_1 (List.mem_of_getElem? (i := 161) rfl)) rfl, rfl, rfl⟩
theorem cfl_X5_25 : FLx RX5 25 5 1 (tyX5 1) true := ⟨RX5, TX5, 6, tyX5, rfl, by decide, uw_5, tyX5_ok, nmX5, tw_t (tb_1 (List.mem_of_getElem? (i := 162) rfl)) rfl, rfl, rfl⟩
theorem ci_m_X5_init : Cond.instanceMethod yX5_init ∈ TWx := tw_t (tb_1 (List.mem_of_getElem? (i := 158) rfl)) rfl
theorem cfl_X9_37 : FLx RX9 37 9 3 (tyX9 3) true := ⟨RX9, TX9, 9, tyX9, rfl, by decide, uw_9, tyX9_ok, nmX9, tw_t (tb_2 (List.mem_of_getElem? (i := 47) rfl)) rfl, rfl, rfl⟩
theorem ck_X9_41 : Cond.classLink RX9 41 RX7 ∈ TWx := tw_t (tb_1 (List.mem_of_getElem? (i := 181) rfl)) rfl
theorem ci_7 : Cond.instantiable RX7 3 ∈ TWx := tw_t (tb_1 (List.mem_of_getElem? (i := 182) rfl)) rfl
theorem cz_7 : Cond.initialized RX7 ∈ TWx := tw_t (tb_1 (List.mem_of_getElem? (i := 7) rfl)) rfl
theorem df_7 : ∀ j, j < 3 → defaultValue (tyX7 j) = vp_V (Value.null :: Value.null :: Value.null :: []) j := by
  intro j hj
  match j, hj with
  | 0, _ => rfl
  | 1, _ => rfl
  | 2, _ => rfl
  | j + 3, h => exact absurd h (by omega)
theorem cm_X9_43 : Cond.methodLink RX9 43 yX7_init ∈ TWx := tw_t (tb_1 (List.mem_of_getElem? (i := 183) rfl)) rfl
theorem cz_m_X7_init : Cond.initialized yX7_init.cls ∈ TWx := tw_t (tb_1 (List.mem_of_getElem? (i := 7) rfl)) rfl
theorem cc_m_X7_init : Cond.code yX7_init cX7_init 3 none ∈ TWx := tw_t (tb_1 (List.mem_of_getElem? (i := 185) rfl)) rfl
theorem co_X7_3 : Cond.methodLink RX7 3 Lib.objectInit ∈ TWx := tw_t (tb_1 (List.mem_of_getElem? (i := 186) rfl)) rfl
theorem cfl_X7_9 : FLx RX7 9 7 2 (tyX7 2) true := ⟨RX7, TX7, 3, tyX7, rfl, by decide, uw_7, tyX7_ok, nmX7, tw_t (tb_1 (List.mem_of_getElem? (i := 189) rfl)) rfl, rfl, rfl⟩
theorem cfl_X7_15 : FLx RX7 15 7 0 (tyX7 0) true := ⟨RX7, TX7, 3, tyX7, rfl, by decide, uw_7, tyX7_ok, nmX7, tw_t (tb_1 (List.mem_of_getElem? (i := 187) rfl)) rfl, rfl, rfl⟩
theorem cfl_X7_19 : FLx RX7 19 7 1 (tyX7 1) true := ⟨RX7, TX7, 3, tyX7, rfl, by decide, uw_7, tyX7_ok, nmX7, tw_t (tb_1 (List.mem_of_getElem? (i := 188) rfl)) rfl, rfl, rfl⟩
theorem ci_m_X7_init : Cond.instanceMethod yX7_init ∈ TWx := tw_t (tb_1 (List.mem_of_getElem? (i := 184) rfl)) rfl
theorem cfl_X9_44 : FLx RX9 44 9 4 (tyX9 4) true := ⟨RX9, TX9, 9, tyX9, rfl, by decide, uw_9, tyX9_ok, nmX9, tw_t (tb_2 (List.mem_of_getElem? (i := 48) rfl)) rfl, rfl, rfl⟩
theorem ck_X9_48 : Cond.classLink RX9 48 RX3 ∈ TWx := tw_t (tb_1 (List.mem_of_getElem? (i := 197) rfl)) rfl
theorem ci_3 : Cond.instantiable RX3 3 ∈ TWx := tw_t (tb_1 (List.mem_of_getElem? (i := 198) rfl)) rfl
theorem cz_3 : Cond.initialized RX3 ∈ TWx := tw_t (tb_1 (List.mem_of_getElem? (i := 8) rfl)) rfl
theorem df_3 : ∀ j, j < 3 → defaultValue (tyX3 j) = vp_V (Value.null :: Value.null :: Value.int 0 :: []) j := by
  intro j hj
  match j, hj with
  | 0, _ => rfl
  | 1, _ => rfl
  | 2, _ => rfl
  | j + 3, h => exact absurd h (by omega)
theorem cm_X9_50 : Cond.methodLink RX9 50 yX3_init ∈ TWx := tw_t (tb_1 (List.mem_of_getElem? (i := 199) rfl)) rfl
theorem cz_m_X3_init : Cond.initialized yX3_init.cls ∈ TWx := tw_t (tb_1 (List.mem_of_getElem? (i := 8) rfl)) rfl
theorem cc_m_X3_init : Cond.code yX3_init cX3_init 1 none ∈ TWx := tw_t (tb_1 (List.mem_of_getElem? (i := 201) rfl)) rfl
theorem co_X3_3 : Cond.methodLink RX3 3 Lib.objectInit ∈ TWx := tw_t (tb_1 (List.mem_of_getElem? (i := 202) rfl)) rfl
theorem cfl_X3_11 : FLx RX3 11 3 0 (tyX3 0) true := ⟨RX3, TX3, 3, tyX3, rfl, by decide, uw_3, tyX3_ok, nmX3, tw_t (tb_1 (List.mem_of_getElem? (i := 203) rfl)) rfl, rfl, rfl⟩
theorem cfl_X3_15 : FLx RX3 15 3 1 (tyX3 1) true := ⟨RX3, TX3, 3, tyX3, rfl, by decide, uw_3, tyX3_ok, nmX3, tw_t (tb_1 (List.mem_of_getElem? (i := 204) rfl)) rfl, rfl, rfl⟩
theorem ci_m_X3_init : Cond.instanceMethod yX3_init ∈ TWx := tw_t (tb_1 (List.mem_of_getElem? (i := 200) rfl)) rfl
theorem cfl_X9_51 : FLx RX9 51 9 5 (tyX9 5) true := ⟨RX9, TX9, 9, tyX9, rfl, by decide, uw_9, tyX9_ok, nmX9, tw_t (tb_2 (List.mem_of_getElem? (i := 49) rfl)) rfl, rfl, rfl⟩
theorem ck_X9_55 : Cond.classLink RX9 55 RX1 ∈ TWx := tw_t (tb_1 (List.mem_of_getElem? (i := 213) rfl)) rfl
theorem ci_1 : Cond.instantiable RX1 3 ∈ TWx := tw_t (tb_1 (List.mem_of_getElem? (i := 214) rfl)) rfl
theorem cz_1 : Cond.initialized RX1 ∈ TWx := tw_t (tb_1 (List.mem_of_getElem? (i := 9) rfl)) rfl
theorem df_1 : ∀ j, j < 3 → defaultValue (tyX1 j) = vp_V (Value.null :: Value.int 0 :: Value.int 0 :: []) j := by
  intro j hj
  match j, hj with
  | 0, _ => rfl
  | 1, _ => rfl
  | 2, _ => rfl
  | j + 3, h => exact absurd h (by omega)
theorem cz_m_X1_init : Cond.initialized yX1_init.cls ∈ TWx := tw_t (tb_1 (List.mem_of_getElem? (i := 9) rfl)) rfl
theorem cc_m_X1_init : Cond.code yX1_init cX1_init 1 none ∈ TWx := tw_t (tb_1 (List.mem_of_getElem? (i := 217) rfl)) rfl
theorem co_X1_1 : Cond.methodLink RX1 1 Lib.objectInit ∈ TWx := tw_t (tb_1 (List.mem_of_getElem? (i := 218) rfl)) rfl
theorem ck_X1_9 : Cond.classLink RX1 9 "[[I" ∈ TWx := tw_t (tb_1 (List.mem_of_getElem? (i := 219) rfl)) rfl
theorem cfl_X1_11 : FLx RX1 11 1 0 (tyX1 0) true := ⟨RX1, TX1, 3, tyX1, rfl, by decide, uw_1, tyX1_ok, nmX1, tw_t (tb_1 (List.mem_of_getElem? (i := 220) rfl)) rfl, rfl, rfl⟩
theorem ci_m_X1_init : Cond.instanceMethod yX1_init ∈ TWx := tw_t (tb_1 (List.mem_of_getElem? (i := 216) rfl)) rfl
theorem cfl_X9_58 : FLx RX9 58 9 6 (tyX9 6) true := ⟨RX9, TX9, 9, tyX9, rfl, by decide, uw_9, tyX9_ok, nmX9, tw_t (tb_2 (List.mem_of_getElem? (i := 50) rfl)) rfl, rfl, rfl⟩
theorem ck_X9_62 : Cond.classLink RX9 62 RX0 ∈ TWx := tw_t (tb_1 (List.mem_of_getElem? (i := 231) rfl)) rfl
theorem ci_0 : Cond.instantiable RX0 6 ∈ TWx := tw_t (tb_1 (List.mem_of_getElem? (i := 232) rfl)) rfl
theorem cz_0 : Cond.initialized RX0 ∈ TWx := tw_t (tb_1 (List.mem_of_getElem? (i := 10) rfl)) rfl
theorem df_0 : ∀ j, j < 6 → defaultValue (tyX0 j) = vp_V (Value.int 0 :: Value.null :: Value.int 0 :: Value.null :: Value.int 0 :: Value.int 0 :: []) j := by
  intro j hj
  match j, hj with
  | 0, _ => rfl
  | 1, _ => rfl
  | 2, _ => rfl
  | 3, _ => rfl
  | 4, _ => rfl
  | 5, _ => rfl
  | j + 6, h => exact absurd h (by omega)
theorem cz_m_X0_init : Cond.initialized yX0_init.cls ∈ TWx := tw_t (tb_1 (List.mem_of_getElem? (i := 10) rfl)) rfl
theorem cc_m_X0_init : Cond.code yX0_init cX0_init 1 none ∈ TWx := tw_t (tb_1 (List.mem_of_getElem? (i := 235) rfl)) rfl
theorem co_X0_3 : Cond.methodLink RX0 3 Lib.objectInit ∈ TWx := tw_t (tb_1 (List.mem_of_getElem? (i := 236) rfl)) rfl
theorem cfl_X0_11 : FLx RX0 11 0 1 (tyX0 1) true := ⟨RX0, TX0, 6, tyX0, rfl, by decide, uw_0, tyX0_ok, nmX0, tw_t (tb_1 (List.mem_of_getElem? (i := 239) rfl)) rfl, rfl, rfl⟩
theorem cfl_X0_15 : FLx RX0 15 0 3 (tyX0 3) true := ⟨RX0, TX0, 6, tyX0, rfl, by decide, uw_0, tyX0_ok, nmX0, tw_t (tb_2 (List.mem_of_getElem? (i := 2) rfl)) rfl, rfl, rfl⟩
theorem ci_m_X0_init : Cond.instanceMethod yX0_init ∈ TWx := tw_t (tb_1 (List.mem_of_getElem? (i := 234) rfl)) rfl
theorem cfl_X9_65 : FLx RX9 65 9 7 (tyX9 7) true := ⟨RX9, TX9, 9, tyX9, rfl, by decide, uw_9, tyX9_ok, nmX9, tw_t (tb_2 (List.mem_of_getElem? (i := 51) rfl)) rfl, rfl, rfl⟩
theorem ck_X9_69 : Cond.classLink RX9 69 "FootstepsAhead$Shelf" ∈ TWx := tw_t (tb_2 (List.mem_of_getElem? (i := 18) rfl)) rfl
theorem ci_6 : Cond.instantiable RX6 4 ∈ TWx := tw_t (tb_2 (List.mem_of_getElem? (i := 20) rfl)) rfl
theorem cz_6 : Cond.initialized RX6 ∈ TWx := tw_t (tb_1 (List.mem_of_getElem? (i := 11) rfl)) rfl
theorem df_6 : ∀ j, j < 4 → defaultValue (tyX6 j) = vp_V (Value.int 0 :: Value.int 0 :: Value.int 0 :: Value.null :: []) j := by
  intro j hj
  match j, hj with
  | 0, _ => rfl
  | 1, _ => rfl
  | 2, _ => rfl
  | 3, _ => rfl
  | j + 4, h => exact absurd h (by omega)
theorem cz_m_X6_init : Cond.initialized yX6_init.cls ∈ TWx := tw_t (tb_1 (List.mem_of_getElem? (i := 11) rfl)) rfl
theorem cc_m_X6_init : Cond.code yX6_init cX6_init 1 none ∈ TWx := tw_t (tb_2 (List.mem_of_getElem? (i := 23) rfl)) rfl
theorem co_X6_3 : Cond.methodLink RX6 3 Lib.objectInit ∈ TWx := tw_t (tb_2 (List.mem_of_getElem? (i := 24) rfl)) rfl
theorem cfl_X6_11 : FLx RX6 11 6 0 .int false := ⟨RX6, TX6, 4, tyX6, rfl, by decide, uw_6, tyX6_ok, nmX6, tw_t (tb_2 (List.mem_of_getElem? (i := 25) rfl)) rfl, rfl, rfl⟩
theorem ca_long : Cond.arrayClass .long ∈ TWx := tw_t (tb_2 (List.mem_of_getElem? (i := 43) rfl)) rfl
theorem cfl_X6_15 : FLx RX6 15 6 3 (tyX6 3) true := ⟨RX6, TX6, 4, tyX6, rfl, by decide, uw_6, tyX6_ok, nmX6, tw_t (tb_2 (List.mem_of_getElem? (i := 31) rfl)) rfl, rfl, rfl⟩
theorem ci_m_X6_init : Cond.instanceMethod yX6_init ∈ TWx := tw_t (tb_2 (List.mem_of_getElem? (i := 22) rfl)) rfl
theorem cfl_X9_72 : FLx RX9 72 9 8 (tyX9 8) true := ⟨RX9, TX9, 9, tyX9, rfl, by decide, uw_9, tyX9_ok, nmX9, tw_t (tb_2 (List.mem_of_getElem? (i := 52) rfl)) rfl, rfl, rfl⟩
theorem co_X10_1 : Cond.methodLink RX10 1 Lib.objectInit ∈ TWx := tw_t (tb_5 (List.mem_of_getElem? (i := 83) rfl)) rfl
theorem cfl_X10_7 : FLx RX10 7 10 2 (tyX10 2) true := ⟨RX10, TX10, 57, tyX10, rfl, by decide, uw_10, tyX10_ok, nmX10, tw_t (tb_5 (List.mem_of_getElem? (i := 85) rfl)) rfl, rfl, rfl⟩
theorem cfl_X10_13 : FLx RX10 13 10 3 (tyX10 3) true := ⟨RX10, TX10, 57, tyX10, rfl, by decide, uw_10, tyX10_ok, nmX10, tw_t (tb_5 (List.mem_of_getElem? (i := 86) rfl)) rfl, rfl, rfl⟩
theorem cfl_X10_16 : FLx RX10 16 10 4 (tyX10 4) true := ⟨RX10, TX10, 57, tyX10, rfl, by decide, uw_10, tyX10_ok, nmX10, tw_t (tb_5 (List.mem_of_getElem? (i := 87) rfl)) rfl, rfl, rfl⟩
theorem cfl_X10_19 : FLx RX10 19 10 5 (tyX10 5) true := ⟨RX10, TX10, 57, tyX10, rfl, by decide, uw_10, tyX10_ok, nmX10, tw_t (tb_5 (List.mem_of_getElem? (i := 88) rfl)) rfl, rfl, rfl⟩
theorem cfl_X10_22 : FLx RX10 22 10 6 (tyX10 6) true := ⟨RX10, TX10, 57, tyX10, rfl, by decide, uw_10, tyX10_ok, nmX10, tw_t (tb_5 (List.mem_of_getElem? (i := 89) rfl)) rfl, rfl, rfl⟩
theorem cfl_X10_25 : FLx RX10 25 10 7 (tyX10 7) true := ⟨RX10, TX10, 57, tyX10, rfl, by decide, uw_10, tyX10_ok, nmX10, tw_t (tb_5 (List.mem_of_getElem? (i := 90) rfl)) rfl, rfl, rfl⟩
theorem cfl_X10_28 : FLx RX10 28 10 8 (tyX10 8) true := ⟨RX10, TX10, 57, tyX10, rfl, by decide, uw_10, tyX10_ok, nmX10, tw_t (tb_5 (List.mem_of_getElem? (i := 91) rfl)) rfl, rfl, rfl⟩
theorem cfl_X10_31 : FLx RX10 31 10 11 (tyX10 11) true := ⟨RX10, TX10, 57, tyX10, rfl, by decide, uw_10, tyX10_ok, nmX10, tw_t (tb_5 (List.mem_of_getElem? (i := 94) rfl)) rfl, rfl, rfl⟩
theorem cfl_X10_34 : FLx RX10 34 10 12 (tyX10 12) true := ⟨RX10, TX10, 57, tyX10, rfl, by decide, uw_10, tyX10_ok, nmX10, tw_t (tb_5 (List.mem_of_getElem? (i := 95) rfl)) rfl, rfl, rfl⟩
theorem cfl_X10_37 : FLx RX10 37 10 13 (tyX10 13) true := ⟨RX10, TX10, 57, tyX10, rfl, by decide, uw_10, tyX10_ok, nmX10, tw_t (tb_5 (List.mem_of_getElem? (i := 96) rfl)) rfl, rfl, rfl⟩
theorem cfl_X10_40 : FLx RX10 40 10 14 (tyX10 14) true := ⟨RX10, TX10, 57, tyX10, rfl, by decide, uw_10, tyX10_ok, nmX10, tw_t (tb_5 (List.mem_of_getElem? (i := 97) rfl)) rfl, rfl, rfl⟩
theorem ca_byte : Cond.arrayClass .byte ∈ TWx := tw_t (tb_6 (List.mem_of_getElem? (i := 15) rfl)) rfl
theorem cfl_X10_43 : FLx RX10 43 10 15 (tyX10 15) true := ⟨RX10, TX10, 57, tyX10, rfl, by decide, uw_10, tyX10_ok, nmX10, tw_t (tb_5 (List.mem_of_getElem? (i := 98) rfl)) rfl, rfl, rfl⟩
theorem cfl_X10_47 : FLx RX10 47 10 21 (tyX10 21) true := ⟨RX10, TX10, 57, tyX10, rfl, by decide, uw_10, tyX10_ok, nmX10, tw_t (tb_5 (List.mem_of_getElem? (i := 104) rfl)) rfl, rfl, rfl⟩
theorem cfl_X10_50 : FLx RX10 50 10 22 (tyX10 22) true := ⟨RX10, TX10, 57, tyX10, rfl, by decide, uw_10, tyX10_ok, nmX10, tw_t (tb_5 (List.mem_of_getElem? (i := 105) rfl)) rfl, rfl, rfl⟩
theorem cfl_X10_53 : FLx RX10 53 10 23 (tyX10 23) true := ⟨RX10, TX10, 57, tyX10, rfl, by decide, uw_10, tyX10_ok, nmX10, tw_t (tb_5 (List.mem_of_getElem? (i := 106) rfl)) rfl, rfl, rfl⟩
theorem ca_short : Cond.arrayClass .short ∈ TWx := tw_t (tb_6 (List.mem_of_getElem? (i := 16) rfl)) rfl
theorem cfl_X10_56 : FLx RX10 56 10 24 (tyX10 24) true := ⟨RX10, TX10, 57, tyX10, rfl, by decide, uw_10, tyX10_ok, nmX10, tw_t (tb_5 (List.mem_of_getElem? (i := 107) rfl)) rfl, rfl, rfl⟩
theorem cfl_X10_60 : FLx RX10 60 10 25 (tyX10 25) true := ⟨RX10, TX10, 57, tyX10, rfl, by decide, uw_10, tyX10_ok, nmX10, tw_t (tb_5 (List.mem_of_getElem? (i := 108) rfl)) rfl, rfl, rfl⟩
theorem cfl_X10_63 : FLx RX10 63 10 26 (tyX10 26) true := ⟨RX10, TX10, 57, tyX10, rfl, by decide, uw_10, tyX10_ok, nmX10, tw_t (tb_5 (List.mem_of_getElem? (i := 109) rfl)) rfl, rfl, rfl⟩
theorem cfl_X10_66 : FLx RX10 66 10 27 (tyX10 27) true := ⟨RX10, TX10, 57, tyX10, rfl, by decide, uw_10, tyX10_ok, nmX10, tw_t (tb_5 (List.mem_of_getElem? (i := 110) rfl)) rfl, rfl, rfl⟩
theorem cfl_X10_69 : FLx RX10 69 10 29 (tyX10 29) true := ⟨RX10, TX10, 57, tyX10, rfl, by decide, uw_10, tyX10_ok, nmX10, tw_t (tb_5 (List.mem_of_getElem? (i := 112) rfl)) rfl, rfl, rfl⟩
theorem cfl_X10_72 : FLx RX10 72 10 30 (tyX10 30) true := ⟨RX10, TX10, 57, tyX10, rfl, by decide, uw_10, tyX10_ok, nmX10, tw_t (tb_5 (List.mem_of_getElem? (i := 113) rfl)) rfl, rfl, rfl⟩
theorem cfl_X10_75 : FLx RX10 75 10 31 (tyX10 31) true := ⟨RX10, TX10, 57, tyX10, rfl, by decide, uw_10, tyX10_ok, nmX10, tw_t (tb_5 (List.mem_of_getElem? (i := 114) rfl)) rfl, rfl, rfl⟩
theorem cfl_X10_78 : FLx RX10 78 10 32 .int false := ⟨RX10, TX10, 57, tyX10, rfl, by decide, uw_10, tyX10_ok, nmX10, tw_t (tb_5 (List.mem_of_getElem? (i := 115) rfl)) rfl, rfl, rfl⟩
theorem cfl_X10_82 : FLx RX10 82 10 34 .int false := ⟨RX10, TX10, 57, tyX10, rfl, by decide, uw_10, tyX10_ok, nmX10, tw_t (tb_5 (List.mem_of_getElem? (i := 117) rfl)) rfl, rfl, rfl⟩
theorem cfl_X10_85 : FLx RX10 85 10 37 (tyX10 37) true := ⟨RX10, TX10, 57, tyX10, rfl, by decide, uw_10, tyX10_ok, nmX10, tw_t (tb_5 (List.mem_of_getElem? (i := 120) rfl)) rfl, rfl, rfl⟩
theorem cfl_X10_88 : FLx RX10 88 10 41 (tyX10 41) true := ⟨RX10, TX10, 57, tyX10, rfl, by decide, uw_10, tyX10_ok, nmX10, tw_t (tb_5 (List.mem_of_getElem? (i := 124) rfl)) rfl, rfl, rfl⟩
theorem cfl_X10_91 : FLx RX10 91 10 42 (tyX10 42) true := ⟨RX10, TX10, 57, tyX10, rfl, by decide, uw_10, tyX10_ok, nmX10, tw_t (tb_5 (List.mem_of_getElem? (i := 125) rfl)) rfl, rfl, rfl⟩
theorem cfl_X10_94 : FLx RX10 94 10 44 (tyX10 44) true := ⟨RX10, TX10, 57, tyX10, rfl, by decide, uw_10, tyX10_ok, nmX10, tw_t (tb_5 (List.mem_of_getElem? (i := 127) rfl)) rfl, rfl, rfl⟩
theorem cfl_X10_97 : FLx RX10 97 10 45 (tyX10 45) true := ⟨RX10, TX10, 57, tyX10, rfl, by decide, uw_10, tyX10_ok, nmX10, tw_t (tb_5 (List.mem_of_getElem? (i := 128) rfl)) rfl, rfl, rfl⟩
theorem cfl_X10_100 : FLx RX10 100 10 46 (tyX10 46) true := ⟨RX10, TX10, 57, tyX10, rfl, by decide, uw_10, tyX10_ok, nmX10, tw_t (tb_5 (List.mem_of_getElem? (i := 129) rfl)) rfl, rfl, rfl⟩
theorem cfl_X10_103 : FLx RX10 103 10 47 (tyX10 47) true := ⟨RX10, TX10, 57, tyX10, rfl, by decide, uw_10, tyX10_ok, nmX10, tw_t (tb_5 (List.mem_of_getElem? (i := 130) rfl)) rfl, rfl, rfl⟩
theorem cfl_X10_106 : FLx RX10 106 10 50 (tyX10 50) true := ⟨RX10, TX10, 57, tyX10, rfl, by decide, uw_10, tyX10_ok, nmX10, tw_t (tb_5 (List.mem_of_getElem? (i := 133) rfl)) rfl, rfl, rfl⟩
theorem cfl_X10_109 : FLx RX10 109 10 52 (tyX10 52) true := ⟨RX10, TX10, 57, tyX10, rfl, by decide, uw_10, tyX10_ok, nmX10, tw_t (tb_5 (List.mem_of_getElem? (i := 135) rfl)) rfl, rfl, rfl⟩
theorem cfl_X10_112 : FLx RX10 112 10 53 (tyX10 53) true := ⟨RX10, TX10, 57, tyX10, rfl, by decide, uw_10, tyX10_ok, nmX10, tw_t (tb_5 (List.mem_of_getElem? (i := 136) rfl)) rfl, rfl, rfl⟩
theorem cfl_X10_115 : FLx RX10 115 10 54 (tyX10 54) true := ⟨RX10, TX10, 57, tyX10, rfl, by decide, uw_10, tyX10_ok, nmX10, tw_t (tb_5 (List.mem_of_getElem? (i := 137) rfl)) rfl, rfl, rfl⟩
theorem cfl_X10_118 : FLx RX10 118 10 55 (tyX10 55) true := ⟨RX10, TX10, 57, tyX10, rfl, by decide, uw_10, tyX10_ok, nmX10, tw_t (tb_5 (List.mem_of_getElem? (i := 138) rfl)) rfl, rfl, rfl⟩
theorem cfl_X10_122 : FLx RX10 122 10 56 (tyX10 56) true := ⟨RX10, TX10, 57, tyX10, rfl, by decide, uw_10, tyX10_ok, nmX10, tw_t (tb_5 (List.mem_of_getElem? (i := 139) rfl)) rfl, rfl, rfl⟩
