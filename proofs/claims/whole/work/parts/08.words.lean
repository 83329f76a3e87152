theorem pv_1 {q : MethodName × Nat} (h : q ∈ lw_privs_1) : q ∈ lw_privs := List.mem_append_left _ h
theorem pv_2 {q : MethodName × Nat} (h : q ∈ lw_privs_2) : q ∈ lw_privs := List.mem_append_right _ (List.mem_append_left _ h)
theorem pv_3 {q : MethodName × Nat} (h : q ∈ lw_privs_3) : q ∈ lw_privs := List.mem_append_right _ (List.mem_append_right _ (List.mem_append_left _ h))
theorem pv_4 {q : MethodName × Nat} (h : q ∈ lw_privs_4) : q ∈ lw_privs := List.mem_append_right _ (List.mem_append_right _ (List.mem_append_right _ (List.mem_append_left _ h)))
theorem pv_5 {q : MethodName × Nat} (h : q ∈ lw_privs_5) : q ∈ lw_privs := List.mem_append_right _ (List.mem_append_right _ (List.mem_append_right _ (List.mem_append_right _ (List.mem_append_left _ h))))
theorem pv_6 {q : MethodName × Nat} (h : q ∈ lw_privs_6) : q ∈ lw_privs := List.mem_append_right _ (List.mem_append_right _ (List.mem_append_right _ (List.mem_append_right _ (List.mem_append_right _ (List.mem_append_left _ h)))))
theorem pv_7 {q : MethodName × Nat} (h : q ∈ lw_privs_7) : q ∈ lw_privs := List.mem_append_right _ (List.mem_append_right _ (List.mem_append_right _ (List.mem_append_right _ (List.mem_append_right _ (List.mem_append_right _ (h))))))
theorem uw_0 : ∀ w ∈ u_ws RX0 TX0 6, w ∈ TWx := by
  intro w hw
  obtain ⟨k, hk, rfl⟩ := List.mem_map.mp hw
  have hk := List.mem_range.mp hk
  match k, hk with
  | 0, _ => exact tw_t (tb_2 (List.mem_of_getElem? (i := 5) rfl)) rfl
  | 1, _ => exact tw_t (tb_2 (List.mem_of_getElem? (i := 7) rfl)) rfl
  | 2, _ => exact tw_t (tb_2 (List.mem_of_getElem? (i := 9) rfl)) rfl
  | 3, _ => exact tw_t (tb_2 (List.mem_of_getElem? (i := 11) rfl)) rfl
  | 4, _ => exact tw_t (tb_2 (List.mem_of_getElem? (i := 13) rfl)) rfl
  | 5, _ => exact tw_t (tb_2 (List.mem_of_getElem? (i := 15) rfl)) rfl
  | k + 6, h => exact absurd h (by omega)
theorem uw_1 : ∀ w ∈ u_ws RX1 TX1 3, w ∈ TWx := by
  intro w hw
  obtain ⟨k, hk, rfl⟩ := List.mem_map.mp hw
  have hk := List.mem_range.mp hk
  match k, hk with
  | 0, _ => exact tw_t (tb_1 (List.mem_of_getElem? (i := 224) rfl)) rfl
  | 1, _ => exact tw_t (tb_1 (List.mem_of_getElem? (i := 226) rfl)) rfl
  | 2, _ => exact tw_t (tb_1 (List.mem_of_getElem? (i := 228) rfl)) rfl
  | k + 3, h => exact absurd h (by omega)
theorem uw_2 : ∀ w ∈ u_ws RX2 TX2 12, w ∈ TWx := by
  intro w hw
  obtain ⟨k, hk, rfl⟩ := List.mem_map.mp hw
  have hk := List.mem_range.mp hk
  match k, hk with
  | 0, _ => exact tw_t (tb_1 (List.mem_of_getElem? (i := 130) rfl)) rfl
  | 1, _ => exact tw_t (tb_1 (List.mem_of_getElem? (i := 132) rfl)) rfl
  | 2, _ => exact tw_t (tb_1 (List.mem_of_getElem? (i := 134) rfl)) rfl
  | 3, _ => exact tw_t (tb_1 (List.mem_of_getElem? (i := 136) rfl)) rfl
  | 4, _ => exact tw_t (tb_1 (List.mem_of_getElem? (i := 138) rfl)) rfl
  | 5, _ => exact tw_t (tb_1 (List.mem_of_getElem? (i := 140) rfl)) rfl
  | 6, _ => exact tw_t (tb_1 (List.mem_of_getElem? (i := 142) rfl)) rfl
  | 7, _ => exact tw_t (tb_1 (List.mem_of_getElem? (i := 144) rfl)) rfl
  | 8, _ => exact tw_t (tb_1 (List.mem_of_getElem? (i := 146) rfl)) rfl
  | 9, _ => exact tw_t (tb_1 (List.mem_of_getElem? (i := 148) rfl)) rfl
  | 10, _ => exact tw_t (tb_1 (List.mem_of_getElem? (i := 150) rfl)) rfl
  | 11, _ => exact tw_t (tb_1 (List.mem_of_getElem? (i := 152) rfl)) rfl
  | k + 12, h => exact absurd h (by omega)
theorem uw_3 : ∀ w ∈ u_ws RX3 TX3 3, w ∈ TWx := by
  intro w hw
  obtain ⟨k, hk, rfl⟩ := List.mem_map.mp hw
  have hk := List.mem_range.mp hk
  match k, hk with
  | 0, _ => exact tw_t (tb_1 (List.mem_of_getElem? (i := 206) rfl)) rfl
  | 1, _ => exact tw_t (tb_1 (List.mem_of_getElem? (i := 208) rfl)) rfl
  | 2, _ => exact tw_t (tb_1 (List.mem_of_getElem? (i := 210) rfl)) rfl
  | k + 3, h => exact absurd h (by omega)
theorem uw_4 : ∀ w ∈ u_ws RX4 TX4 9, w ∈ TWx := by
  intro w hw
  obtain ⟨k, hk, rfl⟩ := List.mem_map.mp hw
  have hk := List.mem_range.mp hk
  match k, hk with
  | 0, _ => exact tw_t (tb_1 (List.mem_of_getElem? (i := 86) rfl)) rfl
  | 1, _ => exact tw_t (tb_1 (List.mem_of_getElem? (i := 88) rfl)) rfl
  | 2, _ => exact tw_t (tb_1 (List.mem_of_getElem? (i := 90) rfl)) rfl
  | 3, _ => exact tw_t (tb_1 (List.mem_of_getElem? (i := 92) rfl)) rfl
  | 4, _ => exact tw_t (tb_1 (List.mem_of_getElem? (i := 94) rfl)) rfl
  | 5, _ => exact tw_t (tb_1 (List.mem_of_getElem? (i := 96) rfl)) rfl
  | 6, _ => exact tw_t (tb_1 (List.mem_of_getElem? (i := 98) rfl)) rfl
  | 7, _ => exact tw_t (tb_1 (List.mem_of_getElem? (i := 100) rfl)) rfl
  | 8, _ => exact tw_t (tb_1 (List.mem_of_getElem? (i := 102) rfl)) rfl
  | k + 9, h => exact absurd h (by omega)
theorem uw_5 : ∀ w ∈ u_ws RX5 TX5 6, w ∈ TWx := by
  intro w hw
  obtain ⟨k, hk, rfl⟩ := List.mem_map.mp hw
  have hk := List.mem_range.mp hk
  match k, hk with
  | 0, _ => exact tw_t (tb_1 (List.mem_of_getElem? (i := 168) rfl)) rfl
  | 1, _ => exact tw_t (tb_1 (List.mem_of_getElem? (i := 170) rfl)) rfl
  | 2, _ => exact tw_t (tb_1 (List.mem_of_getElem? (i := 172) rfl)) rfl
  | 3, _ => exact tw_t (tb_1 (List.mem_of_getElem? (i := 174) rfl)) rfl
  | 4, _ => exact tw_t (tb_1 (List.mem_of_getElem? (i := 176) rfl)) rfl
  | 5, _ => exact tw_t (tb_1 (List.mem_of_getElem? (i := 178) rfl)) rfl
  | k + 6, h => exact absurd h (by omega)
theorem uw_6 : ∀ w ∈ u_ws RX6 TX6 4, w ∈ TWx := by
  intro w hw
  obtain ⟨k, hk, rfl⟩ := List.mem_map.mp hw
  have hk := List.mem_range.mp hk
  match k, hk with
  | 0, _ => exact tw_t (tb_2 (List.mem_of_getElem? (i := 34) rfl)) rfl
  | 1, _ => exact tw_t (tb_2 (List.mem_of_getElem? (i := 36) rfl)) rfl
  | 2, _ => exact tw_t (tb_2 (List.mem_of_getElem? (i := 38) rfl)) rfl
  | 3, _ => exact tw_t (tb_2 (List.mem_of_getElem? (i := 40) rfl)) rfl
  | k + 4, h => exact absurd h (by omega)
theorem uw_7 : ∀ w ∈ u_ws RX7 TX7 3, w ∈ TWx := by
  intro w hw
  obtain ⟨k, hk, rfl⟩ := List.mem_map.mp hw
  have hk := List.mem_range.mp hk
  match k, hk with
  | 0, _ => exact tw_t (tb_1 (List.mem_of_getElem? (i := 190) rfl)) rfl
  | 1, _ => exact tw_t (tb_1 (List.mem_of_getElem? (i := 192) rfl)) rfl
  | 2, _ => exact tw_t (tb_1 (List.mem_of_getElem? (i := 194) rfl)) rfl
  | k + 3, h => exact absurd h (by omega)
theorem uw_8 : ∀ w ∈ u_ws RX8 TX8 7, w ∈ TWx := by
  intro w hw
  obtain ⟨k, hk, rfl⟩ := List.mem_map.mp hw
  have hk := List.mem_range.mp hk
  match k, hk with
  | 0, _ => exact tw_t (tb_1 (List.mem_of_getElem? (i := 54) rfl)) rfl
  | 1, _ => exact tw_t (tb_1 (List.mem_of_getElem? (i := 56) rfl)) rfl
  | 2, _ => exact tw_t (tb_1 (List.mem_of_getElem? (i := 58) rfl)) rfl
  | 3, _ => exact tw_t (tb_1 (List.mem_of_getElem? (i := 60) rfl)) rfl
  | 4, _ => exact tw_t (tb_1 (List.mem_of_getElem? (i := 62) rfl)) rfl
  | 5, _ => exact tw_t (tb_1 (List.mem_of_getElem? (i := 64) rfl)) rfl
  | 6, _ => exact tw_t (tb_1 (List.mem_of_getElem? (i := 66) rfl)) rfl
  | k + 7, h => exact absurd h (by omega)
theorem uw_9 : ∀ w ∈ u_ws RX9 TX9 9, w ∈ TWx := by
  intro w hw
  obtain ⟨k, hk, rfl⟩ := List.mem_map.mp hw
  have hk := List.mem_range.mp hk
  match k, hk with
  | 0, _ => exact tw_t (tb_2 (List.mem_of_getElem? (i := 53) rfl)) rfl
  | 1, _ => exact tw_t (tb_2 (List.mem_of_getElem? (i := 55) rfl)) rfl
  | 2, _ => exact tw_t (tb_2 (List.mem_of_getElem? (i := 57) rfl)) rfl
  | 3, _ => exact tw_t (tb_2 (List.mem_of_getElem? (i := 59) rfl)) rfl
  | 4, _ => exact tw_t (tb_2 (List.mem_of_getElem? (i := 61) rfl)) rfl
  | 5, _ => exact tw_t (tb_2 (List.mem_of_getElem? (i := 63) rfl)) rfl
  | 6, _ => exact tw_t (tb_2 (List.mem_of_getElem? (i := 65) rfl)) rfl
  | 7, _ => exact tw_t (tb_2 (List.mem_of_getElem? (i := 67) rfl)) rfl
  | 8, _ => exact tw_t (tb_2 (List.mem_of_getElem? (i := 69) rfl)) rfl
  | k + 9, h => exact absurd h (by omega)
theorem uw_10 : ∀ w ∈ u_ws RX10 TX10 57, w ∈ TWx := by
  intro w hw
  obtain ⟨k, hk, rfl⟩ := List.mem_map.mp hw
  have hk := List.mem_range.mp hk
  match k, hk with
  | 0, _ => exact tw_t (tb_5 (List.mem_of_getElem? (i := 140) rfl)) rfl
  | 1, _ => exact tw_t (tb_5 (List.mem_of_getElem? (i := 142) rfl)) rfl
  | 2, _ => exact tw_t (tb_5 (List.mem_of_getElem? (i := 144) rfl)) rfl
  | 3, _ => exact tw_t (tb_5 (List.mem_of_getElem? (i := 146) rfl)) rfl
  | 4, _ => exact tw_t (tb_5 (List.mem_of_getElem? (i := 148) rfl)) rfl
  | 5, _ => exact tw_t (tb_5 (List.mem_of_getElem? (i := 150) rfl)) rfl
  | 6, _ => exact tw_t (tb_5 (List.mem_of_getElem? (i := 152) rfl)) rfl
  | 7, _ => exact tw_t (tb_5 (List.mem_of_getElem? (i := 154) rfl)) rfl
  | 8, _ => exact tw_t (tb_5 (List.mem_of_getElem? (i := 156) rfl)) rfl
  | 9, _ => exact tw_t (tb_5 (List.mem_of_getElem? (i := 158) rfl)) rfl
  | 10, _ => exact tw_t (tb_5 (List.mem_of_getElem? (i := 160) rfl)) rfl
  | 11, _ => exact tw_t (tb_5 (List.mem_of_getElem? (i := 162) rfl)) rfl
  | 12, _ => exact tw_t (tb_5 (List.mem_of_getElem? (i := 164) rfl)) rfl
  | 13, _ => exact tw_t (tb_5 (List.mem_of_getElem? (i := 166) rfl)) rfl
  | 14, _ => exact tw_t (tb_5 (List.mem_of_getElem? (i := 168) rfl)) rfl
  | 15, _ => exact tw_t (tb_5 (List.mem_of_getElem? (i := 170) rfl)) rfl
  | 16, _ => exact tw_t (tb_5 (List.mem_of_getElem? (i := 172) rfl)) rfl
  | 17, _ => exact tw_t (tb_5 (List.mem_of_getElem? (i := 174) rfl)) rfl
  | 18, _ => exact tw_t (tb_5 (List.mem_of_getElem? (i := 176) rfl)) rfl
  | 19, _ => exact tw_t (tb_5 (List.mem_of_getElem? (i := 178) rfl)) rfl
  | 20, _ => exact tw_t (tb_5 (List.mem_of_getElem? (i := 180) rfl)) rfl
  | 21, _ => exact tw_t (tb_5 (List.mem_of_getElem? (i := 182) rfl)) rfl
  | 22, _ => exact tw_t (tb_5 (List.mem_of_getElem? (i := 184) rfl)) rfl
  | 23, _ => exact tw_t (tb_5 (List.mem_of_getElem? (i := 186) rfl)) rfl
  | 24, _ => exact tw_t (tb_5 (List.mem_of_getElem? (i := 188) rfl)) rfl
  | 25, _ => exact tw_t (tb_5 (List.mem_of_getElem? (i := 190) rfl)) rfl
  | 26, _ => exact tw_t (tb_5 (List.mem_of_getElem? (i := 192) rfl)) rfl
  | 27, _ => exact tw_t (tb_5 (List.mem_of_getElem? (i := 194) rfl)) rfl
  | 28, _ => exact tw_t (tb_5 (List.mem_of_getElem? (i := 196) rfl)) rfl
  | 29, _ => exact tw_t (tb_5 (List.mem_of_getElem? (i := 198) rfl)) rfl
  | 30, _ => exact tw_t (tb_5 (List.mem_of_getElem? (i := 200) rfl)) rfl
  | 31, _ => exact tw_t (tb_5 (List.mem_of_getElem? (i := 202) rfl)) rfl
  | 32, _ => exact tw_t (tb_5 (List.mem_of_getElem? (i := 204) rfl)) rfl
  | 33, _ => exact tw_t (tb_5 (List.mem_of_getElem? (i := 206) rfl)) rfl
  | 34, _ => exact tw_t (tb_5 (List.mem_of_getElem? (i := 208) rfl)) rfl
  | 35, _ => exact tw_t (tb_5 (List.mem_of_getElem? (i := 210) rfl)) rfl
  | 36, _ => exact tw_t (tb_5 (List.mem_of_getElem? (i := 212) rfl)) rfl
  | 37, _ => exact tw_t (tb_5 (List.mem_of_getElem? (i := 214) rfl)) rfl
  | 38, _ => exact tw_t (tb_5 (List.mem_of_getElem? (i := 216) rfl)) rfl
  | 39, _ => exact tw_t (tb_5 (List.mem_of_getElem? (i := 218) rfl)) rfl
  | 40, _ => exact tw_t (tb_5 (List.mem_of_getElem? (i := 220) rfl)) rfl
  | 41, _ => exact tw_t (tb_5 (List.mem_of_getElem? (i := 222) rfl)) rfl
  | 42, _ => exact tw_t (tb_5 (List.mem_of_getElem? (i := 224) rfl)) rfl
  | 43, _ => exact tw_t (tb_5 (List.mem_of_getElem? (i := 226) rfl)) rfl
  | 44, _ => exact tw_t (tb_5 (List.mem_of_getElem? (i := 228) rfl)) rfl
  | 45, _ => exact tw_t (tb_5 (List.mem_of_getElem? (i := 230) rfl)) rfl
  | 46, _ => exact tw_t (tb_5 (List.mem_of_getElem? (i := 232) rfl)) rfl
  | 47, _ => exact tw_t (tb_5 (List.mem_of_getElem? (i := 234) rfl)) rfl
  | 48, _ => exact tw_t (tb_5 (List.mem_of_getElem? (i := 236) rfl)) rfl
  | 49, _ => exact tw_t (tb_5 (List.mem_of_getElem? (i := 238) rfl)) rfl
  | 50, _ => exact tw_t (tb_6 (List.mem_of_getElem? (i := 0) rfl)) rfl
  | 51, _ => exact tw_t (tb_6 (List.mem_of_getElem? (i := 2) rfl)) rfl
  | 52, _ => exact tw_t (tb_6 (List.mem_of_getElem? (i := 4) rfl)) rfl
  | 53, _ => exact tw_t (tb_6 (List.mem_of_getElem? (i := 6) rfl)) rfl
  | 54, _ => exact tw_t (tb_6 (List.mem_of_getElem? (i := 8) rfl)) rfl
  | 55, _ => exact tw_t (tb_6 (List.mem_of_getElem? (i := 10) rfl)) rfl
  | 56, _ => exact tw_t (tb_6 (List.mem_of_getElem? (i := 12) rfl)) rfl
  | k + 57, h => exact absurd h (by omega)
theorem fl_X9_18 : FLx RX9 18 9 0 (tyX9 0) true := ⟨RX9, TX9, 9, tyX9, rfl, by decide, uw_9, tyX9_ok, nmX9, tw_t (tb_2 (List.mem_of_getElem? (i := 44) rfl)) rfl, rfl, rfl⟩
theorem fl_X9_24 : FLx RX9 24 9 1 (tyX9 1) true := ⟨RX9, TX9, 9, tyX9, rfl, by decide, uw_9, tyX9_ok, nmX9, tw_t (tb_2 (List.mem_of_getElem? (i := 45) rfl)) rfl, rfl, rfl⟩
theorem fl_X9_28 : FLx RX9 28 9 2 (tyX9 2) true := ⟨RX9, TX9, 9, tyX9, rfl, by decide, uw_9, tyX9_ok, nmX9, tw_t (tb_2 (List.mem_of_getElem? (i := 46) rfl)) rfl, rfl, rfl⟩
theorem fl_X9_37 : FLx RX9 37 9 3 (tyX9 3) true := ⟨RX9, TX9, 9, tyX9, rfl, by decide, uw_9, tyX9_ok, nmX9, tw_t (tb_2 (List.mem_of_getElem? (i := 47) rfl)) rfl, rfl, rfl⟩
theorem fl_X9_44 : FLx RX9 44 9 4 (tyX9 4) true := ⟨RX9, TX9, 9, tyX9, rfl, by decide, uw_9, tyX9_ok, nmX9, tw_t (tb_2 (List.mem_of_getElem? (i := 48) rfl)) rfl, rfl, rfl⟩
theorem fl_X9_51 : FLx RX9 51 9 5 (tyX9 5) true := ⟨RX9, TX9, 9, tyX9, rfl, by decide, uw_9, tyX9_ok, nmX9, tw_t (tb_2 (List.mem_of_getElem? (i := 49) rfl)) rfl, rfl, rfl⟩
theorem fl_X9_58 : FLx RX9 58 9 6 (tyX9 6) true := ⟨RX9, TX9, 9, tyX9, rfl, by decide, uw_9, tyX9_ok, nmX9, tw_t (tb_2 (List.mem_of_getElem? (i := 50) rfl)) rfl, rfl, rfl⟩
theorem fl_X9_65 : FLx RX9 65 9 7 (tyX9 7) true := ⟨RX9, TX9, 9, tyX9, rfl, by decide, uw_9, tyX9_ok, nmX9, tw_t (tb_2 (List.mem_of_getElem? (i := 51) rfl)) rfl, rfl, rfl⟩
theorem fl_X9_72 : FLx RX9 72 9 8 (tyX9 8) true := ⟨RX9, TX9, 9, tyX9, rfl, by decide, uw_9, tyX9_ok, nmX9, tw_t (tb_2 (List.mem_of_getElem? (i := 52) rfl)) rfl, rfl, rfl⟩
theorem fl_X9_80 : FLx RX9 80 8 0 .int false := ⟨RX8, TX8, 7, tyX8, rfl, by decide, uw_8, tyX8_ok, nmX8, tw_t (tb_1 (List.mem_of_getElem? (i := 35) rfl)) rfl, rfl, rfl⟩
theorem fl_X9_88 : FLx RX9 88 6 3 (tyX6 3) true := ⟨RX6, TX6, 4, tyX6, rfl, by decide, uw_6, tyX6_ok, nmX6, tw_t (tb_2 (List.mem_of_getElem? (i := 32) rfl)) rfl, rfl, rfl⟩
theorem fl_X9_103 : FLx RX9 103 8 3 (tyX8 3) true := ⟨RX8, TX8, 7, tyX8, rfl, by decide, uw_8, tyX8_ok, nmX8, tw_t (tb_1 (List.mem_of_getElem? (i := 43) rfl)) rfl, rfl, rfl⟩
theorem fl_X9_138 : FLx RX9 138 8 4 (tyX8 4) true := ⟨RX8, TX8, 7, tyX8, rfl, by decide, uw_8, tyX8_ok, nmX8, tw_t (tb_1 (List.mem_of_getElem? (i := 46) rfl)) rfl, rfl, rfl⟩
theorem fl_X9_144 : FLx RX9 144 8 5 (tyX8 5) true := ⟨RX8, TX8, 7, tyX8, rfl, by decide, uw_8, tyX8_ok, nmX8, tw_t (tb_1 (List.mem_of_getElem? (i := 49) rfl)) rfl, rfl, rfl⟩
theorem fl_X9_151 : FLx RX9 151 4 0 .int false := ⟨RX4, TX4, 9, tyX4, rfl, by decide, uw_4, tyX4_ok, nmX4, tw_t (tb_1 (List.mem_of_getElem? (i := 77) rfl)) rfl, rfl, rfl⟩
theorem fl_X9_160 : FLx RX9 160 2 10 .int false := ⟨RX2, TX2, 12, tyX2, rfl, by decide, uw_2, tyX2_ok, nmX2, tw_t (tb_1 (List.mem_of_getElem? (i := 128) rfl)) rfl, rfl, rfl⟩
theorem fl_X9_218 : FLx RX9 218 5 3 .int false := ⟨RX5, TX5, 6, tyX5, rfl, by decide, uw_5, tyX5_ok, nmX5, tw_t (tb_1 (List.mem_of_getElem? (i := 165) rfl)) rfl, rfl, rfl⟩
theorem fl_X9_272 : FLx RX9 272 1 1 .int false := ⟨RX1, TX1, 3, tyX1, rfl, by decide, uw_1, tyX1_ok, nmX1, tw_t (tb_1 (List.mem_of_getElem? (i := 222) rfl)) rfl, rfl, rfl⟩
theorem fl_X9_324 : FLx RX9 324 6 0 .int false := ⟨RX6, TX6, 4, tyX6, rfl, by decide, uw_6, tyX6_ok, nmX6, tw_t (tb_2 (List.mem_of_getElem? (i := 26) rfl)) rfl, rfl, rfl⟩
theorem fl_X9_333 : FLx RX9 333 6 2 .int false := ⟨RX6, TX6, 4, tyX6, rfl, by decide, uw_6, tyX6_ok, nmX6, tw_t (tb_2 (List.mem_of_getElem? (i := 30) rfl)) rfl, rfl, rfl⟩
theorem fl_X9_342 : FLx RX9 342 0 0 .int false := ⟨RX0, TX0, 6, tyX0, rfl, by decide, uw_0, tyX0_ok, nmX0, tw_t (tb_1 (List.mem_of_getElem? (i := 238) rfl)) rfl, rfl, rfl⟩
theorem fl_X9_345 : FLx RX9 345 0 2 .int false := ⟨RX0, TX0, 6, tyX0, rfl, by decide, uw_0, tyX0_ok, nmX0, tw_t (tb_2 (List.mem_of_getElem? (i := 1) rfl)) rfl, rfl, rfl⟩
theorem fl_X0_11 : FLx RX0 11 0 1 (tyX0 1) true := ⟨RX0, TX0, 6, tyX0, rfl, by decide, uw_0, tyX0_ok, nmX0, tw_t (tb_1 (List.mem_of_getElem? (i := 239) rfl)) rfl, rfl, rfl⟩
theorem fl_X0_15 : FLx RX0 15 0 3 (tyX0 3) true := ⟨RX0, TX0, 6, tyX0, rfl, by decide, uw_0, tyX0_ok, nmX0, tw_t (tb_2 (List.mem_of_getElem? (i := 2) rfl)) rfl, rfl, rfl⟩
theorem fl_X0_18 : FLx RX0 18 0 0 .int false := ⟨RX0, TX0, 6, tyX0, rfl, by decide, uw_0, tyX0_ok, nmX0, tw_t (tb_1 (List.mem_of_getElem? (i := 237) rfl)) rfl, rfl, rfl⟩
theorem fl_X0_29 : FLx RX0 29 0 2 .int false := ⟨RX0, TX0, 6, tyX0, rfl, by decide, uw_0, tyX0_ok, nmX0, tw_t (tb_2 (List.mem_of_getElem? (i := 0) rfl)) rfl, rfl, rfl⟩
theorem fl_X0_36 : FLx RX0 36 0 4 .int false := ⟨RX0, TX0, 6, tyX0, rfl, by decide, uw_0, tyX0_ok, nmX0, tw_t (tb_2 (List.mem_of_getElem? (i := 3) rfl)) rfl, rfl, rfl⟩
theorem fl_X0_39 : FLx RX0 39 0 5 .int false := ⟨RX0, TX0, 6, tyX0, rfl, by decide, uw_0, tyX0_ok, nmX0, tw_t (tb_2 (List.mem_of_getElem? (i := 4) rfl)) rfl, rfl, rfl⟩
theorem fl_X1_11 : FLx RX1 11 1 0 (tyX1 0) true := ⟨RX1, TX1, 3, tyX1, rfl, by decide, uw_1, tyX1_ok, nmX1, tw_t (tb_1 (List.mem_of_getElem? (i := 220) rfl)) rfl, rfl, rfl⟩
theorem fl_X1_14 : FLx RX1 14 1 1 .int false := ⟨RX1, TX1, 3, tyX1, rfl, by decide, uw_1, tyX1_ok, nmX1, tw_t (tb_1 (List.mem_of_getElem? (i := 221) rfl)) rfl, rfl, rfl⟩
theorem fl_X1_21 : FLx RX1 21 1 2 .int false := ⟨RX1, TX1, 3, tyX1, rfl, by decide, uw_1, tyX1_ok, nmX1, tw_t (tb_1 (List.mem_of_getElem? (i := 223) rfl)) rfl, rfl, rfl⟩
theorem fl_X2_9 : FLx RX2 9 2 2 .boolean false := ⟨RX2, TX2, 12, tyX2, rfl, by decide, uw_2, tyX2_ok, nmX2, tw_t (tb_1 (List.mem_of_getElem? (i := 113) rfl)) rfl, rfl, rfl⟩
theorem fl_X2_15 : FLx RX2 15 2 3 (tyX2 3) true := ⟨RX2, TX2, 12, tyX2, rfl, by decide, uw_2, tyX2_ok, nmX2, tw_t (tb_1 (List.mem_of_getElem? (i := 114) rfl)) rfl, rfl, rfl⟩
theorem fl_X2_19 : FLx RX2 19 2 4 (tyX2 4) true := ⟨RX2, TX2, 12, tyX2, rfl, by decide, uw_2, tyX2_ok, nmX2, tw_t (tb_1 (List.mem_of_getElem? (i := 116) rfl)) rfl, rfl, rfl⟩
theorem fl_X2_22 : FLx RX2 22 2 6 (tyX2 6) true := ⟨RX2, TX2, 12, tyX2, rfl, by decide, uw_2, tyX2_ok, nmX2, tw_t (tb_1 (List.mem_of_getElem? (i := 120) rfl)) rfl, rfl, rfl⟩
theorem fl_X2_25 : FLx RX2 25 2 7 (tyX2 7) true := ⟨RX2, TX2, 12, tyX2, rfl, by decide, uw_2, tyX2_ok, nmX2, tw_t (tb_1 (List.mem_of_getElem? (i := 121) rfl)) rfl, rfl, rfl⟩
theorem fl_X2_28 : FLx RX2 28 2 8 (tyX2 8) true := ⟨RX2, TX2, 12, tyX2, rfl, by decide, uw_2, tyX2_ok, nmX2, tw_t (tb_1 (List.mem_of_getElem? (i := 122) rfl)) rfl, rfl, rfl⟩
theorem fl_X2_31 : FLx RX2 31 2 9 (tyX2 9) true := ⟨RX2, TX2, 12, tyX2, rfl, by decide, uw_2, tyX2_ok, nmX2, tw_t (tb_1 (List.mem_of_getElem? (i := 123) rfl)) rfl, rfl, rfl⟩
theorem fl_X2_34 : FLx RX2 34 2 11 (tyX2 11) true := ⟨RX2, TX2, 12, tyX2, rfl, by decide, uw_2, tyX2_ok, nmX2, tw_t (tb_1 (List.mem_of_getElem? (i := 129) rfl)) rfl, rfl, rfl⟩
theorem fl_X2_37 : FLx RX2 37 2 0 (tyX2 0) true := ⟨RX2, TX2, 12, tyX2, rfl, by decide, uw_2, tyX2_ok, nmX2, tw_t (tb_1 (List.mem_of_getElem? (i := 111) rfl)) rfl, rfl, rfl⟩
theorem fl_X2_41 : FLx RX2 41 2 1 (tyX2 1) true := ⟨RX2, TX2, 12, tyX2, rfl, by decide, uw_2, tyX2_ok, nmX2, tw_t (tb_1 (List.mem_of_getElem? (i := 112) rfl)) rfl, rfl, rfl⟩
theorem fl_X2_58 : FLx RX2 58 2 5 .int false := ⟨RX2, TX2, 12, tyX2, rfl, by decide, uw_2, tyX2_ok, nmX2, tw_t (tb_1 (List.mem_of_getElem? (i := 118) rfl)) rfl, rfl, rfl⟩
theorem fl_X2_62 : FLx RX2 62 8 0 .int false := ⟨RX8, TX8, 7, tyX8, rfl, by decide, uw_8, tyX8_ok, nmX8, tw_t (tb_1 (List.mem_of_getElem? (i := 36) rfl)) rfl, rfl, rfl⟩
theorem fl_X2_71 : FLx RX2 71 8 3 (tyX8 3) true := ⟨RX8, TX8, 7, tyX8, rfl, by decide, uw_8, tyX8_ok, nmX8, tw_t (tb_1 (List.mem_of_getElem? (i := 44) rfl)) rfl, rfl, rfl⟩
theorem fl_X2_97 : FLx RX2 97 8 5 (tyX8 5) true := ⟨RX8, TX8, 7, tyX8, rfl, by decide, uw_8, tyX8_ok, nmX8, tw_t (tb_1 (List.mem_of_getElem? (i := 51) rfl)) rfl, rfl, rfl⟩
theorem fl_X2_101 : FLx RX2 101 2 10 .int false := ⟨RX2, TX2, 12, tyX2, rfl, by decide, uw_2, tyX2_ok, nmX2, tw_t (tb_1 (List.mem_of_getElem? (i := 127) rfl)) rfl, rfl, rfl⟩
theorem fl_X3_11 : FLx RX3 11 3 0 (tyX3 0) true := ⟨RX3, TX3, 3, tyX3, rfl, by decide, uw_3, tyX3_ok, nmX3, tw_t (tb_1 (List.mem_of_getElem? (i := 203) rfl)) rfl, rfl, rfl⟩
theorem fl_X3_15 : FLx RX3 15 3 1 (tyX3 1) true := ⟨RX3, TX3, 3, tyX3, rfl, by decide, uw_3, tyX3_ok, nmX3, tw_t (tb_1 (List.mem_of_getElem? (i := 204) rfl)) rfl, rfl, rfl⟩
theorem fl_X3_24 : FLx RX3 24 3 2 .boolean false := ⟨RX3, TX3, 3, tyX3, rfl, by decide, uw_3, tyX3_ok, nmX3, tw_t (tb_1 (List.mem_of_getElem? (i := 205) rfl)) rfl, rfl, rfl⟩
theorem fl_X4_9 : FLx RX4 9 4 1 (tyX4 1) true := ⟨RX4, TX4, 9, tyX4, rfl, by decide, uw_4, tyX4_ok, nmX4, tw_t (tb_1 (List.mem_of_getElem? (i := 78) rfl)) rfl, rfl, rfl⟩
theorem fl_X4_13 : FLx RX4 13 4 3 (tyX4 3) true := ⟨RX4, TX4, 9, tyX4, rfl, by decide, uw_4, tyX4_ok, nmX4, tw_t (tb_1 (List.mem_of_getElem? (i := 80) rfl)) rfl, rfl, rfl⟩
theorem fl_X4_16 : FLx RX4 16 4 5 (tyX4 5) true := ⟨RX4, TX4, 9, tyX4, rfl, by decide, uw_4, tyX4_ok, nmX4, tw_t (tb_1 (List.mem_of_getElem? (i := 82) rfl)) rfl, rfl, rfl⟩
theorem fl_X4_19 : FLx RX4 19 4 7 (tyX4 7) true := ⟨RX4, TX4, 9, tyX4, rfl, by decide, uw_4, tyX4_ok, nmX4, tw_t (tb_1 (List.mem_of_getElem? (i := 84) rfl)) rfl, rfl, rfl⟩
theorem fl_X4_22 : FLx RX4 22 4 6 .int false := ⟨RX4, TX4, 9, tyX4, rfl, by decide, uw_4, tyX4_ok, nmX4, tw_t (tb_1 (List.mem_of_getElem? (i := 83) rfl)) rfl, rfl, rfl⟩
theorem fl_X4_26 : FLx RX4 26 4 0 .int false := ⟨RX4, TX4, 9, tyX4, rfl, by decide, uw_4, tyX4_ok, nmX4, tw_t (tb_1 (List.mem_of_getElem? (i := 76) rfl)) rfl, rfl, rfl⟩
theorem fl_X4_29 : FLx RX4 29 4 2 .int false := ⟨RX4, TX4, 9, tyX4, rfl, by decide, uw_4, tyX4_ok, nmX4, tw_t (tb_1 (List.mem_of_getElem? (i := 79) rfl)) rfl, rfl, rfl⟩
theorem fl_X4_32 : FLx RX4 32 4 4 .int false := ⟨RX4, TX4, 9, tyX4, rfl, by decide, uw_4, tyX4_ok, nmX4, tw_t (tb_1 (List.mem_of_getElem? (i := 81) rfl)) rfl, rfl, rfl⟩
theorem fl_X4_88 : FLx RX4 88 4 8 .int false := ⟨RX4, TX4, 9, tyX4, rfl, by decide, uw_4, tyX4_ok, nmX4, tw_t (tb_1 (List.mem_of_getElem? (i := 85) rfl)) rfl, rfl, rfl⟩
theorem fl_X5_9 : FLx RX5 9 5 2 (tyX5 2) true := ⟨RX5, TX5, 6, tyX5, rfl, by decide, uw_5, tyX5_ok, nmX5, tw_t (tb_1 (List.mem_of_getElem? (i := 163) rfl)) rfl, rfl, rfl⟩
theorem fl_X5_15 : FLx RX5 15 5 4 (tyX5 4) true := ⟨RX5, TX5, 6, tyX5, rfl, by decide, uw_5, tyX5_ok, nmX5, tw_t (tb_1 (List.mem_of_getElem? (i := 166) rfl)) rfl, rfl, rfl⟩
theorem fl_X5_18 : FLx RX5 18 5 5 (tyX5 5) true := ⟨RX5, TX5, 6, tyX5, rfl, by decide, uw_5, tyX5_ok, nmX5, tw_t (tb_1 (List.mem_of_getElem? (i := 167) rfl)) rfl, rfl, rfl⟩
theorem fl_X5_21 : FLx RX5 21 5 0 (tyX5 0) true := ⟨RX5, TX5, 6, tyX5, rfl, by decide, uw_5, tyX5_ok, nmX5, tw_t (tb_1 (List.mem_of_getElem? (i := 161) rfl)) rfl, rfl, rfl⟩
theorem fl_X5_25 : FLx RX5 25 5 1 (tyX5 1) true := ⟨RX5, TX5, 6, tyX5, rfl, by decide, uw_5, tyX5_ok, nmX5, tw_t (tb_1 (List.mem_of_getElem? (i := 162) rfl)) rfl, rfl, rfl⟩
theorem fl_X5_29 : FLx RX5 29 2 10 .int false := ⟨RX2, TX2, 12, tyX2, rfl, by decide, uw_2, tyX2_ok, nmX2, tw_t (tb_1 (List.mem_of_getElem? (i := 125) rfl)) rfl, rfl, rfl⟩
theorem fl_X5_57 : FLx RX5 57 5 3 .int false := ⟨RX5, TX5, 6, tyX5, rfl, by decide, uw_5, tyX5_ok, nmX5, tw_t (tb_1 (List.mem_of_getElem? (i := 164) rfl)) rfl, rfl, rfl⟩
theorem fl_X5_60 : FLx RX5 60 2 9 (tyX2 9) true := ⟨RX2, TX2, 12, tyX2, rfl, by decide, uw_2, tyX2_ok, nmX2, tw_t (tb_1 (List.mem_of_getElem? (i := 124) rfl)) rfl, rfl, rfl⟩
theorem fl_X5_69 : FLx RX5 69 6 1 .int false := ⟨RX6, TX6, 4, tyX6, rfl, by decide, uw_6, tyX6_ok, nmX6, tw_t (tb_2 (List.mem_of_getElem? (i := 28) rfl)) rfl, rfl, rfl⟩
theorem fl_X5_72 : FLx RX5 72 6 3 (tyX6 3) true := ⟨RX6, TX6, 4, tyX6, rfl, by decide, uw_6, tyX6_ok, nmX6, tw_t (tb_2 (List.mem_of_getElem? (i := 33) rfl)) rfl, rfl, rfl⟩
theorem fl_X5_83 : FLx RX5 83 2 4 (tyX2 4) true := ⟨RX2, TX2, 12, tyX2, rfl, by decide, uw_2, tyX2_ok, nmX2, tw_t (tb_1 (List.mem_of_getElem? (i := 117) rfl)) rfl, rfl, rfl⟩
theorem fl_X5_89 : FLx RX5 89 2 3 (tyX2 3) true := ⟨RX2, TX2, 12, tyX2, rfl, by decide, uw_2, tyX2_ok, nmX2, tw_t (tb_1 (List.mem_of_getElem? (i := 115) rfl)) rfl, rfl, rfl⟩
theorem fl_X5_98 : FLx RX5 98 8 0 .int false := ⟨RX8, TX8, 7, tyX8, rfl, by decide, uw_8, tyX8_ok, nmX8, tw_t (tb_1 (List.mem_of_getElem? (i := 38) rfl)) rfl, rfl, rfl⟩
theorem fl_X5_111 : FLx RX5 111 8 4 (tyX8 4) true := ⟨RX8, TX8, 7, tyX8, rfl, by decide, uw_8, tyX8_ok, nmX8, tw_t (tb_1 (List.mem_of_getElem? (i := 47) rfl)) rfl, rfl, rfl⟩
theorem fl_X5_114 : FLx RX5 114 8 6 (tyX8 6) true := ⟨RX8, TX8, 7, tyX8, rfl, by decide, uw_8, tyX8_ok, nmX8, tw_t (tb_1 (List.mem_of_getElem? (i := 53) rfl)) rfl, rfl, rfl⟩
theorem fl_X5_126 : FLx RX5 126 8 5 (tyX8 5) true := ⟨RX8, TX8, 7, tyX8, rfl, by decide, uw_8, tyX8_ok, nmX8, tw_t (tb_1 (List.mem_of_getElem? (i := 50) rfl)) rfl, rfl, rfl⟩
theorem fl_X5_129 : FLx RX5 129 2 5 .int false := ⟨RX2, TX2, 12, tyX2, rfl, by decide, uw_2, tyX2_ok, nmX2, tw_t (tb_1 (List.mem_of_getElem? (i := 119) rfl)) rfl, rfl, rfl⟩
theorem fl_X6_11 : FLx RX6 11 6 0 .int false := ⟨RX6, TX6, 4, tyX6, rfl, by decide, uw_6, tyX6_ok, nmX6, tw_t (tb_2 (List.mem_of_getElem? (i := 25) rfl)) rfl, rfl, rfl⟩
theorem fl_X6_15 : FLx RX6 15 6 3 (tyX6 3) true := ⟨RX6, TX6, 4, tyX6, rfl, by decide, uw_6, tyX6_ok, nmX6, tw_t (tb_2 (List.mem_of_getElem? (i := 31) rfl)) rfl, rfl, rfl⟩
theorem fl_X6_19 : FLx RX6 19 6 1 .int false := ⟨RX6, TX6, 4, tyX6, rfl, by decide, uw_6, tyX6_ok, nmX6, tw_t (tb_2 (List.mem_of_getElem? (i := 27) rfl)) rfl, rfl, rfl⟩
theorem fl_X6_22 : FLx RX6 22 6 2 .int false := ⟨RX6, TX6, 4, tyX6, rfl, by decide, uw_6, tyX6_ok, nmX6, tw_t (tb_2 (List.mem_of_getElem? (i := 29) rfl)) rfl, rfl, rfl⟩
theorem fl_X7_9 : FLx RX7 9 7 2 (tyX7 2) true := ⟨RX7, TX7, 3, tyX7, rfl, by decide, uw_7, tyX7_ok, nmX7, tw_t (tb_1 (List.mem_of_getElem? (i := 189) rfl)) rfl, rfl, rfl⟩
theorem fl_X7_15 : FLx RX7 15 7 0 (tyX7 0) true := ⟨RX7, TX7, 3, tyX7, rfl, by decide, uw_7, tyX7_ok, nmX7, tw_t (tb_1 (List.mem_of_getElem? (i := 187) rfl)) rfl, rfl, rfl⟩
theorem fl_X7_19 : FLx RX7 19 7 1 (tyX7 1) true := ⟨RX7, TX7, 3, tyX7, rfl, by decide, uw_7, tyX7_ok, nmX7, tw_t (tb_1 (List.mem_of_getElem? (i := 188) rfl)) rfl, rfl, rfl⟩
theorem fl_X7_49 : FLx RX7 49 2 10 .int false := ⟨RX2, TX2, 12, tyX2, rfl, by decide, uw_2, tyX2_ok, nmX2, tw_t (tb_1 (List.mem_of_getElem? (i := 126) rfl)) rfl, rfl, rfl⟩
theorem fl_X7_81 : FLx RX7 81 8 0 .int false := ⟨RX8, TX8, 7, tyX8, rfl, by decide, uw_8, tyX8_ok, nmX8, tw_t (tb_1 (List.mem_of_getElem? (i := 37) rfl)) rfl, rfl, rfl⟩
theorem fl_X8_11 : FLx RX8 11 8 1 (tyX8 1) true := ⟨RX8, TX8, 7, tyX8, rfl, by decide, uw_8, tyX8_ok, nmX8, tw_t (tb_1 (List.mem_of_getElem? (i := 40) rfl)) rfl, rfl, rfl⟩
theorem fl_X8_16 : FLx RX8 16 8 2 (tyX8 2) true := ⟨RX8, TX8, 7, tyX8, rfl, by decide, uw_8, tyX8_ok, nmX8, tw_t (tb_1 (List.mem_of_getElem? (i := 41) rfl)) rfl, rfl, rfl⟩
theorem fl_X8_19 : FLx RX8 19 8 3 (tyX8 3) true := ⟨RX8, TX8, 7, tyX8, rfl, by decide, uw_8, tyX8_ok, nmX8, tw_t (tb_1 (List.mem_of_getElem? (i := 42) rfl)) rfl, rfl, rfl⟩
theorem fl_X8_23 : FLx RX8 23 8 4 (tyX8 4) true := ⟨RX8, TX8, 7, tyX8, rfl, by decide, uw_8, tyX8_ok, nmX8, tw_t (tb_1 (List.mem_of_getElem? (i := 45) rfl)) rfl, rfl, rfl⟩
theorem fl_X8_26 : FLx RX8 26 8 5 (tyX8 5) true := ⟨RX8, TX8, 7, tyX8, rfl, by decide, uw_8, tyX8_ok, nmX8, tw_t (tb_1 (List.mem_of_getElem? (i := 48) rfl)) rfl, rfl, rfl⟩
theorem fl_X8_29 : FLx RX8 29 8 6 (tyX8 6) true := ⟨RX8, TX8, 7, tyX8, rfl, by decide, uw_8, tyX8_ok, nmX8, tw_t (tb_1 (List.mem_of_getElem? (i := 52) rfl)) rfl, rfl, rfl⟩
theorem fl_X8_51 : FLx RX8 51 8 0 .int false := ⟨RX8, TX8, 7, tyX8, rfl, by decide, uw_8, tyX8_ok, nmX8, tw_t (tb_1 (List.mem_of_getElem? (i := 39) rfl)) rfl, rfl, rfl⟩
theorem fl_X10_7 : FLx RX10 7 10 2 (tyX10 2) true := ⟨RX10, TX10, 57, tyX10, rfl, by decide, uw_10, tyX10_ok, nmX10, tw_t (tb_5 (List.mem_of_getElem? (i := 85) rfl)) rfl, rfl, rfl⟩
theorem fl_X10_13 : FLx RX10 13 10 3 (tyX10 3) true := ⟨RX10, TX10, 57, tyX10, rfl, by decide, uw_10, tyX10_ok, nmX10, tw_t (tb_5 (List.mem_of_getElem? (i := 86) rfl)) rfl, rfl, rfl⟩
theorem fl_X10_16 : FLx RX10 16 10 4 (tyX10 4) true := ⟨RX10, TX10, 57, tyX10, rfl, by decide, uw_10, tyX10_ok, nmX10, tw_t (tb_5 (List.mem_of_getElem? (i := 87) rfl)) rfl, rfl, rfl⟩
theorem fl_X10_19 : FLx RX10 19 10 5 (tyX10 5) true := ⟨RX10, TX10, 57, tyX10, rfl, by decide, uw_10, tyX10_ok, nmX10, tw_t (tb_5 (List.mem_of_getElem? (i := 88) rfl)) rfl, rfl, rfl⟩
theorem fl_X10_22 : FLx RX10 22 10 6 (tyX10 6) true := ⟨RX10, TX10, 57, tyX10, rfl, by decide, uw_10, tyX10_ok, nmX10, tw_t (tb_5 (List.mem_of_getElem? (i := 89) rfl)) rfl, rfl, rfl⟩
theorem fl_X10_25 : FLx RX10 25 10 7 (tyX10 7) true := ⟨RX10, TX10, 57, tyX10, rfl, by decide, uw_10, tyX10_ok, nmX10, tw_t (tb_5 (List.mem_of_getElem? (i := 90) rfl)) rfl, rfl, rfl⟩
theorem fl_X10_28 : FLx RX10 28 10 8 (tyX10 8) true := ⟨RX10, TX10, 57, tyX10, rfl, by decide, uw_10, tyX10_ok, nmX10, tw_t (tb_5 (List.mem_of_getElem? (i := 91) rfl)) rfl, rfl, rfl⟩
theorem fl_X10_31 : FLx RX10 31 10 11 (tyX10 11) true := ⟨RX10, TX10, 57, tyX10, rfl, by decide, uw_10, tyX10_ok, nmX10, tw_t (tb_5 (List.mem_of_getElem? (i := 94) rfl)) rfl, rfl, rfl⟩
theorem fl_X10_34 : FLx RX10 34 10 12 (tyX10 12) true := ⟨RX10, TX10, 57, tyX10, rfl, by decide, uw_10, tyX10_ok, nmX10, tw_t (tb_5 (List.mem_of_getElem? (i := 95) rfl)) rfl, rfl, rfl⟩
theorem fl_X10_37 : FLx RX10 37 10 13 (tyX10 13) true := ⟨RX10, TX10, 57, tyX10, rfl, by decide, uw_10, tyX10_ok, nmX10, tw_t (tb_5 (List.mem_of_getElem? (i := 96) rfl)) rfl, rfl, rfl⟩
theorem fl_X10_40 : FLx RX10 40 10 14 (tyX10 14) true := ⟨RX10, TX10, 57, tyX10, rfl, by decide, uw_10, tyX10_ok, nmX10, tw_t (tb_5 (List.mem_of_getElem? (i := 97) rfl)) rfl, rfl, rfl⟩
theorem fl_X10_43 : FLx RX10 43 10 15 (tyX10 15) true := ⟨RX10, TX10, 57, tyX10, rfl, by decide, uw_10, tyX10_ok, nmX10, tw_t (tb_5 (List.mem_of_getElem? (i := 98) rfl)) rfl, rfl, rfl⟩
theorem fl_X10_47 : FLx RX10 47 10 21 (tyX10 21) true := ⟨RX10, TX10, 57, tyX10, rfl, by decide, uw_10, tyX10_ok, nmX10, tw_t (tb_5 (List.mem_of_getElem? (i := 104) rfl)) rfl, rfl, rfl⟩
theorem fl_X10_50 : FLx RX10 50 10 22 (tyX10 22) true := ⟨RX10, TX10, 57, tyX10, rfl, by decide, uw_10, tyX10_ok, nmX10, tw_t (tb_5 (List.mem_of_getElem? (i := 105) rfl)) rfl, rfl, rfl⟩
theorem fl_X10_53 : FLx RX10 53 10 23 (tyX10 23) true := ⟨RX10, TX10, 57, tyX10, rfl, by decide, uw_10, tyX10_ok, nmX10, tw_t (tb_5 (List.mem_of_getElem? (i := 106) rfl)) rfl, rfl, rfl⟩
theorem fl_X10_56 : FLx RX10 56 10 24 (tyX10 24) true := ⟨RX10, TX10, 57, tyX10, rfl, by decide, uw_10, tyX10_ok, nmX10, tw_t (tb_5 (List.mem_of_getElem? (i := 107) rfl)) rfl, rfl, rfl⟩
theorem fl_X10_60 : FLx RX10 60 10 25 (tyX10 25) true := ⟨RX10, TX10, 57, tyX10, rfl, by decide, uw_10, tyX10_ok, nmX10, tw_t (tb_5 (List.mem_of_getElem? (i := 108) rfl)) rfl, rfl, rfl⟩
theorem fl_X10_63 : FLx RX10 63 10 26 (tyX10 26) true := ⟨RX10, TX10, 57, tyX10, rfl, by decide, uw_10, tyX10_ok, nmX10, tw_t (tb_5 (List.mem_of_getElem? (i := 109) rfl)) rfl, rfl, rfl⟩
theorem fl_X10_66 : FLx RX10 66 10 27 (tyX10 27) true := ⟨RX10, TX10, 57, tyX10, rfl, by decide, uw_10, tyX10_ok, nmX10, tw_t (tb_5 (List.mem_of_getElem? (i := 110) rfl)) rfl, rfl, rfl⟩
theorem fl_X10_69 : FLx RX10 69 10 29 (tyX10 29) true := ⟨RX10, TX10, 57, tyX10, rfl, by decide, uw_10, tyX10_ok, nmX10, tw_t (tb_5 (List.mem_of_getElem? (i := 112) rfl)) rfl, rfl, rfl⟩
theorem fl_X10_72 : FLx RX10 72 10 30 (tyX10 30) true := ⟨RX10, TX10, 57, tyX10, rfl, by decide, uw_10, tyX10_ok, nmX10, tw_t (tb_5 (List.mem_of_getElem? (i := 113) rfl)) rfl, rfl, rfl⟩
theorem fl_X10_75 : FLx RX10 75 10 31 (tyX10 31) true := ⟨RX10, TX10, 57, tyX10, rfl, by decide, uw_10, tyX10_ok, nmX10, tw_t (tb_5 (List.mem_of_getElem? (i := 114) rfl)) rfl, rfl, rfl⟩
theorem fl_X10_78 : FLx RX10 78 10 32 .int false := ⟨RX10, TX10, 57, tyX10, rfl, by decide, uw_10, tyX10_ok, nmX10, tw_t (tb_5 (List.mem_of_getElem? (i := 115) rfl)) rfl, rfl, rfl⟩
theorem fl_X10_82 : FLx RX10 82 10 34 .int false := ⟨RX10, TX10, 57, tyX10, rfl, by decide, uw_10, tyX10_ok, nmX10, tw_t (tb_5 (List.mem_of_getElem? (i := 117) rfl)) rfl, rfl, rfl⟩
theorem fl_X10_85 : FLx RX10 85 10 37 (tyX10 37) true := ⟨RX10, TX10, 57, tyX10, rfl, by decide, uw_10, tyX10_ok, nmX10, tw_t (tb_5 (List.mem_of_getElem? (i := 120) rfl)) rfl, rfl, rfl⟩
theorem fl_X10_88 : FLx RX10 88 10 41 (tyX10 41) true := ⟨RX10, TX10, 57, tyX10, rfl, by decide, uw_10, tyX10_ok, nmX10, tw_t (tb_5 (List.mem_of_getElem? (i := 124) rfl)) rfl, rfl, rfl⟩
theorem fl_X10_91 : FLx RX10 91 10 42 (tyX10 42) true := ⟨RX10, TX10, 57, tyX10, rfl, by decide, uw_10, tyX10_ok, nmX10, tw_t (tb_5 (List.mem_of_getElem? (i := 125) rfl)) rfl, rfl, rfl⟩
theorem fl_X10_94 : FLx RX10 94 10 44 (tyX10 44) true := ⟨RX10, TX10, 57, tyX10, rfl, by decide, uw_10, tyX10_ok, nmX10, tw_t (tb_5 (List.mem_of_getElem? (i := 127) rfl)) rfl, rfl, rfl⟩
theorem fl_X10_97 : FLx RX10 97 10 45 (tyX10 45) true := ⟨RX10, TX10, 57, tyX10, rfl, by decide, uw_10, tyX10_ok, nmX10, tw_t (tb_5 (List.mem_of_getElem? (i := 128) rfl)) rfl, rfl, rfl⟩
theorem fl_X10_100 : FLx RX10 100 10 46 (tyX10 46) true := ⟨RX10, TX10, 57, tyX10, rfl, by decide, uw_10, tyX10_ok, nmX10, tw_t (tb_5 (List.mem_of_getElem? (i := 129) rfl)) rfl, rfl, rfl⟩
theorem fl_X10_103 : FLx RX10 103 10 47 (tyX10 47) true := ⟨RX10, TX10, 57, tyX10, rfl, by decide, uw_10, tyX10_ok, nmX10, tw_t (tb_5 (List.mem_of_getElem? (i := 130) rfl)) rfl, rfl, rfl⟩
theorem fl_X10_106 : FLx RX10 106 10 50 (tyX10 50) true := ⟨RX10, TX10, 57, tyX10, rfl, by decide, uw_10, tyX10_ok, nmX10, tw_t (tb_5 (List.mem_of_getElem? (i := 133) rfl)) rfl, rfl, rfl⟩
theorem fl_X10_109 : FLx RX10 109 10 52 (tyX10 52) true := ⟨RX10, TX10, 57, tyX10, rfl, by decide, uw_10, tyX10_ok, nmX10, tw_t (tb_5 (List.mem_of_getElem? (i := 135) rfl)) rfl, rfl, rfl⟩
theorem fl_X10_112 : FLx RX10 112 10 53 (tyX10 53) true := ⟨RX10, TX10, 57, tyX10, rfl, by decide, uw_10, tyX10_ok, nmX10, tw_t (tb_5 (List.mem_of_getElem? (i := 136) rfl)) rfl, rfl, rfl⟩
theorem fl_X10_115 : FLx RX10 115 10 54 (tyX10 54) true := ⟨RX10, TX10, 57, tyX10, rfl, by decide, uw_10, tyX10_ok, nmX10, tw_t (tb_5 (List.mem_of_getElem? (i := 137) rfl)) rfl, rfl, rfl⟩
theorem fl_X10_118 : FLx RX10 118 10 55 (tyX10 55) true := ⟨RX10, TX10, 57, tyX10, rfl, by decide, uw_10, tyX10_ok, nmX10, tw_t (tb_5 (List.mem_of_getElem? (i := 138) rfl)) rfl, rfl, rfl⟩
theorem fl_X10_122 : FLx RX10 122 10 56 (tyX10 56) true := ⟨RX10, TX10, 57, tyX10, rfl, by decide, uw_10, tyX10_ok, nmX10, tw_t (tb_5 (List.mem_of_getElem? (i := 139) rfl)) rfl, rfl, rfl⟩
theorem fl_X10_128 : FLx RX10 128 10 1 .int false := ⟨RX10, TX10, 57, tyX10, rfl, by decide, uw_10, tyX10_ok, nmX10, tw_t (tb_5 (List.mem_of_getElem? (i := 84) rfl)) rfl, rfl, rfl⟩
theorem fl_X10_167 : FLx RX10 167 10 10 .int false := ⟨RX10, TX10, 57, tyX10, rfl, by decide, uw_10, tyX10_ok, nmX10, tw_t (tb_5 (List.mem_of_getElem? (i := 93) rfl)) rfl, rfl, rfl⟩
theorem fl_X10_170 : FLx RX10 170 10 9 .int false := ⟨RX10, TX10, 57, tyX10, rfl, by decide, uw_10, tyX10_ok, nmX10, tw_t (tb_5 (List.mem_of_getElem? (i := 92) rfl)) rfl, rfl, rfl⟩
theorem fl_X10_189 : FLx RX10 189 10 16 .int false := ⟨RX10, TX10, 57, tyX10, rfl, by decide, uw_10, tyX10_ok, nmX10, tw_t (tb_5 (List.mem_of_getElem? (i := 99) rfl)) rfl, rfl, rfl⟩
theorem fl_X10_192 : FLx RX10 192 10 17 .int false := ⟨RX10, TX10, 57, tyX10, rfl, by decide, uw_10, tyX10_ok, nmX10, tw_t (tb_5 (List.mem_of_getElem? (i := 100) rfl)) rfl, rfl, rfl⟩
theorem fl_X10_195 : FLx RX10 195 10 18 .int false := ⟨RX10, TX10, 57, tyX10, rfl, by decide, uw_10, tyX10_ok, nmX10, tw_t (tb_5 (List.mem_of_getElem? (i := 101) rfl)) rfl, rfl, rfl⟩
theorem fl_X10_198 : FLx RX10 198 10 20 .int false := ⟨RX10, TX10, 57, tyX10, rfl, by decide, uw_10, tyX10_ok, nmX10, tw_t (tb_5 (List.mem_of_getElem? (i := 103) rfl)) rfl, rfl, rfl⟩
theorem fl_X10_201 : FLx RX10 201 10 19 .int false := ⟨RX10, TX10, 57, tyX10, rfl, by decide, uw_10, tyX10_ok, nmX10, tw_t (tb_5 (List.mem_of_getElem? (i := 102) rfl)) rfl, rfl, rfl⟩
theorem fl_X10_255 : FLx RX10 255 10 28 .boolean false := ⟨RX10, TX10, 57, tyX10, rfl, by decide, uw_10, tyX10_ok, nmX10, tw_t (tb_5 (List.mem_of_getElem? (i := 111) rfl)) rfl, rfl, rfl⟩
theorem fl_X10_274 : FLx RX10 274 10 35 .int false := ⟨RX10, TX10, 57, tyX10, rfl, by decide, uw_10, tyX10_ok, nmX10, tw_t (tb_5 (List.mem_of_getElem? (i := 118) rfl)) rfl, rfl, rfl⟩
theorem fl_X10_277 : FLx RX10 277 10 36 .int false := ⟨RX10, TX10, 57, tyX10, rfl, by decide, uw_10, tyX10_ok, nmX10, tw_t (tb_5 (List.mem_of_getElem? (i := 119) rfl)) rfl, rfl, rfl⟩
theorem fl_X10_284 : FLx RX10 284 10 33 .int false := ⟨RX10, TX10, 57, tyX10, rfl, by decide, uw_10, tyX10_ok, nmX10, tw_t (tb_5 (List.mem_of_getElem? (i := 116) rfl)) rfl, rfl, rfl⟩
theorem fl_X10_299 : FLx RX10 299 10 38 .int false := ⟨RX10, TX10, 57, tyX10, rfl, by decide, uw_10, tyX10_ok, nmX10, tw_t (tb_5 (List.mem_of_getElem? (i := 121) rfl)) rfl, rfl, rfl⟩
theorem fl_X10_317 : FLx RX10 317 10 39 .int false := ⟨RX10, TX10, 57, tyX10, rfl, by decide, uw_10, tyX10_ok, nmX10, tw_t (tb_5 (List.mem_of_getElem? (i := 122) rfl)) rfl, rfl, rfl⟩
theorem fl_X10_320 : FLx RX10 320 10 40 .int false := ⟨RX10, TX10, 57, tyX10, rfl, by decide, uw_10, tyX10_ok, nmX10, tw_t (tb_5 (List.mem_of_getElem? (i := 123) rfl)) rfl, rfl, rfl⟩
theorem fl_X10_330 : FLx RX10 330 10 43 .int false := ⟨RX10, TX10, 57, tyX10, rfl, by decide, uw_10, tyX10_ok, nmX10, tw_t (tb_5 (List.mem_of_getElem? (i := 126) rfl)) rfl, rfl, rfl⟩
theorem fl_X10_355 : FLx RX10 355 10 48 .boolean false := ⟨RX10, TX10, 57, tyX10, rfl, by decide, uw_10, tyX10_ok, nmX10, tw_t (tb_5 (List.mem_of_getElem? (i := 131) rfl)) rfl, rfl, rfl⟩
theorem fl_X10_358 : FLx RX10 358 10 49 .int false := ⟨RX10, TX10, 57, tyX10, rfl, by decide, uw_10, tyX10_ok, nmX10, tw_t (tb_5 (List.mem_of_getElem? (i := 132) rfl)) rfl, rfl, rfl⟩
theorem fl_X10_361 : FLx RX10 361 10 51 .int false := ⟨RX10, TX10, 57, tyX10, rfl, by decide, uw_10, tyX10_ok, nmX10, tw_t (tb_5 (List.mem_of_getElem? (i := 134) rfl)) rfl, rfl, rfl⟩
theorem gs_X0_26 : Cond.fieldLink RX0 26 "FootstepsAhead$Bodies" "ABOVE" "[I" ∈ TWx := tw_t (tb_4 (List.mem_of_getElem? (i := 222) rfl)) rfl
theorem gs_X8_45 : Cond.fieldLink RX8 45 "FootstepsAhead$World" "LEAST" "[I" ∈ TWx := tw_t (tb_2 (List.mem_of_getElem? (i := 146) rfl)) rfl
theorem gs_X8_48 : Cond.fieldLink RX8 48 "FootstepsAhead$World" "MOST" "[I" ∈ TWx := tw_t (tb_2 (List.mem_of_getElem? (i := 148) rfl)) rfl
theorem lk_X9_76 : Cond.methodLink RX9 76 yX9_wayRefusal ∈ TWx := tw_t (tb_2 (List.mem_of_getElem? (i := 76) rfl)) rfl
theorem lk_X9_84 : Cond.methodLink RX9 84 yX8_addWalker ∈ TWx := tw_t (tb_2 (List.mem_of_getElem? (i := 96) rfl)) rfl
theorem lk_X9_92 : Cond.methodLink RX9 92 yX8_addWay ∈ TWx := tw_t (tb_2 (List.mem_of_getElem? (i := 100) rfl)) rfl
theorem lk_X9_96 : Cond.methodLink RX9 96 yX2_spoil ∈ TWx := tw_t (tb_2 (List.mem_of_getElem? (i := 119) rfl)) rfl
theorem lk_X9_99 : Cond.methodLink RX9 99 yX8_isWalker ∈ TWx := tw_t (tb_2 (List.mem_of_getElem? (i := 127) rfl)) rfl
theorem lk_X9_107 : Cond.methodLink RX9 107 yX9_isShelf ∈ TWx := tw_t (tb_2 (List.mem_of_getElem? (i := 80) rfl)) rfl
theorem lk_X9_110 : Cond.methodLink RX9 110 yX6_refusalOfSort ∈ TWx := tw_t (tb_2 (List.mem_of_getElem? (i := 83) rfl)) rfl
theorem lk_X9_114 : Cond.methodLink RX9 114 yX6_tellsPlaces ∈ TWx := tw_t (tb_2 (List.mem_of_getElem? (i := 87) rfl)) rfl
theorem lk_X9_118 : Cond.methodLink RX9 118 yX8_isTold ∈ TWx := tw_t (tb_2 (List.mem_of_getElem? (i := 135) rfl)) rfl
theorem lk_X9_121 : Cond.methodLink RX9 121 yX8_mayBecome ∈ TWx := tw_t (tb_2 (List.mem_of_getElem? (i := 143) rfl)) rfl
theorem lk_X9_124 : Cond.methodLink RX9 124 yX8_told ∈ TWx := tw_t (tb_2 (List.mem_of_getElem? (i := 150) rfl)) rfl
theorem lk_X9_127 : Cond.methodLink RX9 127 yX1_note ∈ TWx := tw_t (tb_2 (List.mem_of_getElem? (i := 154) rfl)) rfl
theorem lk_X9_131 : Cond.methodLink RX9 131 yX8_tell ∈ TWx := tw_t (tb_2 (List.mem_of_getElem? (i := 165) rfl)) rfl
theorem lk_X9_135 : Cond.methodLink RX9 135 yX8_isWay ∈ TWx := tw_t (tb_2 (List.mem_of_getElem? (i := 177) rfl)) rfl
theorem lk_X9_141 : Cond.methodLink RX9 141 yX8_wayIndex ∈ TWx := tw_t (tb_2 (List.mem_of_getElem? (i := 181) rfl)) rfl
theorem lk_X9_148 : Cond.methodLink RX9 148 yX4_write ∈ TWx := tw_t (tb_2 (List.mem_of_getElem? (i := 190) rfl)) rfl
theorem lk_X9_154 : Cond.methodLink RX9 154 yX4_adopt ∈ TWx := tw_t (tb_2 (List.mem_of_getElem? (i := 198) rfl)) rfl
theorem lk_X9_157 : Cond.methodLink RX9 157 yX2_settle ∈ TWx := tw_t (tb_3 (List.mem_of_getElem? (i := 12) rfl)) rfl
theorem lk_X9_163 : Cond.methodLink RX9 163 yX2_heldDay ∈ TWx := tw_t (tb_3 (List.mem_of_getElem? (i := 110) rfl)) rfl
theorem lk_X9_166 : Cond.methodLink RX9 166 yX8_isDay ∈ TWx := tw_t (tb_3 (List.mem_of_getElem? (i := 118) rfl)) rfl
theorem lk_X9_169 : Cond.methodLink RX9 169 yX9_isZeroOrOne ∈ TWx := tw_t (tb_3 (List.mem_of_getElem? (i := 123) rfl)) rfl
theorem lk_X9_172 : Cond.methodLink RX9 172 yX8_waysOn ∈ TWx := tw_t (tb_3 (List.mem_of_getElem? (i := 126) rfl)) rfl
theorem lk_X9_175 : Cond.methodLink RX9 175 yX2_costOf ∈ TWx := tw_t (tb_3 (List.mem_of_getElem? (i := 133) rfl)) rfl
theorem lk_X9_178 : Cond.methodLink RX9 178 yX2_isHeld ∈ TWx := tw_t (tb_3 (List.mem_of_getElem? (i := 138) rfl)) rfl
theorem lk_X9_181 : Cond.methodLink RX9 181 yX9_isMinute ∈ TWx := tw_t (tb_3 (List.mem_of_getElem? (i := 143) rfl)) rfl
theorem lk_X9_184 : Cond.methodLink RX9 184 yX8_wayOn ∈ TWx := tw_t (tb_3 (List.mem_of_getElem? (i := 146) rfl)) rfl
theorem lk_X9_187 : Cond.methodLink RX9 187 yX8_placeAt ∈ TWx := tw_t (tb_3 (List.mem_of_getElem? (i := 147) rfl)) rfl
theorem lk_X9_190 : Cond.methodLink RX9 190 yX9_isPlace ∈ TWx := tw_t (tb_3 (List.mem_of_getElem? (i := 155) rfl)) rfl
theorem lk_X9_193 : Cond.methodLink RX9 193 yX8_tracks ∈ TWx := tw_t (tb_3 (List.mem_of_getElem? (i := 156) rfl)) rfl
theorem lk_X9_196 : Cond.methodLink RX9 196 yX8_walkersOf ∈ TWx := tw_t (tb_3 (List.mem_of_getElem? (i := 157) rfl)) rfl
theorem lk_X9_199 : Cond.methodLink RX9 199 yX2_lawful ∈ TWx := tw_t (tb_3 (List.mem_of_getElem? (i := 162) rfl)) rfl
theorem lk_X9_202 : Cond.methodLink RX9 202 yX8_meetings ∈ TWx := tw_t (tb_3 (List.mem_of_getElem? (i := 167) rfl)) rfl
theorem lk_X9_205 : Cond.methodLink RX9 205 yX8_firstMeeting ∈ TWx := tw_t (tb_3 (List.mem_of_getElem? (i := 176) rfl)) rfl
theorem lk_X9_208 : Cond.methodLink RX9 208 yX5_surePlace ∈ TWx := tw_t (tb_3 (List.mem_of_getElem? (i := 188) rfl)) rfl
theorem lk_X9_211 : Cond.methodLink RX9 211 yX2_followed ∈ TWx := tw_t (tb_3 (List.mem_of_getElem? (i := 199) rfl)) rfl
theorem lk_X9_214 : Cond.methodLink RX9 214 yX5_narrowBy ∈ TWx := tw_t (tb_3 (List.mem_of_getElem? (i := 212) rfl)) rfl
theorem lk_X9_221 : Cond.methodLink RX9 221 yX5_firstFitting ∈ TWx := tw_t (tb_3 (List.mem_of_getElem? (i := 231) rfl)) rfl
theorem lk_X9_224 : Cond.methodLink RX9 224 yX5_alikeWalkers ∈ TWx := tw_t (tb_3 (List.mem_of_getElem? (i := 235) rfl)) rfl
theorem lk_X9_227 : Cond.methodLink RX9 227 yX5_bestLook ∈ TWx := tw_t (tb_4 (List.mem_of_getElem? (i := 3) rfl)) rfl
theorem lk_X9_230 : Cond.methodLink RX9 230 yX5_cheapestWithout ∈ TWx := tw_t (tb_4 (List.mem_of_getElem? (i := 25) rfl)) rfl
theorem lk_X9_234 : Cond.methodLink RX9 234 yX5_bestGuard ∈ TWx := tw_t (tb_4 (List.mem_of_getElem? (i := 38) rfl)) rfl
theorem lk_X9_237 : Cond.methodLink RX9 237 yX7_bestLead ∈ TWx := tw_t (tb_4 (List.mem_of_getElem? (i := 54) rfl)) rfl
theorem lk_X9_240 : Cond.methodLink RX9 240 yX7_withFalseTracks ∈ TWx := tw_t (tb_4 (List.mem_of_getElem? (i := 82) rfl)) rfl
theorem lk_X9_243 : Cond.methodLink RX9 243 yX7_withFlood ∈ TWx := tw_t (tb_4 (List.mem_of_getElem? (i := 99) rfl)) rfl
theorem lk_X9_247 : Cond.methodLink RX9 247 yX7_withDrawnLeads ∈ TWx := tw_t (tb_4 (List.mem_of_getElem? (i := 111) rfl)) rfl
theorem lk_X9_250 : Cond.methodLink RX9 250 yX3_lived ∈ TWx := tw_t (tb_4 (List.mem_of_getElem? (i := 133) rfl)) rfl
theorem lk_X9_253 : Cond.methodLink RX9 253 yX3_told ∈ TWx := tw_t (tb_4 (List.mem_of_getElem? (i := 141) rfl)) rfl
theorem lk_X9_255 : Cond.methodLink RX9 255 yX2_nextDay ∈ TWx := tw_t (tb_4 (List.mem_of_getElem? (i := 145) rfl)) rfl
theorem lk_X9_258 : Cond.methodLink RX9 258 yX8_withWay ∈ TWx := tw_t (tb_4 (List.mem_of_getElem? (i := 146) rfl)) rfl
theorem lk_X9_261 : Cond.methodLink RX9 261 yX3_keepImage ∈ TWx := tw_t (tb_4 (List.mem_of_getElem? (i := 157) rfl)) rfl
theorem lk_X9_264 : Cond.methodLink RX9 264 yX3_layBack ∈ TWx := tw_t (tb_4 (List.mem_of_getElem? (i := 166) rfl)) rfl
theorem lk_X9_268 : Cond.methodLink RX9 268 yX1_unmake ∈ TWx := tw_t (tb_4 (List.mem_of_getElem? (i := 174) rfl)) rfl
theorem lk_X9_275 : Cond.methodLink RX9 275 yX1_remake ∈ TWx := tw_t (tb_4 (List.mem_of_getElem? (i := 183) rfl)) rfl
theorem lk_X9_278 : Cond.methodLink RX9 278 yX1_unmade ∈ TWx := tw_t (tb_4 (List.mem_of_getElem? (i := 187) rfl)) rfl
theorem lk_X9_281 : Cond.methodLink RX9 281 yX0_add ∈ TWx := tw_t (tb_4 (List.mem_of_getElem? (i := 195) rfl)) rfl
theorem lk_X9_284 : Cond.methodLink RX9 284 yX0_perform ∈ TWx := tw_t (tb_4 (List.mem_of_getElem? (i := 203) rfl)) rfl
theorem lk_X9_287 : Cond.methodLink RX9 287 yX0_ranAt ∈ TWx := tw_t (tb_5 (List.mem_of_getElem? (i := 0) rfl)) rfl
theorem lk_X9_290 : Cond.methodLink RX9 290 yX0_isThere ∈ TWx := tw_t (tb_5 (List.mem_of_getElem? (i := 8) rfl)) rfl
theorem lk_X9_293 : Cond.methodLink RX9 293 yX6_clear ∈ TWx := tw_t (tb_5 (List.mem_of_getElem? (i := 9) rfl)) rfl
theorem lk_X9_296 : Cond.methodLink RX9 296 yX0_kindOf ∈ TWx := tw_t (tb_5 (List.mem_of_getElem? (i := 13) rfl)) rfl
theorem lk_X9_299 : Cond.methodLink RX9 299 yX6_holdBody ∈ TWx := tw_t (tb_5 (List.mem_of_getElem? (i := 17) rfl)) rfl
theorem lk_X9_303 : Cond.methodLink RX9 303 yX6_holdRow ∈ TWx := tw_t (tb_5 (List.mem_of_getElem? (i := 25) rfl)) rfl
theorem lk_X9_307 : Cond.methodLink RX9 307 yX9_elementRefusal ∈ TWx := tw_t (tb_5 (List.mem_of_getElem? (i := 36) rfl)) rfl
theorem lk_X9_310 : Cond.methodLink RX9 310 yX6_set ∈ TWx := tw_t (tb_5 (List.mem_of_getElem? (i := 45) rfl)) rfl
theorem lk_X9_318 : Cond.methodLink RX9 318 yX6_refusalOfRow ∈ TWx := tw_t (tb_5 (List.mem_of_getElem? (i := 40) rfl)) rfl
theorem lk_X9_321 : Cond.methodLink RX9 321 yX6_hasPlaces ∈ TWx := tw_t (tb_5 (List.mem_of_getElem? (i := 44) rfl)) rfl
theorem lk_X9_327 : Cond.methodLink RX9 327 arraycopyName ∈ TWx := tw_t (tb_5 (List.mem_of_getElem? (i := 62) rfl)) rfl
theorem lk_X9_336 : Cond.methodLink RX9 336 yX0_isUnder ∈ TWx := tw_t (tb_5 (List.mem_of_getElem? (i := 67) rfl)) rfl
theorem lk_X9_339 : Cond.methodLink RX9 339 yX8_waysOfAll ∈ TWx := tw_t (tb_5 (List.mem_of_getElem? (i := 74) rfl)) rfl
theorem lk_X0_22 : Cond.methodLink RX0 22 yX0_above ∈ TWx := tw_t (tb_4 (List.mem_of_getElem? (i := 219) rfl)) rfl
theorem lk_X0_32 : Cond.methodLink RX0 32 yX0_isThere ∈ TWx := tw_t (tb_4 (List.mem_of_getElem? (i := 207) rfl)) rfl
theorem lk_X0_42 : Cond.methodLink RX0 42 yX0_leads ∈ TWx := tw_t (tb_4 (List.mem_of_getElem? (i := 211) rfl)) rfl
theorem lk_X0_46 : Cond.methodLink RX0 46 yX0_treads ∈ TWx := tw_t (tb_4 (List.mem_of_getElem? (i := 224) rfl)) rfl
theorem lk_X0_49 : Cond.methodLink RX0 49 yX0_reads ∈ TWx := tw_t (tb_4 (List.mem_of_getElem? (i := 228) rfl)) rfl
theorem lk_X0_52 : Cond.methodLink RX0 52 yX0_tells ∈ TWx := tw_t (tb_4 (List.mem_of_getElem? (i := 232) rfl)) rfl
theorem lk_X0_55 : Cond.methodLink RX0 55 yX0_begin ∈ TWx := tw_t (tb_4 (List.mem_of_getElem? (i := 215) rfl)) rfl
theorem lk_X1_18 : Cond.methodLink RX1 18 yX1_dropOldest ∈ TWx := tw_t (tb_2 (List.mem_of_getElem? (i := 158) rfl)) rfl
theorem lk_X1_24 : Cond.methodLink RX1 24 arraycopyName ∈ TWx := tw_t (tb_2 (List.mem_of_getElem? (i := 162) rfl)) rfl
theorem lk_X1_30 : Cond.methodLink RX1 30 yX8_tell ∈ TWx := tw_t (tb_4 (List.mem_of_getElem? (i := 178) rfl)) rfl
theorem lk_X2_45 : Cond.methodLink RX2 45 yX2_list ∈ TWx := tw_t (tb_3 (List.mem_of_getElem? (i := 16) rfl)) rfl
theorem lk_X2_48 : Cond.methodLink RX2 48 yX2_observe ∈ TWx := tw_t (tb_3 (List.mem_of_getElem? (i := 25) rfl)) rfl
theorem lk_X2_52 : Cond.methodLink RX2 52 yX2_forget ∈ TWx := tw_t (tb_3 (List.mem_of_getElem? (i := 50) rfl)) rfl
theorem lk_X2_55 : Cond.methodLink RX2 55 yX2_gather ∈ TWx := tw_t (tb_3 (List.mem_of_getElem? (i := 54) rfl)) rfl
theorem lk_X2_67 : Cond.methodLink RX2 67 yX2_spread ∈ TWx := tw_t (tb_3 (List.mem_of_getElem? (i := 20) rfl)) rfl
theorem lk_X2_74 : Cond.methodLink RX2 74 yX8_wayIndex ∈ TWx := tw_t (tb_3 (List.mem_of_getElem? (i := 24) rfl)) rfl
theorem lk_X2_78 : Cond.methodLink RX2 78 yX2_firstPlace ∈ TWx := tw_t (tb_3 (List.mem_of_getElem? (i := 29) rfl)) rfl
theorem lk_X2_82 : Cond.methodLink RX2 82 yX8_start ∈ TWx := tw_t (tb_3 (List.mem_of_getElem? (i := 33) rfl)) rfl
theorem lk_X2_85 : Cond.methodLink RX2 85 yX8_tracks ∈ TWx := tw_t (tb_3 (List.mem_of_getElem? (i := 34) rfl)) rfl
theorem lk_X2_88 : Cond.methodLink RX2 88 yX8_allWaysOf ∈ TWx := tw_t (tb_3 (List.mem_of_getElem? (i := 46) rfl)) rfl
theorem lk_X2_91 : Cond.methodLink RX2 91 yJ7_fill_53178 ∈ TWx := tw_t (tb_3 (List.mem_of_getElem? (i := 49) rfl)) rfl
theorem lk_X2_104 : Cond.methodLink RX2 104 yJ9_max_7cf53 ∈ TWx := tw_t (tb_3 (List.mem_of_getElem? (i := 58) rfl)) rfl
theorem lk_X2_109 : Cond.methodLink RX2 109 yX2_lawful ∈ TWx := tw_t (tb_3 (List.mem_of_getElem? (i := 61) rfl)) rfl
theorem lk_X2_112 : Cond.methodLink RX2 112 yX2_isHeld ∈ TWx := tw_t (tb_3 (List.mem_of_getElem? (i := 103) rfl)) rfl
theorem lk_X2_116 : Cond.methodLink RX2 116 yX8_choice ∈ TWx := tw_t (tb_3 (List.mem_of_getElem? (i := 107) rfl)) rfl
theorem lk_X2_119 : Cond.methodLink RX2 119 yX8_walkersOf ∈ TWx := tw_t (tb_3 (List.mem_of_getElem? (i := 65) rfl)) rfl
theorem lk_X2_122 : Cond.methodLink RX2 122 yX8_lead ∈ TWx := tw_t (tb_3 (List.mem_of_getElem? (i := 68) rfl)) rfl
theorem lk_X2_125 : Cond.methodLink RX2 125 yX4_gives ∈ TWx := tw_t (tb_3 (List.mem_of_getElem? (i := 69) rfl)) rfl
theorem lk_X2_131 : Cond.methodLink RX2 131 yJ9_floorMod_7cf53 ∈ TWx := tw_t (tb_3 (List.mem_of_getElem? (i := 100) rfl)) rfl
theorem lk_X2_134 : Cond.methodLink RX2 134 yX8_told ∈ TWx := tw_t (tb_3 (List.mem_of_getElem? (i := 137) rfl)) rfl
theorem lk_X2_137 : Cond.methodLink RX2 137 yX8_waysOn ∈ TWx := tw_t (tb_3 (List.mem_of_getElem? (i := 207) rfl)) rfl
theorem lk_X2_140 : Cond.methodLink RX2 140 yX2_nextDay ∈ TWx := tw_t (tb_3 (List.mem_of_getElem? (i := 203) rfl)) rfl
theorem lk_X2_143 : Cond.methodLink RX2 143 yX4_namesLead ∈ TWx := tw_t (tb_4 (List.mem_of_getElem? (i := 62) rfl)) rfl
theorem lk_X3_18 : Cond.methodLink RX3 18 arraycopyName ∈ TWx := tw_t (tb_4 (List.mem_of_getElem? (i := 161) rfl)) rfl
theorem lk_X4_35 : Cond.methodLink RX4 35 yX4_text ∈ TWx := tw_t (tb_2 (List.mem_of_getElem? (i := 202) rfl)) rfl
theorem lk_X4_39 : Cond.methodLink RX4 39 arraycopyName ∈ TWx := tw_t (tb_3 (List.mem_of_getElem? (i := 7) rfl)) rfl
theorem lk_X4_45 : Cond.methodLink RX4 45 yX4_line ∈ TWx := tw_t (tb_2 (List.mem_of_getElem? (i := 206) rfl)) rfl
theorem lk_X4_48 : Cond.methodLink RX4 48 yX4_next ∈ TWx := tw_t (tb_2 (List.mem_of_getElem? (i := 218) rfl)) rfl
theorem lk_X4_52 : Cond.methodLink RX4 52 yX4_chain ∈ TWx := tw_t (tb_2 (List.mem_of_getElem? (i := 210) rfl)) rfl
theorem lk_X4_56 : Cond.methodLink RX4 56 yX4_emit ∈ TWx := tw_t (tb_2 (List.mem_of_getElem? (i := 229) rfl)) rfl
theorem lk_X4_60 : Cond.methodLink RX4 60 yX4_operand ∈ TWx := tw_t (tb_2 (List.mem_of_getElem? (i := 214) rfl)) rfl
theorem lk_X4_64 : Cond.methodLink RX4 64 yX4_rankOf ∈ TWx := tw_t (tb_3 (List.mem_of_getElem? (i := 4) rfl)) rfl
theorem lk_X4_68 : Cond.methodLink RX4 68 yX4_isDigit ∈ TWx := tw_t (tb_2 (List.mem_of_getElem? (i := 222) rfl)) rfl
theorem lk_X4_71 : Cond.methodLink RX4 71 yX4_number ∈ TWx := tw_t (tb_2 (List.mem_of_getElem? (i := 225) rfl)) rfl
theorem lk_X4_74 : Cond.methodLink RX4 74 yX4_isName ∈ TWx := tw_t (tb_2 (List.mem_of_getElem? (i := 233) rfl)) rfl
theorem lk_X4_77 : Cond.methodLink RX4 77 yX4_bracketed ∈ TWx := tw_t (tb_2 (List.mem_of_getElem? (i := 236) rfl)) rfl
theorem lk_X4_80 : Cond.methodLink RX4 80 yX4_prefixed ∈ TWx := tw_t (tb_3 (List.mem_of_getElem? (i := 0) rfl)) rfl
theorem lk_X4_83 : Cond.methodLink RX4 83 yJ6_bitCount_0f7a4 ∈ TWx := tw_t (tb_3 (List.mem_of_getElem? (i := 73) rfl)) rfl
theorem lk_X4_91 : Cond.methodLink RX4 91 yX4_pop ∈ TWx := tw_t (tb_3 (List.mem_of_getElem? (i := 79) rfl)) rfl
theorem lk_X4_94 : Cond.methodLink RX4 94 yX4_endOfLine ∈ TWx := tw_t (tb_3 (List.mem_of_getElem? (i := 83) rfl)) rfl
theorem lk_X4_97 : Cond.methodLink RX4 97 yX4_push ∈ TWx := tw_t (tb_3 (List.mem_of_getElem? (i := 87) rfl)) rfl
theorem lk_X4_100 : Cond.methodLink RX4 100 yX4_named ∈ TWx := tw_t (tb_3 (List.mem_of_getElem? (i := 91) rfl)) rfl
theorem lk_X4_104 : Cond.methodLink RX4 104 yX4_prefixing ∈ TWx := tw_t (tb_3 (List.mem_of_getElem? (i := 94) rfl)) rfl
theorem lk_X4_108 : Cond.methodLink RX4 108 yX4_joining ∈ TWx := tw_t (tb_3 (List.mem_of_getElem? (i := 97) rfl)) rfl
theorem lk_X5_35 : Cond.methodLink RX5 35 yX2_heldDay ∈ TWx := tw_t (tb_3 (List.mem_of_getElem? (i := 192) rfl)) rfl
theorem lk_X5_39 : Cond.methodLink RX5 39 yX8_wayOn ∈ TWx := tw_t (tb_3 (List.mem_of_getElem? (i := 193) rfl)) rfl
theorem lk_X5_45 : Cond.methodLink RX5 45 yX8_placeAt ∈ TWx := tw_t (tb_3 (List.mem_of_getElem? (i := 194) rfl)) rfl
theorem lk_X5_50 : Cond.methodLink RX5 50 yX6_refusalOfSort ∈ TWx := tw_t (tb_3 (List.mem_of_getElem? (i := 216) rfl)) rfl
theorem lk_X5_53 : Cond.methodLink RX5 53 yX6_tellsTracks ∈ TWx := tw_t (tb_3 (List.mem_of_getElem? (i := 217) rfl)) rfl
theorem lk_X5_63 : Cond.methodLink RX5 63 arraycopyName ∈ TWx := tw_t (tb_3 (List.mem_of_getElem? (i := 224) rfl)) rfl
theorem lk_X5_76 : Cond.methodLink RX5 76 yX5_keepAlike ∈ TWx := tw_t (tb_3 (List.mem_of_getElem? (i := 225) rfl)) rfl
theorem lk_X5_80 : Cond.methodLink RX5 80 yX8_tracks ∈ TWx := tw_t (tb_3 (List.mem_of_getElem? (i := 229) rfl)) rfl
theorem lk_X5_86 : Cond.methodLink RX5 86 yX8_walkersOf ∈ TWx := tw_t (tb_3 (List.mem_of_getElem? (i := 230) rfl)) rfl
theorem lk_X5_92 : Cond.methodLink RX5 92 yJ7_fill_53178 ∈ TWx := tw_t (tb_4 (List.mem_of_getElem? (i := 7) rfl)) rfl
theorem lk_X5_101 : Cond.methodLink RX5 101 yX5_markTracks ∈ TWx := tw_t (tb_4 (List.mem_of_getElem? (i := 8) rfl)) rfl
theorem lk_X5_105 : Cond.methodLink RX5 105 yX5_greatestPart ∈ TWx := tw_t (tb_4 (List.mem_of_getElem? (i := 17) rfl)) rfl
theorem lk_X5_108 : Cond.methodLink RX5 108 yX8_lead ∈ TWx := tw_t (tb_4 (List.mem_of_getElem? (i := 12) rfl)) rfl
theorem lk_X5_118 : Cond.methodLink RX5 118 yJ9_min_7cf53 ∈ TWx := tw_t (tb_4 (List.mem_of_getElem? (i := 13) rfl)) rfl
theorem lk_X5_123 : Cond.methodLink RX5 123 yJ9_max_7cf53 ∈ TWx := tw_t (tb_4 (List.mem_of_getElem? (i := 16) rfl)) rfl
theorem lk_X5_130 : Cond.methodLink RX5 130 yX8_goesBy ∈ TWx := tw_t (tb_4 (List.mem_of_getElem? (i := 29) rfl)) rfl
theorem lk_X5_134 : Cond.methodLink RX5 134 yX2_costOf ∈ TWx := tw_t (tb_4 (List.mem_of_getElem? (i := 33) rfl)) rfl
theorem lk_X5_137 : Cond.methodLink RX5 137 yX5_markVisits ∈ TWx := tw_t (tb_4 (List.mem_of_getElem? (i := 42) rfl)) rfl
theorem lk_X5_140 : Cond.methodLink RX5 140 yX5_daysWithAny ∈ TWx := tw_t (tb_4 (List.mem_of_getElem? (i := 46) rfl)) rfl
theorem lk_X6_25 : Cond.methodLink RX6 25 yJ7_fill_d0a16 ∈ TWx := tw_t (tb_5 (List.mem_of_getElem? (i := 29) rfl)) rfl
theorem lk_X6_31 : Cond.methodLink RX6 31 yX6_trimmed ∈ TWx := tw_t (tb_5 (List.mem_of_getElem? (i := 49) rfl)) rfl
theorem lk_X6_35 : Cond.methodLink RX6 35 yX6_hasPlaces ∈ TWx := tw_t (tb_2 (List.mem_of_getElem? (i := 91) rfl)) rfl
theorem lk_X6_41 : Cond.methodLink RX6 41 yX6_isWithin ∈ TWx := tw_t (tb_3 (List.mem_of_getElem? (i := 221) rfl)) rfl
theorem lk_X7_23 : Cond.methodLink RX7 23 yX2_lawNamesLead ∈ TWx := tw_t (tb_4 (List.mem_of_getElem? (i := 58) rfl)) rfl
theorem lk_X7_29 : Cond.methodLink RX7 29 yX8_lead ∈ TWx := tw_t (tb_4 (List.mem_of_getElem? (i := 66) rfl)) rfl
theorem lk_X7_35 : Cond.methodLink RX7 35 yX8_tryLead ∈ TWx := tw_t (tb_4 (List.mem_of_getElem? (i := 67) rfl)) rfl
theorem lk_X7_39 : Cond.methodLink RX7 39 yX2_observe ∈ TWx := tw_t (tb_4 (List.mem_of_getElem? (i := 71) rfl)) rfl
theorem lk_X7_42 : Cond.methodLink RX7 42 yX2_forgetOne ∈ TWx := tw_t (tb_4 (List.mem_of_getElem? (i := 72) rfl)) rfl
theorem lk_X7_46 : Cond.methodLink RX7 46 yX2_gather ∈ TWx := tw_t (tb_4 (List.mem_of_getElem? (i := 76) rfl)) rfl
theorem lk_X7_53 : Cond.methodLink RX7 53 yX2_spoil ∈ TWx := tw_t (tb_4 (List.mem_of_getElem? (i := 77) rfl)) rfl
theorem lk_X7_56 : Cond.methodLink RX7 56 yX2_paint ∈ TWx := tw_t (tb_4 (List.mem_of_getElem? (i := 86) rfl)) rfl
theorem lk_X7_59 : Cond.methodLink RX7 59 yX7_countTried ∈ TWx := tw_t (tb_4 (List.mem_of_getElem? (i := 90) rfl)) rfl
theorem lk_X7_62 : Cond.methodLink RX7 62 yX2_drown ∈ TWx := tw_t (tb_4 (List.mem_of_getElem? (i := 103) rfl)) rfl
theorem lk_X7_66 : Cond.methodLink RX7 66 yX2_heldDay ∈ TWx := tw_t (tb_4 (List.mem_of_getElem? (i := 94) rfl)) rfl
theorem lk_X7_69 : Cond.methodLink RX7 69 yX7_keepLeads ∈ TWx := tw_t (tb_4 (List.mem_of_getElem? (i := 115) rfl)) rfl
theorem lk_X7_72 : Cond.methodLink RX7 72 yX7_drawLeads ∈ TWx := tw_t (tb_4 (List.mem_of_getElem? (i := 119) rfl)) rfl
theorem lk_X7_75 : Cond.methodLink RX7 75 yX2_forget ∈ TWx := tw_t (tb_4 (List.mem_of_getElem? (i := 124) rfl)) rfl
theorem lk_X7_78 : Cond.methodLink RX7 78 yX7_giveLeadsBack ∈ TWx := tw_t (tb_4 (List.mem_of_getElem? (i := 125) rfl)) rfl
theorem lk_X8_38 : Cond.methodLink RX8 38 yX8_choice ∈ TWx := tw_t (tb_3 (List.mem_of_getElem? (i := 122) rfl)) rfl
theorem lk_X8_42 : Cond.methodLink RX8 42 yX8_wayIndex ∈ TWx := tw_t (tb_2 (List.mem_of_getElem? (i := 104) rfl)) rfl
theorem lk_X8_55 : Cond.methodLink RX8 55 yX8_isWalker ∈ TWx := tw_t (tb_2 (List.mem_of_getElem? (i := 142) rfl)) rfl
theorem lk_X8_62 : Cond.methodLink RX8 62 yX8_reckonAll ∈ TWx := tw_t (tb_2 (List.mem_of_getElem? (i := 169) rfl)) rfl
theorem lk_X8_65 : Cond.methodLink RX8 65 yX8_reckon ∈ TWx := tw_t (tb_2 (List.mem_of_getElem? (i := 107) rfl)) rfl
theorem lk_X8_69 : Cond.methodLink RX8 69 yX8_start ∈ TWx := tw_t (tb_2 (List.mem_of_getElem? (i := 111) rfl)) rfl
theorem lk_X8_73 : Cond.methodLink RX8 73 yX8_minutesBetween ∈ TWx := tw_t (tb_2 (List.mem_of_getElem? (i := 115) rfl)) rfl
theorem lk_X8_76 : Cond.methodLink RX8 76 yX8_wayOn ∈ TWx := tw_t (tb_3 (List.mem_of_getElem? (i := 130) rfl)) rfl
theorem lk_X8_79 : Cond.methodLink RX8 79 yX8_leavesTracks ∈ TWx := tw_t (tb_3 (List.mem_of_getElem? (i := 38) rfl)) rfl
theorem lk_X8_83 : Cond.methodLink RX8 83 yX8_lead ∈ TWx := tw_t (tb_3 (List.mem_of_getElem? (i := 42) rfl)) rfl
theorem lk_X8_86 : Cond.methodLink RX8 86 yX8_meetingsOfTwo ∈ TWx := tw_t (tb_3 (List.mem_of_getElem? (i := 171) rfl)) rfl
theorem lk_X8_89 : Cond.methodLink RX8 89 yX8_placeAt ∈ TWx := tw_t (tb_3 (List.mem_of_getElem? (i := 175) rfl)) rfl
theorem lk_X8_92 : Cond.methodLink RX8 92 yX8_firstMeetingOfTwo ∈ TWx := tw_t (tb_3 (List.mem_of_getElem? (i := 180) rfl)) rfl
theorem lk_L_13 : Cond.methodLink RL 13 yX9_walker ∈ TWx := tw_t (tb_2 (List.mem_of_getElem? (i := 72) rfl)) rfl
theorem lk_L_17 : Cond.methodLink RL 17 yX10_walker ∈ TWx := tw_t (tb_6 (List.mem_of_getElem? (i := 17) rfl)) rfl
theorem lk_L_18 : Cond.methodLink RL 18 yX9_way ∈ TWx := tw_t (tb_2 (List.mem_of_getElem? (i := 123) rfl)) rfl
theorem lk_L_22 : Cond.methodLink RL 22 yX10_way ∈ TWx := tw_t (tb_6 (List.mem_of_getElem? (i := 45) rfl)) rfl
theorem lk_L_23 : Cond.methodLink RL 23 yX9_mend ∈ TWx := tw_t (tb_2 (List.mem_of_getElem? (i := 131) rfl)) rfl
theorem lk_L_26 : Cond.methodLink RL 26 yX10_mend ∈ TWx := tw_t (tb_6 (List.mem_of_getElem? (i := 68) rfl)) rfl
theorem lk_L_27 : Cond.methodLink RL 27 yX9_of ∈ TWx := tw_t (tb_2 (List.mem_of_getElem? (i := 173) rfl)) rfl
theorem lk_L_30 : Cond.methodLink RL 30 yX10_of ∈ TWx := tw_t (tb_6 (List.mem_of_getElem? (i := 87) rfl)) rfl
theorem lk_L_31 : Cond.methodLink RL 31 yX9_place ∈ TWx := tw_t (tb_2 (List.mem_of_getElem? (i := 182) rfl)) rfl
theorem lk_L_34 : Cond.methodLink RL 34 yX10_place ∈ TWx := tw_t (tb_6 (List.mem_of_getElem? (i := 91) rfl)) rfl
theorem lk_L_35 : Cond.methodLink RL 35 yX9_feed ∈ TWx := tw_t (tb_2 (List.mem_of_getElem? (i := 186) rfl)) rfl
theorem lk_L_39 : Cond.methodLink RL 39 yX10_feed ∈ TWx := tw_t (tb_6 (List.mem_of_getElem? (i := 99) rfl)) rfl
theorem lk_L_40 : Cond.methodLink RL 40 yX9_law ∈ TWx := tw_t (tb_2 (List.mem_of_getElem? (i := 194) rfl)) rfl
theorem lk_L_44 : Cond.methodLink RL 44 yX10_law ∈ TWx := tw_t (tb_6 (List.mem_of_getElem? (i := 103) rfl)) rfl
theorem lk_L_45 : Cond.methodLink RL 45 yX9_holding ∈ TWx := tw_t (tb_3 (List.mem_of_getElem? (i := 8) rfl)) rfl
theorem lk_L_48 : Cond.methodLink RL 48 yX10_holding ∈ TWx := tw_t (tb_6 (List.mem_of_getElem? (i := 162) rfl)) rfl
theorem lk_L_49 : Cond.methodLink RL 49 yX9_day ∈ TWx := tw_t (tb_3 (List.mem_of_getElem? (i := 114) rfl)) rfl
theorem lk_L_52 : Cond.methodLink RL 52 yX10_day ∈ TWx := tw_t (tb_6 (List.mem_of_getElem? (i := 219) rfl)) rfl
theorem lk_L_53 : Cond.methodLink RL 53 yX9_where ∈ TWx := tw_t (tb_3 (List.mem_of_getElem? (i := 139) rfl)) rfl
theorem lk_L_56 : Cond.methodLink RL 56 yX10_where ∈ TWx := tw_t (tb_6 (List.mem_of_getElem? (i := 227) rfl)) rfl
theorem lk_L_57 : Cond.methodLink RL 57 yX9_sees ∈ TWx := tw_t (tb_3 (List.mem_of_getElem? (i := 151) rfl)) rfl
theorem lk_L_60 : Cond.methodLink RL 60 yX10_sees ∈ TWx := tw_t (tb_6 (List.mem_of_getElem? (i := 235) rfl)) rfl
theorem lk_L_61 : Cond.methodLink RL 61 yX9_takes ∈ TWx := tw_t (tb_3 (List.mem_of_getElem? (i := 158) rfl)) rfl
theorem lk_L_64 : Cond.methodLink RL 64 yX10_takes ∈ TWx := tw_t (tb_7 (List.mem_of_getElem? (i := 3) rfl)) rfl
theorem lk_L_65 : Cond.methodLink RL 65 yX9_meet ∈ TWx := tw_t (tb_3 (List.mem_of_getElem? (i := 163) rfl)) rfl
theorem lk_L_68 : Cond.methodLink RL 68 yX10_meet ∈ TWx := tw_t (tb_7 (List.mem_of_getElem? (i := 7) rfl)) rfl
theorem lk_L_69 : Cond.methodLink RL 69 yX9_sure ∈ TWx := tw_t (tb_3 (List.mem_of_getElem? (i := 184) rfl)) rfl
theorem lk_L_72 : Cond.methodLink RL 72 yX10_sure ∈ TWx := tw_t (tb_7 (List.mem_of_getElem? (i := 15) rfl)) rfl
theorem lk_L_73 : Cond.methodLink RL 73 yX9_follow ∈ TWx := tw_t (tb_3 (List.mem_of_getElem? (i := 195) rfl)) rfl
theorem lk_L_76 : Cond.methodLink RL 76 yX10_follow ∈ TWx := tw_t (tb_7 (List.mem_of_getElem? (i := 19) rfl)) rfl
theorem lk_L_77 : Cond.methodLink RL 77 yX9_read ∈ TWx := tw_t (tb_3 (List.mem_of_getElem? (i := 208) rfl)) rfl
theorem lk_L_80 : Cond.methodLink RL 80 yX10_read ∈ TWx := tw_t (tb_7 (List.mem_of_getElem? (i := 27) rfl)) rfl
theorem lk_L_81 : Cond.methodLink RL 81 yX9_look ∈ TWx := tw_t (tb_3 (List.mem_of_getElem? (i := 239) rfl)) rfl
theorem lk_L_84 : Cond.methodLink RL 84 yX10_look ∈ TWx := tw_t (tb_7 (List.mem_of_getElem? (i := 39) rfl)) rfl
theorem lk_L_85 : Cond.methodLink RL 85 yX9_cheapest ∈ TWx := tw_t (tb_4 (List.mem_of_getElem? (i := 21) rfl)) rfl
theorem lk_L_88 : Cond.methodLink RL 88 yX10_cheapest ∈ TWx := tw_t (tb_7 (List.mem_of_getElem? (i := 47) rfl)) rfl
theorem lk_L_89 : Cond.methodLink RL 89 yX9_guard ∈ TWx := tw_t (tb_4 (List.mem_of_getElem? (i := 34) rfl)) rfl
theorem lk_L_92 : Cond.methodLink RL 92 yX10_guard ∈ TWx := tw_t (tb_7 (List.mem_of_getElem? (i := 55) rfl)) rfl
theorem lk_L_93 : Cond.methodLink RL 93 yX9_shoes ∈ TWx := tw_t (tb_4 (List.mem_of_getElem? (i := 50) rfl)) rfl
theorem lk_L_96 : Cond.methodLink RL 96 yX10_shoes ∈ TWx := tw_t (tb_7 (List.mem_of_getElem? (i := 63) rfl)) rfl
theorem lk_L_97 : Cond.methodLink RL 97 yX9_feigned ∈ TWx := tw_t (tb_4 (List.mem_of_getElem? (i := 78) rfl)) rfl
theorem lk_L_100 : Cond.methodLink RL 100 yX10_feigned ∈ TWx := tw_t (tb_7 (List.mem_of_getElem? (i := 67) rfl)) rfl
theorem lk_L_101 : Cond.methodLink RL 101 yX9_flood ∈ TWx := tw_t (tb_4 (List.mem_of_getElem? (i := 95) rfl)) rfl
theorem lk_L_104 : Cond.methodLink RL 104 yX10_flood ∈ TWx := tw_t (tb_7 (List.mem_of_getElem? (i := 75) rfl)) rfl
theorem lk_L_105 : Cond.methodLink RL 105 yX9_drawn ∈ TWx := tw_t (tb_4 (List.mem_of_getElem? (i := 107) rfl)) rfl
theorem lk_L_108 : Cond.methodLink RL 108 yX10_drawn ∈ TWx := tw_t (tb_7 (List.mem_of_getElem? (i := 79) rfl)) rfl
theorem lk_L_109 : Cond.methodLink RL 109 yX9_live ∈ TWx := tw_t (tb_4 (List.mem_of_getElem? (i := 129) rfl)) rfl
theorem lk_L_112 : Cond.methodLink RL 112 yX10_live ∈ TWx := tw_t (tb_7 (List.mem_of_getElem? (i := 84) rfl)) rfl
theorem lk_L_113 : Cond.methodLink RL 113 yX9_step ∈ TWx := tw_t (tb_4 (List.mem_of_getElem? (i := 137) rfl)) rfl
theorem lk_L_116 : Cond.methodLink RL 116 yX10_step ∈ TWx := tw_t (tb_7 (List.mem_of_getElem? (i := 92) rfl)) rfl
theorem lk_L_117 : Cond.methodLink RL 117 yX9_led ∈ TWx := tw_t (tb_4 (List.mem_of_getElem? (i := 149) rfl)) rfl
theorem lk_L_120 : Cond.methodLink RL 120 yX10_led ∈ TWx := tw_t (tb_7 (List.mem_of_getElem? (i := 96) rfl)) rfl
theorem lk_L_121 : Cond.methodLink RL 121 yX9_image ∈ TWx := tw_t (tb_4 (List.mem_of_getElem? (i := 153) rfl)) rfl
theorem lk_L_124 : Cond.methodLink RL 124 yX10_image ∈ TWx := tw_t (tb_7 (List.mem_of_getElem? (i := 100) rfl)) rfl
theorem lk_L_125 : Cond.methodLink RL 125 yX9_back ∈ TWx := tw_t (tb_4 (List.mem_of_getElem? (i := 162) rfl)) rfl
theorem lk_L_128 : Cond.methodLink RL 128 yX10_back ∈ TWx := tw_t (tb_7 (List.mem_of_getElem? (i := 104) rfl)) rfl
theorem lk_L_129 : Cond.methodLink RL 129 yX9_undo ∈ TWx := tw_t (tb_4 (List.mem_of_getElem? (i := 170) rfl)) rfl
theorem lk_L_132 : Cond.methodLink RL 132 yX10_undo ∈ TWx := tw_t (tb_6 (List.mem_of_getElem? (i := 53) rfl)) rfl
theorem lk_L_133 : Cond.methodLink RL 133 yX9_redo ∈ TWx := tw_t (tb_4 (List.mem_of_getElem? (i := 179) rfl)) rfl
theorem lk_L_136 : Cond.methodLink RL 136 yX10_redo ∈ TWx := tw_t (tb_6 (List.mem_of_getElem? (i := 64) rfl)) rfl
theorem lk_L_137 : Cond.methodLink RL 137 yX9_body ∈ TWx := tw_t (tb_4 (List.mem_of_getElem? (i := 191) rfl)) rfl
theorem lk_L_140 : Cond.methodLink RL 140 yX10_body ∈ TWx := tw_t (tb_7 (List.mem_of_getElem? (i := 112) rfl)) rfl
theorem lk_L_141 : Cond.methodLink RL 141 yX9_act ∈ TWx := tw_t (tb_4 (List.mem_of_getElem? (i := 199) rfl)) rfl
theorem lk_L_144 : Cond.methodLink RL 144 yX10_act ∈ TWx := tw_t (tb_7 (List.mem_of_getElem? (i := 116) rfl)) rfl
theorem lk_L_145 : Cond.methodLink RL 145 yX9_trace ∈ TWx := tw_t (tb_4 (List.mem_of_getElem? (i := 236) rfl)) rfl
theorem lk_L_148 : Cond.methodLink RL 148 yX10_trace ∈ TWx := tw_t (tb_7 (List.mem_of_getElem? (i := 108) rfl)) rfl
theorem lk_L_149 : Cond.methodLink RL 149 yX9_keep ∈ TWx := tw_t (tb_5 (List.mem_of_getElem? (i := 4) rfl)) rfl
theorem lk_L_152 : Cond.methodLink RL 152 yX10_keep ∈ TWx := tw_t (tb_7 (List.mem_of_getElem? (i := 183) rfl)) rfl
theorem lk_L_153 : Cond.methodLink RL 153 yX9_row ∈ TWx := tw_t (tb_5 (List.mem_of_getElem? (i := 21) rfl)) rfl
theorem lk_L_156 : Cond.methodLink RL 156 yX10_row ∈ TWx := tw_t (tb_7 (List.mem_of_getElem? (i := 187) rfl)) rfl
theorem lk_L_159 : Cond.methodLink RL 159 yX9_put ∈ TWx := tw_t (tb_5 (List.mem_of_getElem? (i := 32) rfl)) rfl
theorem lk_L_163 : Cond.methodLink RL 163 yX10_put ∈ TWx := tw_t (tb_7 (List.mem_of_getElem? (i := 191) rfl)) rfl
theorem lk_L_164 : Cond.methodLink RL 164 yX9_element ∈ TWx := tw_t (tb_5 (List.mem_of_getElem? (i := 53) rfl)) rfl
theorem lk_L_168 : Cond.methodLink RL 168 yX10_element ∈ TWx := tw_t (tb_7 (List.mem_of_getElem? (i := 199) rfl)) rfl
theorem lk_L_169 : Cond.methodLink RL 169 yX9_shift ∈ TWx := tw_t (tb_5 (List.mem_of_getElem? (i := 58) rfl)) rfl
theorem lk_L_173 : Cond.methodLink RL 173 yX10_shift ∈ TWx := tw_t (tb_7 (List.mem_of_getElem? (i := 204) rfl)) rfl
theorem lk_L_174 : Cond.methodLink RL 174 yX9_taken ∈ TWx := tw_t (tb_5 (List.mem_of_getElem? (i := 63) rfl)) rfl
theorem lk_L_177 : Cond.methodLink RL 177 yX10_taken ∈ TWx := tw_t (tb_7 (List.mem_of_getElem? (i := 208) rfl)) rfl
theorem lk_L_178 : Cond.methodLink RL 178 yX9_count ∈ TWx := tw_t (tb_5 (List.mem_of_getElem? (i := 70) rfl)) rfl
theorem lk_L_181 : Cond.methodLink RL 181 yX10_count ∈ TWx := tw_t (tb_7 (List.mem_of_getElem? (i := 175) rfl)) rfl
theorem lk_X10_131 : Cond.methodLink RX10 131 yX10_in ∈ TWx := tw_t (tb_6 (List.mem_of_getElem? (i := 24) rfl)) rfl
theorem lk_X10_135 : Cond.methodLink RX10 135 yX10_isPlace ∈ TWx := tw_t (tb_6 (List.mem_of_getElem? (i := 38) rfl)) rfl
theorem lk_X10_139 : Cond.methodLink RX10 139 yX10_isShelf ∈ TWx := tw_t (tb_6 (List.mem_of_getElem? (i := 21) rfl)) rfl
theorem lk_X10_142 : Cond.methodLink RX10 142 yX10_isIn ∈ TWx := tw_t (tb_6 (List.mem_of_getElem? (i := 27) rfl)) rfl
theorem lk_X10_145 : Cond.methodLink RX10 145 yX10_rowFault ∈ TWx := tw_t (tb_6 (List.mem_of_getElem? (i := 30) rfl)) rfl
theorem lk_X10_149 : Cond.methodLink RX10 149 yX10_hasWay ∈ TWx := tw_t (tb_6 (List.mem_of_getElem? (i := 34) rfl)) rfl
theorem lk_X10_153 : Cond.methodLink RX10 153 yX10_addWay ∈ TWx := tw_t (tb_6 (List.mem_of_getElem? (i := 41) rfl)) rfl
theorem lk_X10_157 : Cond.methodLink RX10 157 yX10_isWalker ∈ TWx := tw_t (tb_6 (List.mem_of_getElem? (i := 49) rfl)) rfl
theorem lk_X10_160 : Cond.methodLink RX10 160 yX10_spotAt ∈ TWx := tw_t (tb_6 (List.mem_of_getElem? (i := 61) rfl)) rfl
theorem lk_X10_163 : Cond.methodLink RX10 163 yX10_valueAt ∈ TWx := tw_t (tb_6 (List.mem_of_getElem? (i := 83) rfl)) rfl
theorem lk_X10_173 : Cond.methodLink RX10 173 yX10_lays ∈ TWx := tw_t (tb_6 (List.mem_of_getElem? (i := 57) rfl)) rfl
theorem lk_X10_177 : Cond.methodLink RX10 177 yX10_isOne ∈ TWx := tw_t (tb_6 (List.mem_of_getElem? (i := 72) rfl)) rfl
theorem lk_X10_180 : Cond.methodLink RX10 180 yX10_mayBe ∈ TWx := tw_t (tb_6 (List.mem_of_getElem? (i := 76) rfl)) rfl
theorem lk_X10_183 : Cond.methodLink RX10 183 yX10_changes ∈ TWx := tw_t (tb_6 (List.mem_of_getElem? (i := 79) rfl)) rfl
theorem lk_X10_186 : Cond.methodLink RX10 186 yX10_isWay ∈ TWx := tw_t (tb_6 (List.mem_of_getElem? (i := 95) rfl)) rfl
theorem lk_X10_204 : Cond.methodLink RX10 204 yX10_faulty ∈ TWx := tw_t (tb_6 (List.mem_of_getElem? (i := 154) rfl)) rfl
theorem lk_X10_207 : Cond.methodLink RX10 207 yX10_looksOn ∈ TWx := tw_t (tb_6 (List.mem_of_getElem? (i := 139) rfl)) rfl
theorem lk_X10_211 : Cond.methodLink RX10 211 yX10_addStep ∈ TWx := tw_t (tb_6 (List.mem_of_getElem? (i := 146) rfl)) rfl
theorem lk_X10_215 : Cond.methodLink RX10 215 yX10_nameOf ∈ TWx := tw_t (tb_6 (List.mem_of_getElem? (i := 143) rfl)) rfl
theorem lk_X10_218 : Cond.methodLink RX10 218 yX10_opens ∈ TWx := tw_t (tb_6 (List.mem_of_getElem? (i := 150) rfl)) rfl
theorem lk_X10_222 : Cond.methodLink RX10 222 yX10_operand ∈ TWx := tw_t (tb_6 (List.mem_of_getElem? (i := 135) rfl)) rfl
theorem lk_X10_225 : Cond.methodLink RX10 225 yX10_either ∈ TWx := tw_t (tb_6 (List.mem_of_getElem? (i := 115) rfl)) rfl
theorem lk_X10_228 : Cond.methodLink RX10 228 yX10_figure ∈ TWx := tw_t (tb_6 (List.mem_of_getElem? (i := 158) rfl)) rfl
theorem lk_X10_231 : Cond.methodLink RX10 231 yX10_product ∈ TWx := tw_t (tb_6 (List.mem_of_getElem? (i := 131) rfl)) rfl
theorem lk_X10_234 : Cond.methodLink RX10 234 yX10_sum ∈ TWx := tw_t (tb_6 (List.mem_of_getElem? (i := 127) rfl)) rfl
theorem lk_X10_237 : Cond.methodLink RX10 237 yX10_compared ∈ TWx := tw_t (tb_6 (List.mem_of_getElem? (i := 123) rfl)) rfl
theorem lk_X10_240 : Cond.methodLink RX10 240 yX10_both ∈ TWx := tw_t (tb_6 (List.mem_of_getElem? (i := 119) rfl)) rfl
theorem lk_X10_243 : Cond.methodLink RX10 243 yX10_line ∈ TWx := tw_t (tb_6 (List.mem_of_getElem? (i := 111) rfl)) rfl
theorem lk_X10_246 : Cond.methodLink RX10 246 yX10_twoOf ∈ TWx := tw_t (tb_6 (List.mem_of_getElem? (i := 197) rfl)) rfl
theorem lk_X10_249 : Cond.methodLink RX10 249 yX10_worked ∈ TWx := tw_t (tb_6 (List.mem_of_getElem? (i := 193) rfl)) rfl
theorem lk_X10_252 : Cond.methodLink RX10 252 yX10_readText ∈ TWx := tw_t (tb_6 (List.mem_of_getElem? (i := 107) rfl)) rfl
theorem lk_X10_259 : Cond.methodLink RX10 259 yX10_wayIn ∈ TWx := tw_t (tb_6 (List.mem_of_getElem? (i := 212) rfl)) rfl
theorem lk_X10_262 : Cond.methodLink RX10 262 yX10_bitsOf ∈ TWx := tw_t (tb_6 (List.mem_of_getElem? (i := 186) rfl)) rfl
theorem lk_X10_265 : Cond.methodLink RX10 265 yX10_gives ∈ TWx := tw_t (tb_6 (List.mem_of_getElem? (i := 189) rfl)) rfl
theorem lk_X10_268 : Cond.methodLink RX10 268 yX10_remainder ∈ TWx := tw_t (tb_6 (List.mem_of_getElem? (i := 200) rfl)) rfl
theorem lk_X10_271 : Cond.methodLink RX10 271 yX10_findMinutes ∈ TWx := tw_t (tb_6 (List.mem_of_getElem? (i := 174) rfl)) rfl
theorem lk_X10_280 : Cond.methodLink RX10 280 yX10_hasTracks ∈ TWx := tw_t (tb_6 (List.mem_of_getElem? (i := 178) rfl)) rfl
theorem lk_X10_287 : Cond.methodLink RX10 287 yX10_lawTakes ∈ TWx := tw_t (tb_6 (List.mem_of_getElem? (i := 182) rfl)) rfl
theorem lk_X10_290 : Cond.methodLink RX10 290 yX10_isDay ∈ TWx := tw_t (tb_6 (List.mem_of_getElem? (i := 208) rfl)) rfl
theorem lk_X10_293 : Cond.methodLink RX10 293 yX10_takesOn ∈ TWx := tw_t (tb_6 (List.mem_of_getElem? (i := 215) rfl)) rfl
theorem lk_X10_296 : Cond.methodLink RX10 296 yX10_findSights ∈ TWx := tw_t (tb_6 (List.mem_of_getElem? (i := 170) rfl)) rfl
theorem lk_X10_302 : Cond.methodLink RX10 302 yX10_holdsOn ∈ TWx := tw_t (tb_6 (List.mem_of_getElem? (i := 204) rfl)) rfl
theorem lk_X10_305 : Cond.methodLink RX10 305 yX10_findHeld ∈ TWx := tw_t (tb_6 (List.mem_of_getElem? (i := 166) rfl)) rfl
theorem lk_X10_308 : Cond.methodLink RX10 308 yX10_besideOn ∈ TWx := tw_t (tb_6 (List.mem_of_getElem? (i := 223) rfl)) rfl
theorem lk_X10_311 : Cond.methodLink RX10 311 yX10_placeIn ∈ TWx := tw_t (tb_6 (List.mem_of_getElem? (i := 231) rfl)) rfl
theorem lk_X10_314 : Cond.methodLink RX10 314 yX10_seesOn ∈ TWx := tw_t (tb_6 (List.mem_of_getElem? (i := 239) rfl)) rfl
theorem lk_X10_323 : Cond.methodLink RX10 323 yX10_findMet ∈ TWx := tw_t (tb_7 (List.mem_of_getElem? (i := 11) rfl)) rfl
theorem lk_X10_327 : Cond.methodLink RX10 327 yX10_nextOf ∈ TWx := tw_t (tb_7 (List.mem_of_getElem? (i := 23) rfl)) rfl
theorem lk_X10_333 : Cond.methodLink RX10 333 yX10_readFault ∈ TWx := tw_t (tb_7 (List.mem_of_getElem? (i := 31) rfl)) rfl
theorem lk_X10_336 : Cond.methodLink RX10 336 yX10_findFit ∈ TWx := tw_t (tb_7 (List.mem_of_getElem? (i := 35) rfl)) rfl
theorem lk_X10_339 : Cond.methodLink RX10 339 yX10_mostAlike ∈ TWx := tw_t (tb_7 (List.mem_of_getElem? (i := 43) rfl)) rfl
theorem lk_X10_342 : Cond.methodLink RX10 342 yX10_isEverIn ∈ TWx := tw_t (tb_7 (List.mem_of_getElem? (i := 51) rfl)) rfl
theorem lk_X10_345 : Cond.methodLink RX10 345 yX10_daysWith ∈ TWx := tw_t (tb_7 (List.mem_of_getElem? (i := 59) rfl)) rfl
theorem lk_X10_348 : Cond.methodLink RX10 348 yX10_heldBy ∈ TWx := tw_t (tb_7 (List.mem_of_getElem? (i := 71) rfl)) rfl
theorem lk_X10_352 : Cond.methodLink RX10 352 yX10_lived ∈ TWx := tw_t (tb_7 (List.mem_of_getElem? (i := 88) rfl)) rfl
theorem lk_X10_364 : Cond.methodLink RX10 364 yX10_ran ∈ TWx := tw_t (tb_7 (List.mem_of_getElem? (i := 131) rfl)) rfl
theorem lk_X10_367 : Cond.methodLink RX10 367 yX10_plainLeads ∈ TWx := tw_t (tb_7 (List.mem_of_getElem? (i := 135) rfl)) rfl
theorem lk_X10_370 : Cond.methodLink RX10 370 yX10_isUnder ∈ TWx := tw_t (tb_7 (List.mem_of_getElem? (i := 128) rfl)) rfl
theorem lk_X10_373 : Cond.methodLink RX10 373 yX10_dancedLeads ∈ TWx := tw_t (tb_7 (List.mem_of_getElem? (i := 139) rfl)) rfl
theorem lk_X10_376 : Cond.methodLink RX10 376 yX10_leading ∈ TWx := tw_t (tb_7 (List.mem_of_getElem? (i := 124) rfl)) rfl
theorem lk_X10_379 : Cond.methodLink RX10 379 yX10_plainTreads ∈ TWx := tw_t (tb_7 (List.mem_of_getElem? (i := 151) rfl)) rfl
theorem lk_X10_382 : Cond.methodLink RX10 382 yX10_farTreads ∈ TWx := tw_t (tb_7 (List.mem_of_getElem? (i := 147) rfl)) rfl
theorem lk_X10_385 : Cond.methodLink RX10 385 yX10_reading ∈ TWx := tw_t (tb_7 (List.mem_of_getElem? (i := 155) rfl)) rfl
theorem lk_X10_388 : Cond.methodLink RX10 388 yX10_plainReads ∈ TWx := tw_t (tb_7 (List.mem_of_getElem? (i := 163) rfl)) rfl
theorem lk_X10_391 : Cond.methodLink RX10 391 yX10_besideReads ∈ TWx := tw_t (tb_7 (List.mem_of_getElem? (i := 159) rfl)) rfl
theorem lk_X10_394 : Cond.methodLink RX10 394 yX10_treading ∈ TWx := tw_t (tb_7 (List.mem_of_getElem? (i := 143) rfl)) rfl
theorem lk_X10_397 : Cond.methodLink RX10 397 yX10_plainTells ∈ TWx := tw_t (tb_7 (List.mem_of_getElem? (i := 171) rfl)) rfl
theorem lk_X10_400 : Cond.methodLink RX10 400 yX10_isBody ∈ TWx := tw_t (tb_7 (List.mem_of_getElem? (i := 120) rfl)) rfl
theorem lk_X10_403 : Cond.methodLink RX10 403 yX10_telling ∈ TWx := tw_t (tb_7 (List.mem_of_getElem? (i := 167) rfl)) rfl
theorem lk_X10_406 : Cond.methodLink RX10 406 yX10_allWays ∈ TWx := tw_t (tb_7 (List.mem_of_getElem? (i := 179) rfl)) rfl
theorem lk_X10_409 : Cond.methodLink RX10 409 yX10_whyNoPlace ∈ TWx := tw_t (tb_7 (List.mem_of_getElem? (i := 195) rfl)) rfl
theorem ct_X9_316 : Cond.constantLong RX9 316 (-9223372036854775808) ∈ TWx := tw_t (tb_5 (List.mem_of_getElem? (i := 57) rfl)) rfl
theorem ct_X6_39 : Cond.constantLong RX6 39 (8) ∈ TWx := tw_t (tb_2 (List.mem_of_getElem? (i := 95) rfl)) rfl
theorem ct_X7_84 : Cond.constant RX7 84 (1103515245) ∈ TWx := tw_t (tb_4 (List.mem_of_getElem? (i := 123) rfl)) rfl
theorem ct_L_157 : Cond.constantLong RL 157 (4294967295) ∈ TWx := tw_t (tb_7 (List.mem_of_getElem? (i := 212) rfl)) rfl
theorem ct_X10_351 : Cond.constant RX10 351 (1103515245) ∈ TWx := tw_t (tb_7 (List.mem_of_getElem? (i := 83) rfl)) rfl
theorem ct_X10_414 : Cond.constantLong RX10 414 (-9223372036854775808) ∈ TWx := tw_t (tb_7 (List.mem_of_getElem? (i := 203) rfl)) rfl
theorem ct_J6_265 : Cond.constant RJ6 265 (1431655765) ∈ TWx := tw_t (tb_3 (List.mem_of_getElem? (i := 76) rfl)) rfl
theorem ct_J6_266 : Cond.constant RJ6 266 (858993459) ∈ TWx := tw_t (tb_3 (List.mem_of_getElem? (i := 77) rfl)) rfl
theorem ct_J6_267 : Cond.constant RJ6 267 (252645135) ∈ TWx := tw_t (tb_3 (List.mem_of_getElem? (i := 78) rfl)) rfl
theorem cw_J6_bitCount_0f7a4 : CSx yJ6_bitCount_0f7a4 cJ6_bitCount_0f7a4 1 (some .int) 1 := ⟨tw_t (tb_3 (List.mem_of_getElem? (i := 74) rfl)) rfl, tw_t (tb_1 (List.mem_of_getElem? (i := 15) rfl)) rfl, tw_t (tb_3 (List.mem_of_getElem? (i := 75) rfl)) rfl, by decide +kernel, by decide +kernel, by decide +kernel⟩
theorem cw_J7_fill_53178 : CSx yJ7_fill_53178 cJ7_fill_53178 4 none 2 := ⟨tw_t (tb_1 (List.mem_of_getElem? (i := 33) rfl)) rfl, tw_t (tb_1 (List.mem_of_getElem? (i := 3) rfl)) rfl, tw_t (tb_1 (List.mem_of_getElem? (i := 34) rfl)) rfl, by decide +kernel, by decide +kernel, by decide +kernel⟩
theorem cw_J7_fill_d0a16 : CSx yJ7_fill_d0a16 cJ7_fill_d0a16 5 none 2 := ⟨tw_t (tb_5 (List.mem_of_getElem? (i := 30) rfl)) rfl, tw_t (tb_1 (List.mem_of_getElem? (i := 3) rfl)) rfl, tw_t (tb_5 (List.mem_of_getElem? (i := 31) rfl)) rfl, by decide +kernel, by decide +kernel, by decide +kernel⟩
theorem cw_J9_floorMod_7cf53 : CSx yJ9_floorMod_7cf53 cJ9_floorMod_7cf53 3 (some .int) 2 := ⟨tw_t (tb_3 (List.mem_of_getElem? (i := 101) rfl)) rfl, tw_t (tb_1 (List.mem_of_getElem? (i := 14) rfl)) rfl, tw_t (tb_3 (List.mem_of_getElem? (i := 102) rfl)) rfl, by decide +kernel, by decide +kernel, by decide +kernel⟩
theorem cw_J9_max_7cf53 : CSx yJ9_max_7cf53 cJ9_max_7cf53 2 (some .int) 2 := ⟨tw_t (tb_3 (List.mem_of_getElem? (i := 59) rfl)) rfl, tw_t (tb_1 (List.mem_of_getElem? (i := 14) rfl)) rfl, tw_t (tb_3 (List.mem_of_getElem? (i := 60) rfl)) rfl, by decide +kernel, by decide +kernel, by decide +kernel⟩
theorem cw_J9_min_7cf53 : CSx yJ9_min_7cf53 cJ9_min_7cf53 2 (some .int) 2 := ⟨tw_t (tb_4 (List.mem_of_getElem? (i := 14) rfl)) rfl, tw_t (tb_1 (List.mem_of_getElem? (i := 14) rfl)) rfl, tw_t (tb_4 (List.mem_of_getElem? (i := 15) rfl)) rfl, by decide +kernel, by decide +kernel, by decide +kernel⟩
theorem cw_X0_above : CSx yX0_above cX0_above 1 (some .int) 1 := ⟨tw_t (tb_4 (List.mem_of_getElem? (i := 220) rfl)) rfl, tw_t (tb_1 (List.mem_of_getElem? (i := 10) rfl)) rfl, tw_t (tb_4 (List.mem_of_getElem? (i := 221) rfl)) rfl, by decide +kernel, by decide +kernel, by decide +kernel⟩
theorem cw_X0_add : CVx yX0_add cX0_add 2 (some .int) 1 0 := ⟨⟨RX0, TX0, 6, rfl, rfl⟩, tw_t (tb_4 (List.mem_of_getElem? (i := 196) rfl)) rfl, tw_t (tb_4 (List.mem_of_getElem? (i := 197) rfl)) rfl, tw_t (tb_1 (List.mem_of_getElem? (i := 10) rfl)) rfl, tw_t (tb_4 (List.mem_of_getElem? (i := 198) rfl)) rfl, by decide +kernel, by decide +kernel, by decide +kernel⟩
theorem cw_X0_begin : CVx yX0_begin cX0_begin 2 none 1 0 := ⟨⟨RX0, TX0, 6, rfl, rfl⟩, tw_t (tb_4 (List.mem_of_getElem? (i := 217) rfl)) rfl, tw_of (tb_s (pv_3 (List.mem_of_getElem? (i := 1) rfl))) rfl, tw_t (tb_1 (List.mem_of_getElem? (i := 10) rfl)) rfl, tw_t (tb_4 (List.mem_of_getElem? (i := 218) rfl)) rfl, by decide +kernel, by decide +kernel, by decide +kernel⟩
theorem cw_X0_isThere : CVx yX0_isThere cX0_isThere 2 (some .boolean) 1 0 := ⟨⟨RX0, TX0, 6, rfl, rfl⟩, tw_t (tb_4 (List.mem_of_getElem? (i := 208) rfl)) rfl, tw_t (tb_4 (List.mem_of_getElem? (i := 209) rfl)) rfl, tw_t (tb_1 (List.mem_of_getElem? (i := 10) rfl)) rfl, tw_t (tb_4 (List.mem_of_getElem? (i := 210) rfl)) rfl, by decide +kernel, by decide +kernel, by decide +kernel⟩
theorem cw_X0_isUnder : CSx yX0_isUnder cX0_isUnder 4 (some .boolean) 2 := ⟨tw_t (tb_5 (List.mem_of_getElem? (i := 68) rfl)) rfl, tw_t (tb_1 (List.mem_of_getElem? (i := 10) rfl)) rfl, tw_t (tb_5 (List.mem_of_getElem? (i := 69) rfl)) rfl, by decide +kernel, by decide +kernel, by decide +kernel⟩
theorem cw_X0_kindOf : CVx yX0_kindOf cX0_kindOf 2 (some .int) 1 0 := ⟨⟨RX0, TX0, 6, rfl, rfl⟩, tw_t (tb_5 (List.mem_of_getElem? (i := 14) rfl)) rfl, tw_t (tb_5 (List.mem_of_getElem? (i := 15) rfl)) rfl, tw_t (tb_1 (List.mem_of_getElem? (i := 10) rfl)) rfl, tw_t (tb_5 (List.mem_of_getElem? (i := 16) rfl)) rfl, by decide +kernel, by decide +kernel, by decide +kernel⟩
theorem cw_X0_leads : CVx yX0_leads cX0_leads 4 (some .int) 3 0 := ⟨⟨RX0, TX0, 6, rfl, rfl⟩, tw_t (tb_4 (List.mem_of_getElem? (i := 213) rfl)) rfl, tw_of (tb_s (pv_3 (List.mem_of_getElem? (i := 0) rfl))) rfl, tw_t (tb_1 (List.mem_of_getElem? (i := 10) rfl)) rfl, tw_t (tb_4 (List.mem_of_getElem? (i := 214) rfl)) rfl, by decide +kernel, by decide +kernel, by decide +kernel⟩
theorem cw_X0_perform : CVx yX0_perform cX0_perform 4 (some .int) 3 0 := ⟨⟨RX0, TX0, 6, rfl, rfl⟩, tw_t (tb_4 (List.mem_of_getElem? (i := 204) rfl)) rfl, tw_t (tb_4 (List.mem_of_getElem? (i := 205) rfl)) rfl, tw_t (tb_1 (List.mem_of_getElem? (i := 10) rfl)) rfl, tw_t (tb_4 (List.mem_of_getElem? (i := 206) rfl)) rfl, by decide +kernel, by decide +kernel, by decide +kernel⟩
theorem cw_X0_ranAt : CVx yX0_ranAt cX0_ranAt 2 (some .int) 1 0 := ⟨⟨RX0, TX0, 6, rfl, rfl⟩, tw_t (tb_5 (List.mem_of_getElem? (i := 1) rfl)) rfl, tw_t (tb_5 (List.mem_of_getElem? (i := 2) rfl)) rfl, tw_t (tb_1 (List.mem_of_getElem? (i := 10) rfl)) rfl, tw_t (tb_5 (List.mem_of_getElem? (i := 3) rfl)) rfl, by decide +kernel, by decide +kernel, by decide +kernel⟩
theorem cw_X0_reads : CVx yX0_reads cX0_reads 5 (some .int) 3 0 := ⟨⟨RX0, TX0, 6, rfl, rfl⟩, tw_t (tb_4 (List.mem_of_getElem? (i := 230) rfl)) rfl, tw_of (tb_s (pv_3 (List.mem_of_getElem? (i := 3) rfl))) rfl, tw_t (tb_1 (List.mem_of_getElem? (i := 10) rfl)) rfl, tw_t (tb_4 (List.mem_of_getElem? (i := 231) rfl)) rfl, by decide +kernel, by decide +kernel, by decide +kernel⟩
theorem cw_X0_tells : CVx yX0_tells cX0_tells 5 (some .int) 3 0 := ⟨⟨RX0, TX0, 6, rfl, rfl⟩, tw_t (tb_4 (List.mem_of_getElem? (i := 234) rfl)) rfl, tw_of (tb_s (pv_3 (List.mem_of_getElem? (i := 4) rfl))) rfl, tw_t (tb_1 (List.mem_of_getElem? (i := 10) rfl)) rfl, tw_t (tb_4 (List.mem_of_getElem? (i := 235) rfl)) rfl, by decide +kernel, by decide +kernel, by decide +kernel⟩
theorem cw_X0_treads : CVx yX0_treads cX0_treads 5 (some .int) 3 0 := ⟨⟨RX0, TX0, 6, rfl, rfl⟩, tw_t (tb_4 (List.mem_of_getElem? (i := 226) rfl)) rfl, tw_of (tb_s (pv_3 (List.mem_of_getElem? (i := 2) rfl))) rfl, tw_t (tb_1 (List.mem_of_getElem? (i := 10) rfl)) rfl, tw_t (tb_4 (List.mem_of_getElem? (i := 227) rfl)) rfl, by decide +kernel, by decide +kernel, by decide +kernel⟩
theorem cw_X10_act : CVx yX10_act cX10_act 4 (some .int) 3 10 := ⟨⟨RX10, TX10, 57, rfl, rfl⟩, tw_t (tb_7 (List.mem_of_getElem? (i := 117) rfl)) rfl, tw_t (tb_7 (List.mem_of_getElem? (i := 118) rfl)) rfl, tw_t (tb_1 (List.mem_of_getElem? (i := 12) rfl)) rfl, tw_t (tb_7 (List.mem_of_getElem? (i := 119) rfl)) rfl, by decide +kernel, by decide +kernel, by decide +kernel⟩
theorem cw_X10_addStep : CVx yX10_addStep cX10_addStep 3 none 2 10 := ⟨⟨RX10, TX10, 57, rfl, rfl⟩, tw_t (tb_6 (List.mem_of_getElem? (i := 148) rfl)) rfl, tw_of (tb_s (pv_4 (List.mem_of_getElem? (i := 9) rfl))) rfl, tw_t (tb_1 (List.mem_of_getElem? (i := 12) rfl)) rfl, tw_t (tb_6 (List.mem_of_getElem? (i := 149) rfl)) rfl, by decide +kernel, by decide +kernel, by decide +kernel⟩
theorem cw_X10_addWay : CVx yX10_addWay cX10_addWay 6 (some .int) 3 10 := ⟨⟨RX10, TX10, 57, rfl, rfl⟩, tw_t (tb_6 (List.mem_of_getElem? (i := 43) rfl)) rfl, tw_of (tb_s (pv_3 (List.mem_of_getElem? (i := 9) rfl))) rfl, tw_t (tb_1 (List.mem_of_getElem? (i := 12) rfl)) rfl, tw_t (tb_6 (List.mem_of_getElem? (i := 44) rfl)) rfl, by decide +kernel, by decide +kernel, by decide +kernel⟩
theorem cw_X10_allWays : CVx yX10_allWays cX10_allWays 3 (some .int) 0 10 := ⟨⟨RX10, TX10, 57, rfl, rfl⟩, tw_t (tb_7 (List.mem_of_getElem? (i := 181) rfl)) rfl, tw_of (tb_s (pv_7 (List.mem_of_getElem? (i := 1) rfl))) rfl, tw_t (tb_1 (List.mem_of_getElem? (i := 12) rfl)) rfl, tw_t (tb_7 (List.mem_of_getElem? (i := 182) rfl)) rfl, by decide +kernel, by decide +kernel, by decide +kernel⟩
theorem cw_X10_back : CVx yX10_back cX10_back 2 (some .int) 0 10 := ⟨⟨RX10, TX10, 57, rfl, rfl⟩, tw_t (tb_7 (List.mem_of_getElem? (i := 105) rfl)) rfl, tw_t (tb_7 (List.mem_of_getElem? (i := 106) rfl)) rfl, tw_t (tb_1 (List.mem_of_getElem? (i := 12) rfl)) rfl, tw_t (tb_7 (List.mem_of_getElem? (i := 107) rfl)) rfl, by decide +kernel, by decide +kernel, by decide +kernel⟩
theorem cw_X10_besideOn : CVx yX10_besideOn cX10_besideOn 4 (some .int) 1 10 := ⟨⟨RX10, TX10, 57, rfl, rfl⟩, tw_t (tb_6 (List.mem_of_getElem? (i := 225) rfl)) rfl, tw_of (tb_s (pv_5 (List.mem_of_getElem? (i := 8) rfl))) rfl, tw_t (tb_1 (List.mem_of_getElem? (i := 12) rfl)) rfl, tw_t (tb_6 (List.mem_of_getElem? (i := 226) rfl)) rfl, by decide +kernel, by decide +kernel, by decide +kernel⟩
theorem cw_X10_besideReads : CVx yX10_besideReads cX10_besideReads 3 (some .int) 2 10 := ⟨⟨RX10, TX10, 57, rfl, rfl⟩, tw_t (tb_7 (List.mem_of_getElem? (i := 161) rfl)) rfl, tw_of (tb_s (pv_6 (List.mem_of_getElem? (i := 13) rfl))) rfl, tw_t (tb_1 (List.mem_of_getElem? (i := 12) rfl)) rfl, tw_t (tb_7 (List.mem_of_getElem? (i := 162) rfl)) rfl, by decide +kernel, by decide +kernel, by decide +kernel⟩
theorem cw_X10_bitsOf : CSx yX10_bitsOf cX10_bitsOf 3 (some .int) 1 := ⟨tw_t (tb_6 (List.mem_of_getElem? (i := 187) rfl)) rfl, tw_t (tb_1 (List.mem_of_getElem? (i := 12) rfl)) rfl, tw_t (tb_6 (List.mem_of_getElem? (i := 188) rfl)) rfl, by decide +kernel, by decide +kernel, by decide +kernel⟩
theorem cw_X10_body : CVx yX10_body cX10_body 2 (some .int) 1 10 := ⟨⟨RX10, TX10, 57, rfl, rfl⟩, tw_t (tb_7 (List.mem_of_getElem? (i := 113) rfl)) rfl, tw_t (tb_7 (List.mem_of_getElem? (i := 114) rfl)) rfl, tw_t (tb_1 (List.mem_of_getElem? (i := 12) rfl)) rfl, tw_t (tb_7 (List.mem_of_getElem? (i := 115) rfl)) rfl, by decide +kernel, by decide +kernel, by decide +kernel⟩
theorem cw_X10_both : CVx yX10_both cX10_both 1 none 0 10 := ⟨⟨RX10, TX10, 57, rfl, rfl⟩, tw_t (tb_6 (List.mem_of_getElem? (i := 121) rfl)) rfl, tw_of (tb_s (pv_4 (List.mem_of_getElem? (i := 3) rfl))) rfl, tw_t (tb_1 (List.mem_of_getElem? (i := 12) rfl)) rfl, tw_t (tb_6 (List.mem_of_getElem? (i := 122) rfl)) rfl, by decide +kernel, by decide +kernel, by decide +kernel⟩
theorem cw_X10_changes : CVx yX10_changes cX10_changes 6 (some .int) 3 10 := ⟨⟨RX10, TX10, 57, rfl, rfl⟩, tw_t (tb_6 (List.mem_of_getElem? (i := 81) rfl)) rfl, tw_of (tb_s (pv_3 (List.mem_of_getElem? (i := 13) rfl))) rfl, tw_t (tb_1 (List.mem_of_getElem? (i := 12) rfl)) rfl, tw_t (tb_6 (List.mem_of_getElem? (i := 82) rfl)) rfl, by decide +kernel, by decide +kernel, by decide +kernel⟩
theorem cw_X10_cheapest : CVx yX10_cheapest cX10_cheapest 8 (some .int) 3 10 := ⟨⟨RX10, TX10, 57, rfl, rfl⟩, tw_t (tb_7 (List.mem_of_getElem? (i := 48) rfl)) rfl, tw_t (tb_7 (List.mem_of_getElem? (i := 49) rfl)) rfl, tw_t (tb_1 (List.mem_of_getElem? (i := 12) rfl)) rfl, tw_t (tb_7 (List.mem_of_getElem? (i := 50) rfl)) rfl, by decide +kernel, by decide +kernel, by decide +kernel⟩
theorem cw_X10_compared : CVx yX10_compared cX10_compared 2 none 0 10 := ⟨⟨RX10, TX10, 57, rfl, rfl⟩, tw_t (tb_6 (List.mem_of_getElem? (i := 125) rfl)) rfl, tw_of (tb_s (pv_4 (List.mem_of_getElem? (i := 4) rfl))) rfl, tw_t (tb_1 (List.mem_of_getElem? (i := 12) rfl)) rfl, tw_t (tb_6 (List.mem_of_getElem? (i := 126) rfl)) rfl, by decide +kernel, by decide +kernel, by decide +kernel⟩
theorem cw_X10_count : CVx yX10_count cX10_count 2 (some .int) 1 10 := ⟨⟨RX10, TX10, 57, rfl, rfl⟩, tw_t (tb_7 (List.mem_of_getElem? (i := 176) rfl)) rfl, tw_t (tb_7 (List.mem_of_getElem? (i := 177) rfl)) rfl, tw_t (tb_1 (List.mem_of_getElem? (i := 12) rfl)) rfl, tw_t (tb_7 (List.mem_of_getElem? (i := 178) rfl)) rfl, by decide +kernel, by decide +kernel, by decide +kernel⟩
theorem cw_X10_dancedLeads : CVx yX10_dancedLeads cX10_dancedLeads 3 (some .int) 2 10 := ⟨⟨RX10, TX10, 57, rfl, rfl⟩, tw_t (tb_7 (List.mem_of_getElem? (i := 141) rfl)) rfl, tw_of (tb_s (pv_6 (List.mem_of_getElem? (i := 8) rfl))) rfl, tw_t (tb_1 (List.mem_of_getElem? (i := 12) rfl)) rfl, tw_t (tb_7 (List.mem_of_getElem? (i := 142) rfl)) rfl, by decide +kernel, by decide +kernel, by decide +kernel⟩
theorem cw_X10_day : CVx yX10_day cX10_day 3 (some .int) 2 10 := ⟨⟨RX10, TX10, 57, rfl, rfl⟩, tw_t (tb_6 (List.mem_of_getElem? (i := 220) rfl)) rfl, tw_t (tb_6 (List.mem_of_getElem? (i := 221) rfl)) rfl, tw_t (tb_1 (List.mem_of_getElem? (i := 12) rfl)) rfl, tw_t (tb_6 (List.mem_of_getElem? (i := 222) rfl)) rfl, by decide +kernel, by decide +kernel, by decide +kernel⟩
theorem cw_X10_daysWith : CVx yX10_daysWith cX10_daysWith 8 (some .int) 3 10 := ⟨⟨RX10, TX10, 57, rfl, rfl⟩, tw_t (tb_7 (List.mem_of_getElem? (i := 61) rfl)) rfl, tw_of (tb_s (pv_6 (List.mem_of_getElem? (i := 1) rfl))) rfl, tw_t (tb_1 (List.mem_of_getElem? (i := 12) rfl)) rfl, tw_t (tb_7 (List.mem_of_getElem? (i := 62) rfl)) rfl, by decide +kernel, by decide +kernel, by decide +kernel⟩
theorem cw_X10_drawn : CVx yX10_drawn cX10_drawn 9 (some .int) 3 10 := ⟨⟨RX10, TX10, 57, rfl, rfl⟩, tw_t (tb_7 (List.mem_of_getElem? (i := 80) rfl)) rfl, tw_t (tb_7 (List.mem_of_getElem? (i := 81) rfl)) rfl, tw_t (tb_1 (List.mem_of_getElem? (i := 12) rfl)) rfl, tw_t (tb_7 (List.mem_of_getElem? (i := 82) rfl)) rfl, by decide +kernel, by decide +kernel, by decide +kernel⟩
theorem cw_X10_either : CVx yX10_either cX10_either 1 none 0 10 := ⟨⟨RX10, TX10, 57, rfl, rfl⟩, tw_t (tb_6 (List.mem_of_getElem? (i := 117) rfl)) rfl, tw_of (tb_s (pv_4 (List.mem_of_getElem? (i := 2) rfl))) rfl, tw_t (tb_1 (List.mem_of_getElem? (i := 12) rfl)) rfl, tw_t (tb_6 (List.mem_of_getElem? (i := 118) rfl)) rfl, by decide +kernel, by decide +kernel, by decide +kernel⟩
theorem cw_X10_element : CVx yX10_element cX10_element 3 (some .long) 2 10 := ⟨⟨RX10, TX10, 57, rfl, rfl⟩, tw_t (tb_7 (List.mem_of_getElem? (i := 200) rfl)) rfl, tw_t (tb_7 (List.mem_of_getElem? (i := 201) rfl)) rfl, tw_t (tb_1 (List.mem_of_getElem? (i := 12) rfl)) rfl, tw_t (tb_7 (List.mem_of_getElem? (i := 202) rfl)) rfl, by decide +kernel, by decide +kernel, by decide +kernel⟩
theorem cw_X10_farTreads : CVx yX10_farTreads cX10_farTreads 3 (some .int) 2 10 := ⟨⟨RX10, TX10, 57, rfl, rfl⟩, tw_t (tb_7 (List.mem_of_getElem? (i := 149) rfl)) rfl, tw_of (tb_s (pv_6 (List.mem_of_getElem? (i := 10) rfl))) rfl, tw_t (tb_1 (List.mem_of_getElem? (i := 12) rfl)) rfl, tw_t (tb_7 (List.mem_of_getElem? (i := 150) rfl)) rfl, by decide +kernel, by decide +kernel, by decide +kernel⟩
theorem cw_X10_faulty : CVx yX10_faulty cX10_faulty 1 none 0 10 := ⟨⟨RX10, TX10, 57, rfl, rfl⟩, tw_t (tb_6 (List.mem_of_getElem? (i := 156) rfl)) rfl, tw_of (tb_s (pv_4 (List.mem_of_getElem? (i := 11) rfl))) rfl, tw_t (tb_1 (List.mem_of_getElem? (i := 12) rfl)) rfl, tw_t (tb_6 (List.mem_of_getElem? (i := 157) rfl)) rfl, by decide +kernel, by decide +kernel, by decide +kernel⟩
theorem cw_X10_feed : CVx yX10_feed cX10_feed 2 (some .int) 1 10 := ⟨⟨RX10, TX10, 57, rfl, rfl⟩, tw_t (tb_6 (List.mem_of_getElem? (i := 100) rfl)) rfl, tw_t (tb_6 (List.mem_of_getElem? (i := 101) rfl)) rfl, tw_t (tb_1 (List.mem_of_getElem? (i := 12) rfl)) rfl, tw_t (tb_6 (List.mem_of_getElem? (i := 102) rfl)) rfl, by decide +kernel, by decide +kernel, by decide +kernel⟩
theorem cw_X10_feigned : CVx yX10_feigned cX10_feigned 4 (some .int) 3 10 := ⟨⟨RX10, TX10, 57, rfl, rfl⟩, tw_t (tb_7 (List.mem_of_getElem? (i := 68) rfl)) rfl, tw_t (tb_7 (List.mem_of_getElem? (i := 69) rfl)) rfl, tw_t (tb_1 (List.mem_of_getElem? (i := 12) rfl)) rfl, tw_t (tb_7 (List.mem_of_getElem? (i := 70) rfl)) rfl, by decide +kernel, by decide +kernel, by decide +kernel⟩
theorem cw_X10_figure : CVx yX10_figure cX10_figure 3 none 0 10 := ⟨⟨RX10, TX10, 57, rfl, rfl⟩, tw_t (tb_6 (List.mem_of_getElem? (i := 160) rfl)) rfl, tw_of (tb_s (pv_4 (List.mem_of_getElem? (i := 12) rfl))) rfl, tw_t (tb_1 (List.mem_of_getElem? (i := 12) rfl)) rfl, tw_t (tb_6 (List.mem_of_getElem? (i := 161) rfl)) rfl, by decide +kernel, by decide +kernel, by decide +kernel⟩
theorem cw_X10_findFit : CVx yX10_findFit cX10_findFit 6 none 1 10 := ⟨⟨RX10, TX10, 57, rfl, rfl⟩, tw_t (tb_7 (List.mem_of_getElem? (i := 37) rfl)) rfl, tw_of (tb_s (pv_5 (List.mem_of_getElem? (i := 14) rfl))) rfl, tw_t (tb_1 (List.mem_of_getElem? (i := 12) rfl)) rfl, tw_t (tb_7 (List.mem_of_getElem? (i := 38) rfl)) rfl, by decide +kernel, by decide +kernel, by decide +kernel⟩
theorem cw_X10_findHeld : CVx yX10_findHeld cX10_findHeld 2 none 0 10 := ⟨⟨RX10, TX10, 57, rfl, rfl⟩, tw_t (tb_6 (List.mem_of_getElem? (i := 168) rfl)) rfl, tw_of (tb_s (pv_4 (List.mem_of_getElem? (i := 13) rfl))) rfl, tw_t (tb_1 (List.mem_of_getElem? (i := 12) rfl)) rfl, tw_t (tb_6 (List.mem_of_getElem? (i := 169) rfl)) rfl, by decide +kernel, by decide +kernel, by decide +kernel⟩
theorem cw_X10_findMet : CVx yX10_findMet cX10_findMet 7 none 1 10 := ⟨⟨RX10, TX10, 57, rfl, rfl⟩, tw_t (tb_7 (List.mem_of_getElem? (i := 13) rfl)) rfl, tw_of (tb_s (pv_5 (List.mem_of_getElem? (i := 11) rfl))) rfl, tw_t (tb_1 (List.mem_of_getElem? (i := 12) rfl)) rfl, tw_t (tb_7 (List.mem_of_getElem? (i := 14) rfl)) rfl, by decide +kernel, by decide +kernel, by decide +kernel⟩
theorem cw_X10_findMinutes : CVx yX10_findMinutes cX10_findMinutes 6 none 0 10 := ⟨⟨RX10, TX10, 57, rfl, rfl⟩, tw_t (tb_6 (List.mem_of_getElem? (i := 176) rfl)) rfl, tw_of (tb_s (pv_4 (List.mem_of_getElem? (i := 15) rfl))) rfl, tw_t (tb_1 (List.mem_of_getElem? (i := 12) rfl)) rfl, tw_t (tb_6 (List.mem_of_getElem? (i := 177) rfl)) rfl, by decide +kernel, by decide +kernel, by decide +kernel⟩
theorem cw_X10_findSights : CVx yX10_findSights cX10_findSights 8 none 0 10 := ⟨⟨RX10, TX10, 57, rfl, rfl⟩, tw_t (tb_6 (List.mem_of_getElem? (i := 172) rfl)) rfl, tw_of (tb_s (pv_4 (List.mem_of_getElem? (i := 14) rfl))) rfl, tw_t (tb_1 (List.mem_of_getElem? (i := 12) rfl)) rfl, tw_t (tb_6 (List.mem_of_getElem? (i := 173) rfl)) rfl, by decide +kernel, by decide +kernel, by decide +kernel⟩
theorem cw_X10_flood : CVx yX10_flood cX10_flood 4 (some .int) 3 10 := ⟨⟨RX10, TX10, 57, rfl, rfl⟩, tw_t (tb_7 (List.mem_of_getElem? (i := 76) rfl)) rfl, tw_t (tb_7 (List.mem_of_getElem? (i := 77) rfl)) rfl, tw_t (tb_1 (List.mem_of_getElem? (i := 12) rfl)) rfl, tw_t (tb_7 (List.mem_of_getElem? (i := 78) rfl)) rfl, by decide +kernel, by decide +kernel, by decide +kernel⟩
theorem cw_X10_follow : CVx yX10_follow cX10_follow 5 (some .int) 2 10 := ⟨⟨RX10, TX10, 57, rfl, rfl⟩, tw_t (tb_7 (List.mem_of_getElem? (i := 20) rfl)) rfl, tw_t (tb_7 (List.mem_of_getElem? (i := 21) rfl)) rfl, tw_t (tb_1 (List.mem_of_getElem? (i := 12) rfl)) rfl, tw_t (tb_7 (List.mem_of_getElem? (i := 22) rfl)) rfl, by decide +kernel, by decide +kernel, by decide +kernel⟩
theorem cw_X10_gives : CVx yX10_gives cX10_gives 4 (some .int) 1 10 := ⟨⟨RX10, TX10, 57, rfl, rfl⟩, tw_t (tb_6 (List.mem_of_getElem? (i := 191) rfl)) rfl, tw_of (tb_s (pv_5 (List.mem_of_getElem? (i := 2) rfl))) rfl, tw_t (tb_1 (List.mem_of_getElem? (i := 12) rfl)) rfl, tw_t (tb_6 (List.mem_of_getElem? (i := 192) rfl)) rfl, by decide +kernel, by decide +kernel, by decide +kernel⟩
theorem cw_X10_guard : CVx yX10_guard cX10_guard 8 (some .int) 2 10 := ⟨⟨RX10, TX10, 57, rfl, rfl⟩, tw_t (tb_7 (List.mem_of_getElem? (i := 56) rfl)) rfl, tw_t (tb_7 (List.mem_of_getElem? (i := 57) rfl)) rfl, tw_t (tb_1 (List.mem_of_getElem? (i := 12) rfl)) rfl, tw_t (tb_7 (List.mem_of_getElem? (i := 58) rfl)) rfl, by decide +kernel, by decide +kernel, by decide +kernel⟩
theorem cw_X10_hasTracks : CVx yX10_hasTracks cX10_hasTracks 7 (some .boolean) 4 10 := ⟨⟨RX10, TX10, 57, rfl, rfl⟩, tw_t (tb_6 (List.mem_of_getElem? (i := 180) rfl)) rfl, tw_of (tb_s (pv_5 (List.mem_of_getElem? (i := 0) rfl))) rfl, tw_t (tb_1 (List.mem_of_getElem? (i := 12) rfl)) rfl, tw_t (tb_6 (List.mem_of_getElem? (i := 181) rfl)) rfl, by decide +kernel, by decide +kernel, by decide +kernel⟩
theorem cw_X10_hasWay : CVx yX10_hasWay cX10_hasWay 4 (some .boolean) 2 10 := ⟨⟨RX10, TX10, 57, rfl, rfl⟩, tw_t (tb_6 (List.mem_of_getElem? (i := 36) rfl)) rfl, tw_of (tb_s (pv_3 (List.mem_of_getElem? (i := 8) rfl))) rfl, tw_t (tb_1 (List.mem_of_getElem? (i := 12) rfl)) rfl, tw_t (tb_6 (List.mem_of_getElem? (i := 37) rfl)) rfl, by decide +kernel, by decide +kernel, by decide +kernel⟩
theorem cw_X10_heldBy : CVx yX10_heldBy cX10_heldBy 2 (some .int) 1 10 := ⟨⟨RX10, TX10, 57, rfl, rfl⟩, tw_t (tb_7 (List.mem_of_getElem? (i := 73) rfl)) rfl, tw_of (tb_s (pv_6 (List.mem_of_getElem? (i := 2) rfl))) rfl, tw_t (tb_1 (List.mem_of_getElem? (i := 12) rfl)) rfl, tw_t (tb_7 (List.mem_of_getElem? (i := 74) rfl)) rfl, by decide +kernel, by decide +kernel, by decide +kernel⟩
theorem cw_X10_holding : CVx yX10_holding cX10_holding 2 (some .int) 1 10 := ⟨⟨RX10, TX10, 57, rfl, rfl⟩, tw_t (tb_6 (List.mem_of_getElem? (i := 163) rfl)) rfl, tw_t (tb_6 (List.mem_of_getElem? (i := 164) rfl)) rfl, tw_t (tb_1 (List.mem_of_getElem? (i := 12) rfl)) rfl, tw_t (tb_6 (List.mem_of_getElem? (i := 165) rfl)) rfl, by decide +kernel, by decide +kernel, by decide +kernel⟩
theorem cw_X10_holdsOn : CVx yX10_holdsOn cX10_holdsOn 3 (some .boolean) 1 10 := ⟨⟨RX10, TX10, 57, rfl, rfl⟩, tw_t (tb_6 (List.mem_of_getElem? (i := 206) rfl)) rfl, tw_of (tb_s (pv_5 (List.mem_of_getElem? (i := 5) rfl))) rfl, tw_t (tb_1 (List.mem_of_getElem? (i := 12) rfl)) rfl, tw_t (tb_6 (List.mem_of_getElem? (i := 207) rfl)) rfl, by decide +kernel, by decide +kernel, by decide +kernel⟩
theorem cw_X10_image : CVx yX10_image cX10_image 2 (some .int) 0 10 := ⟨⟨RX10, TX10, 57, rfl, rfl⟩, tw_t (tb_7 (List.mem_of_getElem? (i := 101) rfl)) rfl, tw_t (tb_7 (List.mem_of_getElem? (i := 102) rfl)) rfl, tw_t (tb_1 (List.mem_of_getElem? (i := 12) rfl)) rfl, tw_t (tb_7 (List.mem_of_getElem? (i := 103) rfl)) rfl, by decide +kernel, by decide +kernel, by decide +kernel⟩
theorem cw_X10_in : CSx yX10_in cX10_in 3 (some .boolean) 3 := ⟨tw_t (tb_6 (List.mem_of_getElem? (i := 25) rfl)) rfl, tw_t (tb_1 (List.mem_of_getElem? (i := 12) rfl)) rfl, tw_t (tb_6 (List.mem_of_getElem? (i := 26) rfl)) rfl, by decide +kernel, by decide +kernel, by decide +kernel⟩
theorem cw_X10_isBody : CVx yX10_isBody cX10_isBody 2 (some .boolean) 1 10 := ⟨⟨RX10, TX10, 57, rfl, rfl⟩, tw_t (tb_7 (List.mem_of_getElem? (i := 122) rfl)) rfl, tw_of (tb_s (pv_6 (List.mem_of_getElem? (i := 4) rfl))) rfl, tw_t (tb_1 (List.mem_of_getElem? (i := 12) rfl)) rfl, tw_t (tb_7 (List.mem_of_getElem? (i := 123) rfl)) rfl, by decide +kernel, by decide +kernel, by decide +kernel⟩
theorem cw_X10_isDay : CVx yX10_isDay cX10_isDay 3 (some .boolean) 1 10 := ⟨⟨RX10, TX10, 57, rfl, rfl⟩, tw_t (tb_6 (List.mem_of_getElem? (i := 210) rfl)) rfl, tw_of (tb_s (pv_5 (List.mem_of_getElem? (i := 6) rfl))) rfl, tw_t (tb_1 (List.mem_of_getElem? (i := 12) rfl)) rfl, tw_t (tb_6 (List.mem_of_getElem? (i := 211) rfl)) rfl, by decide +kernel, by decide +kernel, by decide +kernel⟩
theorem cw_X10_isEverIn : CVx yX10_isEverIn cX10_isEverIn 5 (some .boolean) 3 10 := ⟨⟨RX10, TX10, 57, rfl, rfl⟩, tw_t (tb_7 (List.mem_of_getElem? (i := 53) rfl)) rfl, tw_of (tb_s (pv_6 (List.mem_of_getElem? (i := 0) rfl))) rfl, tw_t (tb_1 (List.mem_of_getElem? (i := 12) rfl)) rfl, tw_t (tb_7 (List.mem_of_getElem? (i := 54) rfl)) rfl, by decide +kernel, by decide +kernel, by decide +kernel⟩
theorem cw_X10_isIn : CSx yX10_isIn cX10_isIn 1 (some .boolean) 1 := ⟨tw_t (tb_6 (List.mem_of_getElem? (i := 28) rfl)) rfl, tw_t (tb_1 (List.mem_of_getElem? (i := 12) rfl)) rfl, tw_t (tb_6 (List.mem_of_getElem? (i := 29) rfl)) rfl, by decide +kernel, by decide +kernel, by decide +kernel⟩
theorem cw_X10_isOne : CVx yX10_isOne cX10_isOne 3 (some .boolean) 2 10 := ⟨⟨RX10, TX10, 57, rfl, rfl⟩, tw_t (tb_6 (List.mem_of_getElem? (i := 74) rfl)) rfl, tw_of (tb_s (pv_3 (List.mem_of_getElem? (i := 12) rfl))) rfl, tw_t (tb_1 (List.mem_of_getElem? (i := 12) rfl)) rfl, tw_t (tb_6 (List.mem_of_getElem? (i := 75) rfl)) rfl, by decide +kernel, by decide +kernel, by decide +kernel⟩
theorem cw_X10_isPlace : CSx yX10_isPlace cX10_isPlace 1 (some .boolean) 1 := ⟨tw_t (tb_6 (List.mem_of_getElem? (i := 39) rfl)) rfl, tw_t (tb_1 (List.mem_of_getElem? (i := 12) rfl)) rfl, tw_t (tb_6 (List.mem_of_getElem? (i := 40) rfl)) rfl, by decide +kernel, by decide +kernel, by decide +kernel⟩
theorem cw_X10_isShelf : CSx yX10_isShelf cX10_isShelf 1 (some .boolean) 1 := ⟨tw_t (tb_6 (List.mem_of_getElem? (i := 22) rfl)) rfl, tw_t (tb_1 (List.mem_of_getElem? (i := 12) rfl)) rfl, tw_t (tb_6 (List.mem_of_getElem? (i := 23) rfl)) rfl, by decide +kernel, by decide +kernel, by decide +kernel⟩
theorem cw_X10_isUnder : CSx yX10_isUnder cX10_isUnder 2 (some .boolean) 2 := ⟨tw_t (tb_7 (List.mem_of_getElem? (i := 129) rfl)) rfl, tw_t (tb_1 (List.mem_of_getElem? (i := 12) rfl)) rfl, tw_t (tb_7 (List.mem_of_getElem? (i := 130) rfl)) rfl, by decide +kernel, by decide +kernel, by decide +kernel⟩
theorem cw_X10_isWalker : CVx yX10_isWalker cX10_isWalker 2 (some .boolean) 1 10 := ⟨⟨RX10, TX10, 57, rfl, rfl⟩, tw_t (tb_6 (List.mem_of_getElem? (i := 51) rfl)) rfl, tw_of (tb_s (pv_3 (List.mem_of_getElem? (i := 10) rfl))) rfl, tw_t (tb_1 (List.mem_of_getElem? (i := 12) rfl)) rfl, tw_t (tb_6 (List.mem_of_getElem? (i := 52) rfl)) rfl, by decide +kernel, by decide +kernel, by decide +kernel⟩
theorem cw_X10_isWay : CVx yX10_isWay cX10_isWay 3 (some .boolean) 2 10 := ⟨⟨RX10, TX10, 57, rfl, rfl⟩, tw_t (tb_6 (List.mem_of_getElem? (i := 97) rfl)) rfl, tw_of (tb_s (pv_3 (List.mem_of_getElem? (i := 15) rfl))) rfl, tw_t (tb_1 (List.mem_of_getElem? (i := 12) rfl)) rfl, tw_t (tb_6 (List.mem_of_getElem? (i := 98) rfl)) rfl, by decide +kernel, by decide +kernel, by decide +kernel⟩
theorem cw_X10_keep : CVx yX10_keep cX10_keep 3 (some .int) 2 10 := ⟨⟨RX10, TX10, 57, rfl, rfl⟩, tw_t (tb_7 (List.mem_of_getElem? (i := 184) rfl)) rfl, tw_t (tb_7 (List.mem_of_getElem? (i := 185) rfl)) rfl, tw_t (tb_1 (List.mem_of_getElem? (i := 12) rfl)) rfl, tw_t (tb_7 (List.mem_of_getElem? (i := 186) rfl)) rfl, by decide +kernel, by decide +kernel, by decide +kernel⟩
theorem cw_X10_law : CVx yX10_law cX10_law 2 (some .int) 0 10 := ⟨⟨RX10, TX10, 57, rfl, rfl⟩, tw_t (tb_6 (List.mem_of_getElem? (i := 104) rfl)) rfl, tw_t (tb_6 (List.mem_of_getElem? (i := 105) rfl)) rfl, tw_t (tb_1 (List.mem_of_getElem? (i := 12) rfl)) rfl, tw_t (tb_6 (List.mem_of_getElem? (i := 106) rfl)) rfl, by decide +kernel, by decide +kernel, by decide +kernel⟩
theorem cw_X10_lawTakes : CVx yX10_lawTakes cX10_lawTakes 4 (some .int) 2 10 := ⟨⟨RX10, TX10, 57, rfl, rfl⟩, tw_t (tb_6 (List.mem_of_getElem? (i := 184) rfl)) rfl, tw_of (tb_s (pv_5 (List.mem_of_getElem? (i := 1) rfl))) rfl, tw_t (tb_1 (List.mem_of_getElem? (i := 12) rfl)) rfl, tw_t (tb_6 (List.mem_of_getElem? (i := 185) rfl)) rfl, by decide +kernel, by decide +kernel, by decide +kernel⟩
theorem cw_X10_lays : CVx yX10_lays cX10_lays 4 none 3 10 := ⟨⟨RX10, TX10, 57, rfl, rfl⟩, tw_t (tb_6 (List.mem_of_getElem? (i := 59) rfl)) rfl, tw_of (tb_s (pv_3 (List.mem_of_getElem? (i := 11) rfl))) rfl, tw_t (tb_1 (List.mem_of_getElem? (i := 12) rfl)) rfl, tw_t (tb_6 (List.mem_of_getElem? (i := 60) rfl)) rfl, by decide +kernel, by decide +kernel, by decide +kernel⟩
theorem cw_X10_leading : CVx yX10_leading cX10_leading 3 (some .int) 2 10 := ⟨⟨RX10, TX10, 57, rfl, rfl⟩, tw_t (tb_7 (List.mem_of_getElem? (i := 126) rfl)) rfl, tw_of (tb_s (pv_6 (List.mem_of_getElem? (i := 5) rfl))) rfl, tw_t (tb_1 (List.mem_of_getElem? (i := 12) rfl)) rfl, tw_t (tb_7 (List.mem_of_getElem? (i := 127) rfl)) rfl, by decide +kernel, by decide +kernel, by decide +kernel⟩
theorem cw_X10_led : CVx yX10_led cX10_led 2 (some .int) 1 10 := ⟨⟨RX10, TX10, 57, rfl, rfl⟩, tw_t (tb_7 (List.mem_of_getElem? (i := 97) rfl)) rfl, tw_t (tb_7 (List.mem_of_getElem? (i := 98) rfl)) rfl, tw_t (tb_1 (List.mem_of_getElem? (i := 12) rfl)) rfl, tw_t (tb_7 (List.mem_of_getElem? (i := 99) rfl)) rfl, by decide +kernel, by decide +kernel, by decide +kernel⟩
theorem cw_X10_line : CVx yX10_line cX10_line 2 none 0 10 := ⟨⟨RX10, TX10, 57, rfl, rfl⟩, tw_t (tb_6 (List.mem_of_getElem? (i := 113) rfl)) rfl, tw_of (tb_s (pv_4 (List.mem_of_getElem? (i := 1) rfl))) rfl, tw_t (tb_1 (List.mem_of_getElem? (i := 12) rfl)) rfl, tw_t (tb_6 (List.mem_of_getElem? (i := 114) rfl)) rfl, by decide +kernel, by decide +kernel, by decide +kernel⟩
theorem cw_X10_live : CVx yX10_live cX10_live 2 (some .int) 1 10 := ⟨⟨RX10, TX10, 57, rfl, rfl⟩, tw_t (tb_7 (List.mem_of_getElem? (i := 85) rfl)) rfl, tw_t (tb_7 (List.mem_of_getElem? (i := 86) rfl)) rfl, tw_t (tb_1 (List.mem_of_getElem? (i := 12) rfl)) rfl, tw_t (tb_7 (List.mem_of_getElem? (i := 87) rfl)) rfl, by decide +kernel, by decide +kernel, by decide +kernel⟩
theorem cw_X10_lived : CVx yX10_lived cX10_lived 2 none 1 10 := ⟨⟨RX10, TX10, 57, rfl, rfl⟩, tw_t (tb_7 (List.mem_of_getElem? (i := 90) rfl)) rfl, tw_of (tb_s (pv_6 (List.mem_of_getElem? (i := 3) rfl))) rfl, tw_t (tb_1 (List.mem_of_getElem? (i := 12) rfl)) rfl, tw_t (tb_7 (List.mem_of_getElem? (i := 91) rfl)) rfl, by decide +kernel, by decide +kernel, by decide +kernel⟩
theorem cw_X10_look : CVx yX10_look cX10_look 7 (some .int) 1 10 := ⟨⟨RX10, TX10, 57, rfl, rfl⟩, tw_t (tb_7 (List.mem_of_getElem? (i := 40) rfl)) rfl, tw_t (tb_7 (List.mem_of_getElem? (i := 41) rfl)) rfl, tw_t (tb_1 (List.mem_of_getElem? (i := 12) rfl)) rfl, tw_t (tb_7 (List.mem_of_getElem? (i := 42) rfl)) rfl, by decide +kernel, by decide +kernel, by decide +kernel⟩
theorem cw_X10_looksOn : CVx yX10_looksOn cX10_looksOn 1 (some .int) 0 10 := ⟨⟨RX10, TX10, 57, rfl, rfl⟩, tw_t (tb_6 (List.mem_of_getElem? (i := 141) rfl)) rfl, tw_of (tb_s (pv_4 (List.mem_of_getElem? (i := 8) rfl))) rfl, tw_t (tb_1 (List.mem_of_getElem? (i := 12) rfl)) rfl, tw_t (tb_6 (List.mem_of_getElem? (i := 142) rfl)) rfl, by decide +kernel, by decide +kernel, by decide +kernel⟩
theorem cw_X10_mayBe : CSx yX10_mayBe cX10_mayBe 2 (some .boolean) 2 := ⟨tw_t (tb_6 (List.mem_of_getElem? (i := 77) rfl)) rfl, tw_t (tb_1 (List.mem_of_getElem? (i := 12) rfl)) rfl, tw_t (tb_6 (List.mem_of_getElem? (i := 78) rfl)) rfl, by decide +kernel, by decide +kernel, by decide +kernel⟩
theorem cw_X10_meet : CVx yX10_meet cX10_meet 3 (some .int) 2 10 := ⟨⟨RX10, TX10, 57, rfl, rfl⟩, tw_t (tb_7 (List.mem_of_getElem? (i := 8) rfl)) rfl, tw_t (tb_7 (List.mem_of_getElem? (i := 9) rfl)) rfl, tw_t (tb_1 (List.mem_of_getElem? (i := 12) rfl)) rfl, tw_t (tb_7 (List.mem_of_getElem? (i := 10) rfl)) rfl, by decide +kernel, by decide +kernel, by decide +kernel⟩
theorem cw_X10_mend : CVx yX10_mend cX10_mend 4 (some .int) 3 10 := ⟨⟨RX10, TX10, 57, rfl, rfl⟩, tw_t (tb_6 (List.mem_of_getElem? (i := 69) rfl)) rfl, tw_t (tb_6 (List.mem_of_getElem? (i := 70) rfl)) rfl, tw_t (tb_1 (List.mem_of_getElem? (i := 12) rfl)) rfl, tw_t (tb_6 (List.mem_of_getElem? (i := 71) rfl)) rfl, by decide +kernel, by decide +kernel, by decide +kernel⟩
theorem cw_X10_mostAlike : CVx yX10_mostAlike cX10_mostAlike 6 (some .int) 2 10 := ⟨⟨RX10, TX10, 57, rfl, rfl⟩, tw_t (tb_7 (List.mem_of_getElem? (i := 45) rfl)) rfl, tw_of (tb_s (pv_5 (List.mem_of_getElem? (i := 15) rfl))) rfl, tw_t (tb_1 (List.mem_of_getElem? (i := 12) rfl)) rfl, tw_t (tb_7 (List.mem_of_getElem? (i := 46) rfl)) rfl, by decide +kernel, by decide +kernel, by decide +kernel⟩
theorem cw_X10_nameOf : CSx yX10_nameOf cX10_nameOf 1 (some .int) 1 := ⟨tw_t (tb_6 (List.mem_of_getElem? (i := 144) rfl)) rfl, tw_t (tb_1 (List.mem_of_getElem? (i := 12) rfl)) rfl, tw_t (tb_6 (List.mem_of_getElem? (i := 145) rfl)) rfl, by decide +kernel, by decide +kernel, by decide +kernel⟩
theorem cw_X10_nextOf : CVx yX10_nextOf cX10_nextOf 4 (some .int) 1 10 := ⟨⟨RX10, TX10, 57, rfl, rfl⟩, tw_t (tb_7 (List.mem_of_getElem? (i := 25) rfl)) rfl, tw_of (tb_s (pv_5 (List.mem_of_getElem? (i := 12) rfl))) rfl, tw_t (tb_1 (List.mem_of_getElem? (i := 12) rfl)) rfl, tw_t (tb_7 (List.mem_of_getElem? (i := 26) rfl)) rfl, by decide +kernel, by decide +kernel, by decide +kernel⟩
theorem cw_X10_of : CVx yX10_of cX10_of 3 (some .int) 2 10 := ⟨⟨RX10, TX10, 57, rfl, rfl⟩, tw_t (tb_6 (List.mem_of_getElem? (i := 88) rfl)) rfl, tw_t (tb_6 (List.mem_of_getElem? (i := 89) rfl)) rfl, tw_t (tb_1 (List.mem_of_getElem? (i := 12) rfl)) rfl, tw_t (tb_6 (List.mem_of_getElem? (i := 90) rfl)) rfl, by decide +kernel, by decide +kernel, by decide +kernel⟩
theorem cw_X10_opens : CVx yX10_opens cX10_opens 1 (some .boolean) 0 10 := ⟨⟨RX10, TX10, 57, rfl, rfl⟩, tw_t (tb_6 (List.mem_of_getElem? (i := 152) rfl)) rfl, tw_of (tb_s (pv_4 (List.mem_of_getElem? (i := 10) rfl))) rfl, tw_t (tb_1 (List.mem_of_getElem? (i := 12) rfl)) rfl, tw_t (tb_6 (List.mem_of_getElem? (i := 153) rfl)) rfl, by decide +kernel, by decide +kernel, by decide +kernel⟩
theorem cw_X10_operand : CVx yX10_operand cX10_operand 2 none 0 10 := ⟨⟨RX10, TX10, 57, rfl, rfl⟩, tw_t (tb_6 (List.mem_of_getElem? (i := 137) rfl)) rfl, tw_of (tb_s (pv_4 (List.mem_of_getElem? (i := 7) rfl))) rfl, tw_t (tb_1 (List.mem_of_getElem? (i := 12) rfl)) rfl, tw_t (tb_6 (List.mem_of_getElem? (i := 138) rfl)) rfl, by decide +kernel, by decide +kernel, by decide +kernel⟩
theorem cw_X10_place : CVx yX10_place cX10_place 3 (some .int) 2 10 := ⟨⟨RX10, TX10, 57, rfl, rfl⟩, tw_t (tb_6 (List.mem_of_getElem? (i := 92) rfl)) rfl, tw_t (tb_6 (List.mem_of_getElem? (i := 93) rfl)) rfl, tw_t (tb_1 (List.mem_of_getElem? (i := 12) rfl)) rfl, tw_t (tb_6 (List.mem_of_getElem? (i := 94) rfl)) rfl, by decide +kernel, by decide +kernel, by decide +kernel⟩
theorem cw_X10_placeIn : CVx yX10_placeIn cX10_placeIn 6 (some .int) 3 10 := ⟨⟨RX10, TX10, 57, rfl, rfl⟩, tw_t (tb_6 (List.mem_of_getElem? (i := 233) rfl)) rfl, tw_of (tb_s (pv_5 (List.mem_of_getElem? (i := 9) rfl))) rfl, tw_t (tb_1 (List.mem_of_getElem? (i := 12) rfl)) rfl, tw_t (tb_6 (List.mem_of_getElem? (i := 234) rfl)) rfl, by decide +kernel, by decide +kernel, by decide +kernel⟩
theorem cw_X10_plainLeads : CVx yX10_plainLeads cX10_plainLeads 3 (some .int) 2 10 := ⟨⟨RX10, TX10, 57, rfl, rfl⟩, tw_t (tb_7 (List.mem_of_getElem? (i := 137) rfl)) rfl, tw_of (tb_s (pv_6 (List.mem_of_getElem? (i := 7) rfl))) rfl, tw_t (tb_1 (List.mem_of_getElem? (i := 12) rfl)) rfl, tw_t (tb_7 (List.mem_of_getElem? (i := 138) rfl)) rfl, by decide +kernel, by decide +kernel, by decide +kernel⟩
theorem cw_X10_plainReads : CVx yX10_plainReads cX10_plainReads 3 (some .int) 2 10 := ⟨⟨RX10, TX10, 57, rfl, rfl⟩, tw_t (tb_7 (List.mem_of_getElem? (i := 165) rfl)) rfl, tw_of (tb_s (pv_6 (List.mem_of_getElem? (i := 14) rfl))) rfl, tw_t (tb_1 (List.mem_of_getElem? (i := 12) rfl)) rfl, tw_t (tb_7 (List.mem_of_getElem? (i := 166) rfl)) rfl, by decide +kernel, by decide +kernel, by decide +kernel⟩
theorem cw_X10_plainTells : CVx yX10_plainTells cX10_plainTells 4 (some .int) 2 10 := ⟨⟨RX10, TX10, 57, rfl, rfl⟩, tw_t (tb_7 (List.mem_of_getElem? (i := 173) rfl)) rfl, tw_of (tb_s (pv_7 (List.mem_of_getElem? (i := 0) rfl))) rfl, tw_t (tb_1 (List.mem_of_getElem? (i := 12) rfl)) rfl, tw_t (tb_7 (List.mem_of_getElem? (i := 174) rfl)) rfl, by decide +kernel, by decide +kernel, by decide +kernel⟩
theorem cw_X10_plainTreads : CVx yX10_plainTreads cX10_plainTreads 3 (some .int) 2 10 := ⟨⟨RX10, TX10, 57, rfl, rfl⟩, tw_t (tb_7 (List.mem_of_getElem? (i := 153) rfl)) rfl, tw_of (tb_s (pv_6 (List.mem_of_getElem? (i := 11) rfl))) rfl, tw_t (tb_1 (List.mem_of_getElem? (i := 12) rfl)) rfl, tw_t (tb_7 (List.mem_of_getElem? (i := 154) rfl)) rfl, by decide +kernel, by decide +kernel, by decide +kernel⟩
theorem cw_X10_product : CVx yX10_product cX10_product 2 none 0 10 := ⟨⟨RX10, TX10, 57, rfl, rfl⟩, tw_t (tb_6 (List.mem_of_getElem? (i := 133) rfl)) rfl, tw_of (tb_s (pv_4 (List.mem_of_getElem? (i := 6) rfl))) rfl, tw_t (tb_1 (List.mem_of_getElem? (i := 12) rfl)) rfl, tw_t (tb_6 (List.mem_of_getElem? (i := 134) rfl)) rfl, by decide +kernel, by decide +kernel, by decide +kernel⟩
theorem cw_X10_put : CVx yX10_put cX10_put 7 (some .int) 3 10 := ⟨⟨RX10, TX10, 57, rfl, rfl⟩, tw_t (tb_7 (List.mem_of_getElem? (i := 192) rfl)) rfl, tw_t (tb_7 (List.mem_of_getElem? (i := 193) rfl)) rfl, tw_t (tb_1 (List.mem_of_getElem? (i := 12) rfl)) rfl, tw_t (tb_7 (List.mem_of_getElem? (i := 194) rfl)) rfl, by decide +kernel, by decide +kernel, by decide +kernel⟩
theorem cw_X10_ran : CVx yX10_ran cX10_ran 2 none 1 10 := ⟨⟨RX10, TX10, 57, rfl, rfl⟩, tw_t (tb_7 (List.mem_of_getElem? (i := 133) rfl)) rfl, tw_of (tb_s (pv_6 (List.mem_of_getElem? (i := 6) rfl))) rfl, tw_t (tb_1 (List.mem_of_getElem? (i := 12) rfl)) rfl, tw_t (tb_7 (List.mem_of_getElem? (i := 134) rfl)) rfl, by decide +kernel, by decide +kernel, by decide +kernel⟩
theorem cw_X10_read : CVx yX10_read cX10_read 7 (some .int) 2 10 := ⟨⟨RX10, TX10, 57, rfl, rfl⟩, tw_t (tb_7 (List.mem_of_getElem? (i := 28) rfl)) rfl, tw_t (tb_7 (List.mem_of_getElem? (i := 29) rfl)) rfl, tw_t (tb_1 (List.mem_of_getElem? (i := 12) rfl)) rfl, tw_t (tb_7 (List.mem_of_getElem? (i := 30) rfl)) rfl, by decide +kernel, by decide +kernel, by decide +kernel⟩
theorem cw_X10_readFault : CVx yX10_readFault cX10_readFault 4 (some .int) 1 10 := ⟨⟨RX10, TX10, 57, rfl, rfl⟩, tw_t (tb_7 (List.mem_of_getElem? (i := 33) rfl)) rfl, tw_of (tb_s (pv_5 (List.mem_of_getElem? (i := 13) rfl))) rfl, tw_t (tb_1 (List.mem_of_getElem? (i := 12) rfl)) rfl, tw_t (tb_7 (List.mem_of_getElem? (i := 34) rfl)) rfl, by decide +kernel, by decide +kernel, by decide +kernel⟩
theorem cw_X10_readText : CVx yX10_readText cX10_readText 3 (some .int) 1 10 := ⟨⟨RX10, TX10, 57, rfl, rfl⟩, tw_t (tb_6 (List.mem_of_getElem? (i := 109) rfl)) rfl, tw_of (tb_s (pv_4 (List.mem_of_getElem? (i := 0) rfl))) rfl, tw_t (tb_1 (List.mem_of_getElem? (i := 12) rfl)) rfl, tw_t (tb_6 (List.mem_of_getElem? (i := 110) rfl)) rfl, by decide +kernel, by decide +kernel, by decide +kernel⟩
theorem cw_X10_reading : CVx yX10_reading cX10_reading 4 (some .int) 2 10 := ⟨⟨RX10, TX10, 57, rfl, rfl⟩, tw_t (tb_7 (List.mem_of_getElem? (i := 157) rfl)) rfl, tw_of (tb_s (pv_6 (List.mem_of_getElem? (i := 12) rfl))) rfl, tw_t (tb_1 (List.mem_of_getElem? (i := 12) rfl)) rfl, tw_t (tb_7 (List.mem_of_getElem? (i := 158) rfl)) rfl, by decide +kernel, by decide +kernel, by decide +kernel⟩
theorem cw_X10_redo : CVx yX10_redo cX10_redo 1 (some .int) 0 10 := ⟨⟨RX10, TX10, 57, rfl, rfl⟩, tw_t (tb_6 (List.mem_of_getElem? (i := 65) rfl)) rfl, tw_t (tb_6 (List.mem_of_getElem? (i := 66) rfl)) rfl, tw_t (tb_1 (List.mem_of_getElem? (i := 12) rfl)) rfl, tw_t (tb_6 (List.mem_of_getElem? (i := 67) rfl)) rfl, by decide +kernel, by decide +kernel, by decide +kernel⟩
theorem cw_X10_remainder : CVx yX10_remainder cX10_remainder 4 (some .int) 2 10 := ⟨⟨RX10, TX10, 57, rfl, rfl⟩, tw_t (tb_6 (List.mem_of_getElem? (i := 202) rfl)) rfl, tw_of (tb_s (pv_5 (List.mem_of_getElem? (i := 4) rfl))) rfl, tw_t (tb_1 (List.mem_of_getElem? (i := 12) rfl)) rfl, tw_t (tb_6 (List.mem_of_getElem? (i := 203) rfl)) rfl, by decide +kernel, by decide +kernel, by decide +kernel⟩
theorem cw_X10_row : CVx yX10_row cX10_row 5 (some .int) 3 10 := ⟨⟨RX10, TX10, 57, rfl, rfl⟩, tw_t (tb_7 (List.mem_of_getElem? (i := 188) rfl)) rfl, tw_t (tb_7 (List.mem_of_getElem? (i := 189) rfl)) rfl, tw_t (tb_1 (List.mem_of_getElem? (i := 12) rfl)) rfl, tw_t (tb_7 (List.mem_of_getElem? (i := 190) rfl)) rfl, by decide +kernel, by decide +kernel, by decide +kernel⟩
theorem cw_X10_rowFault : CVx yX10_rowFault cX10_rowFault 2 (some .int) 1 10 := ⟨⟨RX10, TX10, 57, rfl, rfl⟩, tw_t (tb_6 (List.mem_of_getElem? (i := 32) rfl)) rfl, tw_of (tb_s (pv_3 (List.mem_of_getElem? (i := 7) rfl))) rfl, tw_t (tb_1 (List.mem_of_getElem? (i := 12) rfl)) rfl, tw_t (tb_6 (List.mem_of_getElem? (i := 33) rfl)) rfl, by decide +kernel, by decide +kernel, by decide +kernel⟩
theorem cw_X10_sees : CVx yX10_sees cX10_sees 4 (some .int) 3 10 := ⟨⟨RX10, TX10, 57, rfl, rfl⟩, tw_t (tb_6 (List.mem_of_getElem? (i := 236) rfl)) rfl, tw_t (tb_6 (List.mem_of_getElem? (i := 237) rfl)) rfl, tw_t (tb_1 (List.mem_of_getElem? (i := 12) rfl)) rfl, tw_t (tb_6 (List.mem_of_getElem? (i := 238) rfl)) rfl, by decide +kernel, by decide +kernel, by decide +kernel⟩
theorem cw_X10_seesOn : CVx yX10_seesOn cX10_seesOn 6 (some .int) 3 10 := ⟨⟨RX10, TX10, 57, rfl, rfl⟩, tw_t (tb_7 (List.mem_of_getElem? (i := 1) rfl)) rfl, tw_of (tb_s (pv_5 (List.mem_of_getElem? (i := 10) rfl))) rfl, tw_t (tb_1 (List.mem_of_getElem? (i := 12) rfl)) rfl, tw_t (tb_7 (List.mem_of_getElem? (i := 2) rfl)) rfl, by decide +kernel, by decide +kernel, by decide +kernel⟩
theorem cw_X10_shift : CVx yX10_shift cX10_shift 7 (some .int) 5 10 := ⟨⟨RX10, TX10, 57, rfl, rfl⟩, tw_t (tb_7 (List.mem_of_getElem? (i := 205) rfl)) rfl, tw_t (tb_7 (List.mem_of_getElem? (i := 206) rfl)) rfl, tw_t (tb_1 (List.mem_of_getElem? (i := 12) rfl)) rfl, tw_t (tb_7 (List.mem_of_getElem? (i := 207) rfl)) rfl, by decide +kernel, by decide +kernel, by decide +kernel⟩
theorem cw_X10_shoes : CVx yX10_shoes cX10_shoes 7 (some .int) 2 10 := ⟨⟨RX10, TX10, 57, rfl, rfl⟩, tw_t (tb_7 (List.mem_of_getElem? (i := 64) rfl)) rfl, tw_t (tb_7 (List.mem_of_getElem? (i := 65) rfl)) rfl, tw_t (tb_1 (List.mem_of_getElem? (i := 12) rfl)) rfl, tw_t (tb_7 (List.mem_of_getElem? (i := 66) rfl)) rfl, by decide +kernel, by decide +kernel, by decide +kernel⟩
theorem cw_X10_spotAt : CSx yX10_spotAt cX10_spotAt 1 (some .int) 1 := ⟨tw_t (tb_6 (List.mem_of_getElem? (i := 62) rfl)) rfl, tw_t (tb_1 (List.mem_of_getElem? (i := 12) rfl)) rfl, tw_t (tb_6 (List.mem_of_getElem? (i := 63) rfl)) rfl, by decide +kernel, by decide +kernel, by decide +kernel⟩
theorem cw_X10_step : CVx yX10_step cX10_step 6 (some .int) 2 10 := ⟨⟨RX10, TX10, 57, rfl, rfl⟩, tw_t (tb_7 (List.mem_of_getElem? (i := 93) rfl)) rfl, tw_t (tb_7 (List.mem_of_getElem? (i := 94) rfl)) rfl, tw_t (tb_1 (List.mem_of_getElem? (i := 12) rfl)) rfl, tw_t (tb_7 (List.mem_of_getElem? (i := 95) rfl)) rfl, by decide +kernel, by decide +kernel, by decide +kernel⟩
theorem cw_X10_sum : CVx yX10_sum cX10_sum 2 none 0 10 := ⟨⟨RX10, TX10, 57, rfl, rfl⟩, tw_t (tb_6 (List.mem_of_getElem? (i := 129) rfl)) rfl, tw_of (tb_s (pv_4 (List.mem_of_getElem? (i := 5) rfl))) rfl, tw_t (tb_1 (List.mem_of_getElem? (i := 12) rfl)) rfl, tw_t (tb_6 (List.mem_of_getElem? (i := 130) rfl)) rfl, by decide +kernel, by decide +kernel, by decide +kernel⟩
theorem cw_X10_sure : CVx yX10_sure cX10_sure 5 (some .int) 2 10 := ⟨⟨RX10, TX10, 57, rfl, rfl⟩, tw_t (tb_7 (List.mem_of_getElem? (i := 16) rfl)) rfl, tw_t (tb_7 (List.mem_of_getElem? (i := 17) rfl)) rfl, tw_t (tb_1 (List.mem_of_getElem? (i := 12) rfl)) rfl, tw_t (tb_7 (List.mem_of_getElem? (i := 18) rfl)) rfl, by decide +kernel, by decide +kernel, by decide +kernel⟩
theorem cw_X10_taken : CVx yX10_taken cX10_taken 3 (some .int) 2 10 := ⟨⟨RX10, TX10, 57, rfl, rfl⟩, tw_t (tb_7 (List.mem_of_getElem? (i := 209) rfl)) rfl, tw_t (tb_7 (List.mem_of_getElem? (i := 210) rfl)) rfl, tw_t (tb_1 (List.mem_of_getElem? (i := 12) rfl)) rfl, tw_t (tb_7 (List.mem_of_getElem? (i := 211) rfl)) rfl, by decide +kernel, by decide +kernel, by decide +kernel⟩
theorem cw_X10_takes : CVx yX10_takes cX10_takes 3 (some .int) 2 10 := ⟨⟨RX10, TX10, 57, rfl, rfl⟩, tw_t (tb_7 (List.mem_of_getElem? (i := 4) rfl)) rfl, tw_t (tb_7 (List.mem_of_getElem? (i := 5) rfl)) rfl, tw_t (tb_1 (List.mem_of_getElem? (i := 12) rfl)) rfl, tw_t (tb_7 (List.mem_of_getElem? (i := 6) rfl)) rfl, by decide +kernel, by decide +kernel, by decide +kernel⟩
theorem cw_X10_takesOn : CVx yX10_takesOn cX10_takesOn 5 (some .int) 2 10 := ⟨⟨RX10, TX10, 57, rfl, rfl⟩, tw_t (tb_6 (List.mem_of_getElem? (i := 217) rfl)) rfl, tw_of (tb_s (pv_5 (List.mem_of_getElem? (i := 7) rfl))) rfl, tw_t (tb_1 (List.mem_of_getElem? (i := 12) rfl)) rfl, tw_t (tb_6 (List.mem_of_getElem? (i := 218) rfl)) rfl, by decide +kernel, by decide +kernel, by decide +kernel⟩
theorem cw_X10_telling : CVx yX10_telling cX10_telling 3 (some .int) 2 10 := ⟨⟨RX10, TX10, 57, rfl, rfl⟩, tw_t (tb_7 (List.mem_of_getElem? (i := 169) rfl)) rfl, tw_of (tb_s (pv_6 (List.mem_of_getElem? (i := 15) rfl))) rfl, tw_t (tb_1 (List.mem_of_getElem? (i := 12) rfl)) rfl, tw_t (tb_7 (List.mem_of_getElem? (i := 170) rfl)) rfl, by decide +kernel, by decide +kernel, by decide +kernel⟩
theorem cw_X10_trace : CVx yX10_trace cX10_trace 2 (some .int) 1 10 := ⟨⟨RX10, TX10, 57, rfl, rfl⟩, tw_t (tb_7 (List.mem_of_getElem? (i := 109) rfl)) rfl, tw_t (tb_7 (List.mem_of_getElem? (i := 110) rfl)) rfl, tw_t (tb_1 (List.mem_of_getElem? (i := 12) rfl)) rfl, tw_t (tb_7 (List.mem_of_getElem? (i := 111) rfl)) rfl, by decide +kernel, by decide +kernel, by decide +kernel⟩
theorem cw_X10_treading : CVx yX10_treading cX10_treading 4 (some .int) 2 10 := ⟨⟨RX10, TX10, 57, rfl, rfl⟩, tw_t (tb_7 (List.mem_of_getElem? (i := 145) rfl)) rfl, tw_of (tb_s (pv_6 (List.mem_of_getElem? (i := 9) rfl))) rfl, tw_t (tb_1 (List.mem_of_getElem? (i := 12) rfl)) rfl, tw_t (tb_7 (List.mem_of_getElem? (i := 146) rfl)) rfl, by decide +kernel, by decide +kernel, by decide +kernel⟩
theorem cw_X10_twoOf : CSx yX10_twoOf cX10_twoOf 3 (some .int) 3 := ⟨tw_t (tb_6 (List.mem_of_getElem? (i := 198) rfl)) rfl, tw_t (tb_1 (List.mem_of_getElem? (i := 12) rfl)) rfl, tw_t (tb_6 (List.mem_of_getElem? (i := 199) rfl)) rfl, by decide +kernel, by decide +kernel, by decide +kernel⟩
theorem cw_X10_undo : CVx yX10_undo cX10_undo 1 (some .int) 0 10 := ⟨⟨RX10, TX10, 57, rfl, rfl⟩, tw_t (tb_6 (List.mem_of_getElem? (i := 54) rfl)) rfl, tw_t (tb_6 (List.mem_of_getElem? (i := 55) rfl)) rfl, tw_t (tb_1 (List.mem_of_getElem? (i := 12) rfl)) rfl, tw_t (tb_6 (List.mem_of_getElem? (i := 56) rfl)) rfl, by decide +kernel, by decide +kernel, by decide +kernel⟩
theorem cw_X10_valueAt : CVx yX10_valueAt cX10_valueAt 3 (some .int) 2 10 := ⟨⟨RX10, TX10, 57, rfl, rfl⟩, tw_t (tb_6 (List.mem_of_getElem? (i := 85) rfl)) rfl, tw_of (tb_s (pv_3 (List.mem_of_getElem? (i := 14) rfl))) rfl, tw_t (tb_1 (List.mem_of_getElem? (i := 12) rfl)) rfl, tw_t (tb_6 (List.mem_of_getElem? (i := 86) rfl)) rfl, by decide +kernel, by decide +kernel, by decide +kernel⟩
theorem cw_X10_walker : CVx yX10_walker cX10_walker 3 (some .int) 2 10 := ⟨⟨RX10, TX10, 57, rfl, rfl⟩, tw_t (tb_6 (List.mem_of_getElem? (i := 18) rfl)) rfl, tw_t (tb_6 (List.mem_of_getElem? (i := 19) rfl)) rfl, tw_t (tb_1 (List.mem_of_getElem? (i := 12) rfl)) rfl, tw_t (tb_6 (List.mem_of_getElem? (i := 20) rfl)) rfl, by decide +kernel, by decide +kernel, by decide +kernel⟩
theorem cw_X10_way : CVx yX10_way cX10_way 4 (some .int) 3 10 := ⟨⟨RX10, TX10, 57, rfl, rfl⟩, tw_t (tb_6 (List.mem_of_getElem? (i := 46) rfl)) rfl, tw_t (tb_6 (List.mem_of_getElem? (i := 47) rfl)) rfl, tw_t (tb_1 (List.mem_of_getElem? (i := 12) rfl)) rfl, tw_t (tb_6 (List.mem_of_getElem? (i := 48) rfl)) rfl, by decide +kernel, by decide +kernel, by decide +kernel⟩
theorem cw_X10_wayIn : CSx yX10_wayIn cX10_wayIn 2 (some .int) 2 := ⟨tw_t (tb_6 (List.mem_of_getElem? (i := 213) rfl)) rfl, tw_t (tb_1 (List.mem_of_getElem? (i := 12) rfl)) rfl, tw_t (tb_6 (List.mem_of_getElem? (i := 214) rfl)) rfl, by decide +kernel, by decide +kernel, by decide +kernel⟩
theorem cw_X10_where : CVx yX10_where cX10_where 4 (some .int) 3 10 := ⟨⟨RX10, TX10, 57, rfl, rfl⟩, tw_t (tb_6 (List.mem_of_getElem? (i := 228) rfl)) rfl, tw_t (tb_6 (List.mem_of_getElem? (i := 229) rfl)) rfl, tw_t (tb_1 (List.mem_of_getElem? (i := 12) rfl)) rfl, tw_t (tb_6 (List.mem_of_getElem? (i := 230) rfl)) rfl, by decide +kernel, by decide +kernel, by decide +kernel⟩
theorem cw_X10_whyNoPlace : CVx yX10_whyNoPlace cX10_whyNoPlace 3 (some .int) 2 10 := ⟨⟨RX10, TX10, 57, rfl, rfl⟩, tw_t (tb_7 (List.mem_of_getElem? (i := 197) rfl)) rfl, tw_of (tb_s (pv_7 (List.mem_of_getElem? (i := 2) rfl))) rfl, tw_t (tb_1 (List.mem_of_getElem? (i := 12) rfl)) rfl, tw_t (tb_7 (List.mem_of_getElem? (i := 198) rfl)) rfl, by decide +kernel, by decide +kernel, by decide +kernel⟩
theorem cw_X10_worked : CVx yX10_worked cX10_worked 7 (some .int) 3 10 := ⟨⟨RX10, TX10, 57, rfl, rfl⟩, tw_t (tb_6 (List.mem_of_getElem? (i := 195) rfl)) rfl, tw_of (tb_s (pv_5 (List.mem_of_getElem? (i := 3) rfl))) rfl, tw_t (tb_1 (List.mem_of_getElem? (i := 12) rfl)) rfl, tw_t (tb_6 (List.mem_of_getElem? (i := 196) rfl)) rfl, by decide +kernel, by decide +kernel, by decide +kernel⟩
theorem cw_X1_dropOldest : CVx yX1_dropOldest cX1_dropOldest 2 none 0 1 := ⟨⟨RX1, TX1, 3, rfl, rfl⟩, tw_t (tb_2 (List.mem_of_getElem? (i := 160) rfl)) rfl, tw_of (tb_s (pv_1 (List.mem_of_getElem? (i := 3) rfl))) rfl, tw_t (tb_1 (List.mem_of_getElem? (i := 9) rfl)) rfl, tw_t (tb_2 (List.mem_of_getElem? (i := 161) rfl)) rfl, by decide +kernel, by decide +kernel, by decide +kernel⟩
theorem cw_X1_note : CVx yX1_note cX1_note 5 none 4 1 := ⟨⟨RX1, TX1, 3, rfl, rfl⟩, tw_t (tb_2 (List.mem_of_getElem? (i := 155) rfl)) rfl, tw_t (tb_2 (List.mem_of_getElem? (i := 156) rfl)) rfl, tw_t (tb_1 (List.mem_of_getElem? (i := 9) rfl)) rfl, tw_t (tb_2 (List.mem_of_getElem? (i := 157) rfl)) rfl, by decide +kernel, by decide +kernel, by decide +kernel⟩
theorem cw_X1_remake : CVx yX1_remake cX1_remake 2 (some .boolean) 1 1 := ⟨⟨RX1, TX1, 3, rfl, rfl⟩, tw_t (tb_4 (List.mem_of_getElem? (i := 184) rfl)) rfl, tw_t (tb_4 (List.mem_of_getElem? (i := 185) rfl)) rfl, tw_t (tb_1 (List.mem_of_getElem? (i := 9) rfl)) rfl, tw_t (tb_4 (List.mem_of_getElem? (i := 186) rfl)) rfl, by decide +kernel, by decide +kernel, by decide +kernel⟩
theorem cw_X1_unmade : CVx yX1_unmade cX1_unmade 1 (some .int) 0 1 := ⟨⟨RX1, TX1, 3, rfl, rfl⟩, tw_t (tb_4 (List.mem_of_getElem? (i := 188) rfl)) rfl, tw_t (tb_4 (List.mem_of_getElem? (i := 189) rfl)) rfl, tw_t (tb_1 (List.mem_of_getElem? (i := 9) rfl)) rfl, tw_t (tb_4 (List.mem_of_getElem? (i := 190) rfl)) rfl, by decide +kernel, by decide +kernel, by decide +kernel⟩
theorem cw_X1_unmake : CVx yX1_unmake cX1_unmake 2 (some .boolean) 1 1 := ⟨⟨RX1, TX1, 3, rfl, rfl⟩, tw_t (tb_4 (List.mem_of_getElem? (i := 175) rfl)) rfl, tw_t (tb_4 (List.mem_of_getElem? (i := 176) rfl)) rfl, tw_t (tb_1 (List.mem_of_getElem? (i := 9) rfl)) rfl, tw_t (tb_4 (List.mem_of_getElem? (i := 177) rfl)) rfl, by decide +kernel, by decide +kernel, by decide +kernel⟩
theorem cw_X2_costOf : CVx yX2_costOf cX2_costOf 5 (some .int) 2 2 := ⟨⟨RX2, TX2, 12, rfl, rfl⟩, tw_t (tb_3 (List.mem_of_getElem? (i := 134) rfl)) rfl, tw_t (tb_3 (List.mem_of_getElem? (i := 135) rfl)) rfl, tw_t (tb_1 (List.mem_of_getElem? (i := 5) rfl)) rfl, tw_t (tb_3 (List.mem_of_getElem? (i := 136) rfl)) rfl, by decide +kernel, by decide +kernel, by decide +kernel⟩
theorem cw_X2_drown : CVx yX2_drown cX2_drown 5 none 3 2 := ⟨⟨RX2, TX2, 12, rfl, rfl⟩, tw_t (tb_4 (List.mem_of_getElem? (i := 104) rfl)) rfl, tw_t (tb_4 (List.mem_of_getElem? (i := 105) rfl)) rfl, tw_t (tb_1 (List.mem_of_getElem? (i := 5) rfl)) rfl, tw_t (tb_4 (List.mem_of_getElem? (i := 106) rfl)) rfl, by decide +kernel, by decide +kernel, by decide +kernel⟩
theorem cw_X2_firstPlace : CVx yX2_firstPlace cX2_firstPlace 2 (some .int) 1 2 := ⟨⟨RX2, TX2, 12, rfl, rfl⟩, tw_t (tb_3 (List.mem_of_getElem? (i := 31) rfl)) rfl, tw_of (tb_s (pv_2 (List.mem_of_getElem? (i := 0) rfl))) rfl, tw_t (tb_1 (List.mem_of_getElem? (i := 5) rfl)) rfl, tw_t (tb_3 (List.mem_of_getElem? (i := 32) rfl)) rfl, by decide +kernel, by decide +kernel, by decide +kernel⟩
theorem cw_X2_followed : CVx yX2_followed cX2_followed 5 (some .int) 2 2 := ⟨⟨RX2, TX2, 12, rfl, rfl⟩, tw_t (tb_3 (List.mem_of_getElem? (i := 200) rfl)) rfl, tw_t (tb_3 (List.mem_of_getElem? (i := 201) rfl)) rfl, tw_t (tb_1 (List.mem_of_getElem? (i := 5) rfl)) rfl, tw_t (tb_3 (List.mem_of_getElem? (i := 202) rfl)) rfl, by decide +kernel, by decide +kernel, by decide +kernel⟩
theorem cw_X2_forget : CVx yX2_forget cX2_forget 1 none 0 2 := ⟨⟨RX2, TX2, 12, rfl, rfl⟩, tw_t (tb_3 (List.mem_of_getElem? (i := 51) rfl)) rfl, tw_t (tb_3 (List.mem_of_getElem? (i := 52) rfl)) rfl, tw_t (tb_1 (List.mem_of_getElem? (i := 5) rfl)) rfl, tw_t (tb_3 (List.mem_of_getElem? (i := 53) rfl)) rfl, by decide +kernel, by decide +kernel, by decide +kernel⟩
theorem cw_X2_forgetOne : CVx yX2_forgetOne cX2_forgetOne 3 none 1 2 := ⟨⟨RX2, TX2, 12, rfl, rfl⟩, tw_t (tb_4 (List.mem_of_getElem? (i := 73) rfl)) rfl, tw_t (tb_4 (List.mem_of_getElem? (i := 74) rfl)) rfl, tw_t (tb_1 (List.mem_of_getElem? (i := 5) rfl)) rfl, tw_t (tb_4 (List.mem_of_getElem? (i := 75) rfl)) rfl, by decide +kernel, by decide +kernel, by decide +kernel⟩
theorem cw_X2_gather : CVx yX2_gather cX2_gather 4 none 0 2 := ⟨⟨RX2, TX2, 12, rfl, rfl⟩, tw_t (tb_3 (List.mem_of_getElem? (i := 55) rfl)) rfl, tw_t (tb_3 (List.mem_of_getElem? (i := 56) rfl)) rfl, tw_t (tb_1 (List.mem_of_getElem? (i := 5) rfl)) rfl, tw_t (tb_3 (List.mem_of_getElem? (i := 57) rfl)) rfl, by decide +kernel, by decide +kernel, by decide +kernel⟩
theorem cw_X2_heldDay : CVx yX2_heldDay cX2_heldDay 2 (some .int) 1 2 := ⟨⟨RX2, TX2, 12, rfl, rfl⟩, tw_t (tb_3 (List.mem_of_getElem? (i := 111) rfl)) rfl, tw_t (tb_3 (List.mem_of_getElem? (i := 112) rfl)) rfl, tw_t (tb_1 (List.mem_of_getElem? (i := 5) rfl)) rfl, tw_t (tb_3 (List.mem_of_getElem? (i := 113) rfl)) rfl, by decide +kernel, by decide +kernel, by decide +kernel⟩
theorem cw_X2_isHeld : CVx yX2_isHeld cX2_isHeld 4 (some .boolean) 2 2 := ⟨⟨RX2, TX2, 12, rfl, rfl⟩, tw_t (tb_3 (List.mem_of_getElem? (i := 104) rfl)) rfl, tw_t (tb_3 (List.mem_of_getElem? (i := 105) rfl)) rfl, tw_t (tb_1 (List.mem_of_getElem? (i := 5) rfl)) rfl, tw_t (tb_3 (List.mem_of_getElem? (i := 106) rfl)) rfl, by decide +kernel, by decide +kernel, by decide +kernel⟩
theorem cw_X2_lawNamesLead : CVx yX2_lawNamesLead cX2_lawNamesLead 1 (some .boolean) 0 2 := ⟨⟨RX2, TX2, 12, rfl, rfl⟩, tw_t (tb_4 (List.mem_of_getElem? (i := 59) rfl)) rfl, tw_t (tb_4 (List.mem_of_getElem? (i := 60) rfl)) rfl, tw_t (tb_1 (List.mem_of_getElem? (i := 5) rfl)) rfl, tw_t (tb_4 (List.mem_of_getElem? (i := 61) rfl)) rfl, by decide +kernel, by decide +kernel, by decide +kernel⟩
theorem cw_X2_lawful : CVx yX2_lawful cX2_lawful 6 (some .int) 2 2 := ⟨⟨RX2, TX2, 12, rfl, rfl⟩, tw_t (tb_3 (List.mem_of_getElem? (i := 62) rfl)) rfl, tw_t (tb_3 (List.mem_of_getElem? (i := 63) rfl)) rfl, tw_t (tb_1 (List.mem_of_getElem? (i := 5) rfl)) rfl, tw_t (tb_3 (List.mem_of_getElem? (i := 64) rfl)) rfl, by decide +kernel, by decide +kernel, by decide +kernel⟩
theorem cw_X2_list : CVx yX2_list cX2_list 2 none 0 2 := ⟨⟨RX2, TX2, 12, rfl, rfl⟩, tw_t (tb_3 (List.mem_of_getElem? (i := 18) rfl)) rfl, tw_of (tb_s (pv_1 (List.mem_of_getElem? (i := 14) rfl))) rfl, tw_t (tb_1 (List.mem_of_getElem? (i := 5) rfl)) rfl, tw_t (tb_3 (List.mem_of_getElem? (i := 19) rfl)) rfl, by decide +kernel, by decide +kernel, by decide +kernel⟩
theorem cw_X2_nextDay : CVx yX2_nextDay cX2_nextDay 5 (some .int) 1 2 := ⟨⟨RX2, TX2, 12, rfl, rfl⟩, tw_t (tb_3 (List.mem_of_getElem? (i := 204) rfl)) rfl, tw_t (tb_3 (List.mem_of_getElem? (i := 205) rfl)) rfl, tw_t (tb_1 (List.mem_of_getElem? (i := 5) rfl)) rfl, tw_t (tb_3 (List.mem_of_getElem? (i := 206) rfl)) rfl, by decide +kernel, by decide +kernel, by decide +kernel⟩
theorem cw_X2_observe : CVx yX2_observe cX2_observe 4 (some .boolean) 0 2 := ⟨⟨RX2, TX2, 12, rfl, rfl⟩, tw_t (tb_3 (List.mem_of_getElem? (i := 26) rfl)) rfl, tw_t (tb_3 (List.mem_of_getElem? (i := 27) rfl)) rfl, tw_t (tb_1 (List.mem_of_getElem? (i := 5) rfl)) rfl, tw_t (tb_3 (List.mem_of_getElem? (i := 28) rfl)) rfl, by decide +kernel, by decide +kernel, by decide +kernel⟩
theorem cw_X2_paint : CVx yX2_paint cX2_paint 4 none 2 2 := ⟨⟨RX2, TX2, 12, rfl, rfl⟩, tw_t (tb_4 (List.mem_of_getElem? (i := 87) rfl)) rfl, tw_t (tb_4 (List.mem_of_getElem? (i := 88) rfl)) rfl, tw_t (tb_1 (List.mem_of_getElem? (i := 5) rfl)) rfl, tw_t (tb_4 (List.mem_of_getElem? (i := 89) rfl)) rfl, by decide +kernel, by decide +kernel, by decide +kernel⟩
theorem cw_X2_settle : CVx yX2_settle cX2_settle 1 none 0 2 := ⟨⟨RX2, TX2, 12, rfl, rfl⟩, tw_t (tb_3 (List.mem_of_getElem? (i := 13) rfl)) rfl, tw_t (tb_3 (List.mem_of_getElem? (i := 14) rfl)) rfl, tw_t (tb_1 (List.mem_of_getElem? (i := 5) rfl)) rfl, tw_t (tb_3 (List.mem_of_getElem? (i := 15) rfl)) rfl, by decide +kernel, by decide +kernel, by decide +kernel⟩
theorem cw_X2_spoil : CVx yX2_spoil cX2_spoil 1 none 0 2 := ⟨⟨RX2, TX2, 12, rfl, rfl⟩, tw_t (tb_2 (List.mem_of_getElem? (i := 120) rfl)) rfl, tw_t (tb_2 (List.mem_of_getElem? (i := 121) rfl)) rfl, tw_t (tb_1 (List.mem_of_getElem? (i := 5) rfl)) rfl, tw_t (tb_2 (List.mem_of_getElem? (i := 122) rfl)) rfl, by decide +kernel, by decide +kernel, by decide +kernel⟩
theorem cw_X2_spread : CVx yX2_spread cX2_spread 5 none 1 2 := ⟨⟨RX2, TX2, 12, rfl, rfl⟩, tw_t (tb_3 (List.mem_of_getElem? (i := 22) rfl)) rfl, tw_of (tb_s (pv_1 (List.mem_of_getElem? (i := 15) rfl))) rfl, tw_t (tb_1 (List.mem_of_getElem? (i := 5) rfl)) rfl, tw_t (tb_3 (List.mem_of_getElem? (i := 23) rfl)) rfl, by decide +kernel, by decide +kernel, by decide +kernel⟩
theorem cw_X3_keepImage : CVx yX3_keepImage cX3_keepImage 1 none 0 3 := ⟨⟨RX3, TX3, 3, rfl, rfl⟩, tw_t (tb_4 (List.mem_of_getElem? (i := 158) rfl)) rfl, tw_t (tb_4 (List.mem_of_getElem? (i := 159) rfl)) rfl, tw_t (tb_1 (List.mem_of_getElem? (i := 8) rfl)) rfl, tw_t (tb_4 (List.mem_of_getElem? (i := 160) rfl)) rfl, by decide +kernel, by decide +kernel, by decide +kernel⟩
theorem cw_X3_layBack : CVx yX3_layBack cX3_layBack 1 (some .boolean) 0 3 := ⟨⟨RX3, TX3, 3, rfl, rfl⟩, tw_t (tb_4 (List.mem_of_getElem? (i := 167) rfl)) rfl, tw_t (tb_4 (List.mem_of_getElem? (i := 168) rfl)) rfl, tw_t (tb_1 (List.mem_of_getElem? (i := 8) rfl)) rfl, tw_t (tb_4 (List.mem_of_getElem? (i := 169) rfl)) rfl, by decide +kernel, by decide +kernel, by decide +kernel⟩
theorem cw_X3_lived : CVx yX3_lived cX3_lived 4 none 3 3 := ⟨⟨RX3, TX3, 3, rfl, rfl⟩, tw_t (tb_4 (List.mem_of_getElem? (i := 134) rfl)) rfl, tw_t (tb_4 (List.mem_of_getElem? (i := 135) rfl)) rfl, tw_t (tb_1 (List.mem_of_getElem? (i := 8) rfl)) rfl, tw_t (tb_4 (List.mem_of_getElem? (i := 136) rfl)) rfl, by decide +kernel, by decide +kernel, by decide +kernel⟩
theorem cw_X3_told : CVx yX3_told cX3_told 2 (some .int) 1 3 := ⟨⟨RX3, TX3, 3, rfl, rfl⟩, tw_t (tb_4 (List.mem_of_getElem? (i := 142) rfl)) rfl, tw_t (tb_4 (List.mem_of_getElem? (i := 143) rfl)) rfl, tw_t (tb_1 (List.mem_of_getElem? (i := 8) rfl)) rfl, tw_t (tb_4 (List.mem_of_getElem? (i := 144) rfl)) rfl, by decide +kernel, by decide +kernel, by decide +kernel⟩
theorem cw_X4_adopt : CVx yX4_adopt cX4_adopt 2 (some .int) 0 4 := ⟨⟨RX4, TX4, 9, rfl, rfl⟩, tw_t (tb_2 (List.mem_of_getElem? (i := 199) rfl)) rfl, tw_t (tb_2 (List.mem_of_getElem? (i := 200) rfl)) rfl, tw_t (tb_1 (List.mem_of_getElem? (i := 4) rfl)) rfl, tw_t (tb_2 (List.mem_of_getElem? (i := 201) rfl)) rfl, by decide +kernel, by decide +kernel, by decide +kernel⟩
theorem cw_X4_bracketed : CVx yX4_bracketed cX4_bracketed 2 (some .boolean) 1 4 := ⟨⟨RX4, TX4, 9, rfl, rfl⟩, tw_t (tb_2 (List.mem_of_getElem? (i := 238) rfl)) rfl, tw_of (tb_s (pv_1 (List.mem_of_getElem? (i := 12) rfl))) rfl, tw_t (tb_1 (List.mem_of_getElem? (i := 4) rfl)) rfl, tw_t (tb_2 (List.mem_of_getElem? (i := 239) rfl)) rfl, by decide +kernel, by decide +kernel, by decide +kernel⟩
theorem cw_X4_chain : CVx yX4_chain cX4_chain 6 (some .boolean) 2 4 := ⟨⟨RX4, TX4, 9, rfl, rfl⟩, tw_t (tb_2 (List.mem_of_getElem? (i := 212) rfl)) rfl, tw_of (tb_s (pv_1 (List.mem_of_getElem? (i := 7) rfl))) rfl, tw_t (tb_1 (List.mem_of_getElem? (i := 4) rfl)) rfl, tw_t (tb_2 (List.mem_of_getElem? (i := 213) rfl)) rfl, by decide +kernel, by decide +kernel, by decide +kernel⟩
theorem cw_X4_emit : CVx yX4_emit cX4_emit 2 none 1 4 := ⟨⟨RX4, TX4, 9, rfl, rfl⟩, tw_t (tb_2 (List.mem_of_getElem? (i := 231) rfl)) rfl, tw_of (tb_s (pv_1 (List.mem_of_getElem? (i := 11) rfl))) rfl, tw_t (tb_1 (List.mem_of_getElem? (i := 4) rfl)) rfl, tw_t (tb_2 (List.mem_of_getElem? (i := 232) rfl)) rfl, by decide +kernel, by decide +kernel, by decide +kernel⟩
theorem cw_X4_endOfLine : CVx yX4_endOfLine cX4_endOfLine 3 (some .int) 1 4 := ⟨⟨RX4, TX4, 9, rfl, rfl⟩, tw_t (tb_3 (List.mem_of_getElem? (i := 85) rfl)) rfl, tw_of (tb_s (pv_2 (List.mem_of_getElem? (i := 3) rfl))) rfl, tw_t (tb_1 (List.mem_of_getElem? (i := 4) rfl)) rfl, tw_t (tb_3 (List.mem_of_getElem? (i := 86) rfl)) rfl, by decide +kernel, by decide +kernel, by decide +kernel⟩
theorem cw_X4_gives : CVx yX4_gives cX4_gives 10 (some .int) 5 4 := ⟨⟨RX4, TX4, 9, rfl, rfl⟩, tw_t (tb_3 (List.mem_of_getElem? (i := 70) rfl)) rfl, tw_t (tb_3 (List.mem_of_getElem? (i := 71) rfl)) rfl, tw_t (tb_1 (List.mem_of_getElem? (i := 4) rfl)) rfl, tw_t (tb_3 (List.mem_of_getElem? (i := 72) rfl)) rfl, by decide +kernel, by decide +kernel, by decide +kernel⟩
theorem cw_X4_isDigit : CSx yX4_isDigit cX4_isDigit 1 (some .boolean) 1 := ⟨tw_t (tb_2 (List.mem_of_getElem? (i := 223) rfl)) rfl, tw_t (tb_1 (List.mem_of_getElem? (i := 4) rfl)) rfl, tw_t (tb_2 (List.mem_of_getElem? (i := 224) rfl)) rfl, by decide +kernel, by decide +kernel, by decide +kernel⟩
theorem cw_X4_isName : CSx yX4_isName cX4_isName 1 (some .boolean) 1 := ⟨tw_t (tb_2 (List.mem_of_getElem? (i := 234) rfl)) rfl, tw_t (tb_1 (List.mem_of_getElem? (i := 4) rfl)) rfl, tw_t (tb_2 (List.mem_of_getElem? (i := 235) rfl)) rfl, by decide +kernel, by decide +kernel, by decide +kernel⟩
theorem cw_X4_joining : CSx yX4_joining cX4_joining 3 (some .int) 3 := ⟨tw_t (tb_3 (List.mem_of_getElem? (i := 98) rfl)) rfl, tw_t (tb_1 (List.mem_of_getElem? (i := 4) rfl)) rfl, tw_t (tb_3 (List.mem_of_getElem? (i := 99) rfl)) rfl, by decide +kernel, by decide +kernel, by decide +kernel⟩
theorem cw_X4_line : CVx yX4_line cX4_line 1 (some .boolean) 0 4 := ⟨⟨RX4, TX4, 9, rfl, rfl⟩, tw_t (tb_2 (List.mem_of_getElem? (i := 208) rfl)) rfl, tw_of (tb_s (pv_1 (List.mem_of_getElem? (i := 6) rfl))) rfl, tw_t (tb_1 (List.mem_of_getElem? (i := 4) rfl)) rfl, tw_t (tb_2 (List.mem_of_getElem? (i := 209) rfl)) rfl, by decide +kernel, by decide +kernel, by decide +kernel⟩
theorem cw_X4_named : CSx yX4_named cX4_named 7 (some .int) 7 := ⟨tw_t (tb_3 (List.mem_of_getElem? (i := 92) rfl)) rfl, tw_t (tb_1 (List.mem_of_getElem? (i := 4) rfl)) rfl, tw_t (tb_3 (List.mem_of_getElem? (i := 93) rfl)) rfl, by decide +kernel, by decide +kernel, by decide +kernel⟩
theorem cw_X4_namesLead : CVx yX4_namesLead cX4_namesLead 2 (some .boolean) 0 4 := ⟨⟨RX4, TX4, 9, rfl, rfl⟩, tw_t (tb_4 (List.mem_of_getElem? (i := 63) rfl)) rfl, tw_t (tb_4 (List.mem_of_getElem? (i := 64) rfl)) rfl, tw_t (tb_1 (List.mem_of_getElem? (i := 4) rfl)) rfl, tw_t (tb_4 (List.mem_of_getElem? (i := 65) rfl)) rfl, by decide +kernel, by decide +kernel, by decide +kernel⟩
theorem cw_X4_next : CVx yX4_next cX4_next 1 (some .int) 0 4 := ⟨⟨RX4, TX4, 9, rfl, rfl⟩, tw_t (tb_2 (List.mem_of_getElem? (i := 220) rfl)) rfl, tw_of (tb_s (pv_1 (List.mem_of_getElem? (i := 9) rfl))) rfl, tw_t (tb_1 (List.mem_of_getElem? (i := 4) rfl)) rfl, tw_t (tb_2 (List.mem_of_getElem? (i := 221) rfl)) rfl, by decide +kernel, by decide +kernel, by decide +kernel⟩
theorem cw_X4_number : CVx yX4_number cX4_number 3 none 0 4 := ⟨⟨RX4, TX4, 9, rfl, rfl⟩, tw_t (tb_2 (List.mem_of_getElem? (i := 227) rfl)) rfl, tw_of (tb_s (pv_1 (List.mem_of_getElem? (i := 10) rfl))) rfl, tw_t (tb_1 (List.mem_of_getElem? (i := 4) rfl)) rfl, tw_t (tb_2 (List.mem_of_getElem? (i := 228) rfl)) rfl, by decide +kernel, by decide +kernel, by decide +kernel⟩
theorem cw_X4_operand : CVx yX4_operand cX4_operand 3 (some .boolean) 1 4 := ⟨⟨RX4, TX4, 9, rfl, rfl⟩, tw_t (tb_2 (List.mem_of_getElem? (i := 216) rfl)) rfl, tw_of (tb_s (pv_1 (List.mem_of_getElem? (i := 8) rfl))) rfl, tw_t (tb_1 (List.mem_of_getElem? (i := 4) rfl)) rfl, tw_t (tb_2 (List.mem_of_getElem? (i := 217) rfl)) rfl, by decide +kernel, by decide +kernel, by decide +kernel⟩
theorem cw_X4_pop : CVx yX4_pop cX4_pop 1 (some .int) 0 4 := ⟨⟨RX4, TX4, 9, rfl, rfl⟩, tw_t (tb_3 (List.mem_of_getElem? (i := 81) rfl)) rfl, tw_of (tb_s (pv_2 (List.mem_of_getElem? (i := 2) rfl))) rfl, tw_t (tb_1 (List.mem_of_getElem? (i := 4) rfl)) rfl, tw_t (tb_3 (List.mem_of_getElem? (i := 82) rfl)) rfl, by decide +kernel, by decide +kernel, by decide +kernel⟩
theorem cw_X4_prefixed : CVx yX4_prefixed cX4_prefixed 3 (some .boolean) 2 4 := ⟨⟨RX4, TX4, 9, rfl, rfl⟩, tw_t (tb_3 (List.mem_of_getElem? (i := 2) rfl)) rfl, tw_of (tb_s (pv_1 (List.mem_of_getElem? (i := 13) rfl))) rfl, tw_t (tb_1 (List.mem_of_getElem? (i := 4) rfl)) rfl, tw_t (tb_3 (List.mem_of_getElem? (i := 3) rfl)) rfl, by decide +kernel, by decide +kernel, by decide +kernel⟩
theorem cw_X4_prefixing : CSx yX4_prefixing cX4_prefixing 2 (some .int) 2 := ⟨tw_t (tb_3 (List.mem_of_getElem? (i := 95) rfl)) rfl, tw_t (tb_1 (List.mem_of_getElem? (i := 4) rfl)) rfl, tw_t (tb_3 (List.mem_of_getElem? (i := 96) rfl)) rfl, by decide +kernel, by decide +kernel, by decide +kernel⟩
theorem cw_X4_push : CVx yX4_push cX4_push 2 none 1 4 := ⟨⟨RX4, TX4, 9, rfl, rfl⟩, tw_t (tb_3 (List.mem_of_getElem? (i := 89) rfl)) rfl, tw_of (tb_s (pv_2 (List.mem_of_getElem? (i := 4) rfl))) rfl, tw_t (tb_1 (List.mem_of_getElem? (i := 4) rfl)) rfl, tw_t (tb_3 (List.mem_of_getElem? (i := 90) rfl)) rfl, by decide +kernel, by decide +kernel, by decide +kernel⟩
theorem cw_X4_rankOf : CSx yX4_rankOf cX4_rankOf 1 (some .int) 1 := ⟨tw_t (tb_3 (List.mem_of_getElem? (i := 5) rfl)) rfl, tw_t (tb_1 (List.mem_of_getElem? (i := 4) rfl)) rfl, tw_t (tb_3 (List.mem_of_getElem? (i := 6) rfl)) rfl, by decide +kernel, by decide +kernel, by decide +kernel⟩
theorem cw_X4_text : CVx yX4_text cX4_text 2 (some .boolean) 0 4 := ⟨⟨RX4, TX4, 9, rfl, rfl⟩, tw_t (tb_2 (List.mem_of_getElem? (i := 204) rfl)) rfl, tw_of (tb_s (pv_1 (List.mem_of_getElem? (i := 5) rfl))) rfl, tw_t (tb_1 (List.mem_of_getElem? (i := 4) rfl)) rfl, tw_t (tb_2 (List.mem_of_getElem? (i := 205) rfl)) rfl, by decide +kernel, by decide +kernel, by decide +kernel⟩
theorem cw_X4_write : CVx yX4_write cX4_write 2 (some .boolean) 1 4 := ⟨⟨RX4, TX4, 9, rfl, rfl⟩, tw_t (tb_2 (List.mem_of_getElem? (i := 191) rfl)) rfl, tw_t (tb_2 (List.mem_of_getElem? (i := 192) rfl)) rfl, tw_t (tb_1 (List.mem_of_getElem? (i := 4) rfl)) rfl, tw_t (tb_2 (List.mem_of_getElem? (i := 193) rfl)) rfl, by decide +kernel, by decide +kernel, by decide +kernel⟩
theorem cw_X5_alikeWalkers : CVx yX5_alikeWalkers cX5_alikeWalkers 3 (some .int) 0 5 := ⟨⟨RX5, TX5, 6, rfl, rfl⟩, tw_t (tb_3 (List.mem_of_getElem? (i := 236) rfl)) rfl, tw_t (tb_3 (List.mem_of_getElem? (i := 237) rfl)) rfl, tw_t (tb_1 (List.mem_of_getElem? (i := 6) rfl)) rfl, tw_t (tb_3 (List.mem_of_getElem? (i := 238) rfl)) rfl, by decide +kernel, by decide +kernel, by decide +kernel⟩
theorem cw_X5_bestGuard : CVx yX5_bestGuard cX5_bestGuard 7 (some .int) 2 5 := ⟨⟨RX5, TX5, 6, rfl, rfl⟩, tw_t (tb_4 (List.mem_of_getElem? (i := 39) rfl)) rfl, tw_t (tb_4 (List.mem_of_getElem? (i := 40) rfl)) rfl, tw_t (tb_1 (List.mem_of_getElem? (i := 6) rfl)) rfl, tw_t (tb_4 (List.mem_of_getElem? (i := 41) rfl)) rfl, by decide +kernel, by decide +kernel, by decide +kernel⟩
theorem cw_X5_bestLook : CVx yX5_bestLook cX5_bestLook 5 (some .int) 0 5 := ⟨⟨RX5, TX5, 6, rfl, rfl⟩, tw_t (tb_4 (List.mem_of_getElem? (i := 4) rfl)) rfl, tw_t (tb_4 (List.mem_of_getElem? (i := 5) rfl)) rfl, tw_t (tb_1 (List.mem_of_getElem? (i := 6) rfl)) rfl, tw_t (tb_4 (List.mem_of_getElem? (i := 6) rfl)) rfl, by decide +kernel, by decide +kernel, by decide +kernel⟩
theorem cw_X5_cheapestWithout : CVx yX5_cheapestWithout cX5_cheapestWithout 9 (some .int) 3 5 := ⟨⟨RX5, TX5, 6, rfl, rfl⟩, tw_t (tb_4 (List.mem_of_getElem? (i := 26) rfl)) rfl, tw_t (tb_4 (List.mem_of_getElem? (i := 27) rfl)) rfl, tw_t (tb_1 (List.mem_of_getElem? (i := 6) rfl)) rfl, tw_t (tb_4 (List.mem_of_getElem? (i := 28) rfl)) rfl, by decide +kernel, by decide +kernel, by decide +kernel⟩
theorem cw_X5_daysWithAny : CVx yX5_daysWithAny cX5_daysWithAny 4 (some .int) 1 5 := ⟨⟨RX5, TX5, 6, rfl, rfl⟩, tw_t (tb_4 (List.mem_of_getElem? (i := 48) rfl)) rfl, tw_of (tb_s (pv_2 (List.mem_of_getElem? (i := 11) rfl))) rfl, tw_t (tb_1 (List.mem_of_getElem? (i := 6) rfl)) rfl, tw_t (tb_4 (List.mem_of_getElem? (i := 49) rfl)) rfl, by decide +kernel, by decide +kernel, by decide +kernel⟩
theorem cw_X5_firstFitting : CVx yX5_firstFitting cX5_firstFitting 1 (some .int) 0 5 := ⟨⟨RX5, TX5, 6, rfl, rfl⟩, tw_t (tb_3 (List.mem_of_getElem? (i := 232) rfl)) rfl, tw_t (tb_3 (List.mem_of_getElem? (i := 233) rfl)) rfl, tw_t (tb_1 (List.mem_of_getElem? (i := 6) rfl)) rfl, tw_t (tb_3 (List.mem_of_getElem? (i := 234) rfl)) rfl, by decide +kernel, by decide +kernel, by decide +kernel⟩
theorem cw_X5_greatestPart : CVx yX5_greatestPart cX5_greatestPart 5 (some .int) 1 5 := ⟨⟨RX5, TX5, 6, rfl, rfl⟩, tw_t (tb_4 (List.mem_of_getElem? (i := 19) rfl)) rfl, tw_of (tb_s (pv_2 (List.mem_of_getElem? (i := 9) rfl))) rfl, tw_t (tb_1 (List.mem_of_getElem? (i := 6) rfl)) rfl, tw_t (tb_4 (List.mem_of_getElem? (i := 20) rfl)) rfl, by decide +kernel, by decide +kernel, by decide +kernel⟩
theorem cw_X5_keepAlike : CVx yX5_keepAlike cX5_keepAlike 7 none 3 5 := ⟨⟨RX5, TX5, 6, rfl, rfl⟩, tw_t (tb_3 (List.mem_of_getElem? (i := 227) rfl)) rfl, tw_of (tb_s (pv_2 (List.mem_of_getElem? (i := 7) rfl))) rfl, tw_t (tb_1 (List.mem_of_getElem? (i := 6) rfl)) rfl, tw_t (tb_3 (List.mem_of_getElem? (i := 228) rfl)) rfl, by decide +kernel, by decide +kernel, by decide +kernel⟩
theorem cw_X5_markTracks : CVx yX5_markTracks cX5_markTracks 7 none 1 5 := ⟨⟨RX5, TX5, 6, rfl, rfl⟩, tw_t (tb_4 (List.mem_of_getElem? (i := 10) rfl)) rfl, tw_of (tb_s (pv_2 (List.mem_of_getElem? (i := 8) rfl))) rfl, tw_t (tb_1 (List.mem_of_getElem? (i := 6) rfl)) rfl, tw_t (tb_4 (List.mem_of_getElem? (i := 11) rfl)) rfl, by decide +kernel, by decide +kernel, by decide +kernel⟩
theorem cw_X5_markVisits : CVx yX5_markVisits cX5_markVisits 4 none 1 5 := ⟨⟨RX5, TX5, 6, rfl, rfl⟩, tw_t (tb_4 (List.mem_of_getElem? (i := 44) rfl)) rfl, tw_of (tb_s (pv_2 (List.mem_of_getElem? (i := 10) rfl))) rfl, tw_t (tb_1 (List.mem_of_getElem? (i := 6) rfl)) rfl, tw_t (tb_4 (List.mem_of_getElem? (i := 45) rfl)) rfl, by decide +kernel, by decide +kernel, by decide +kernel⟩
theorem cw_X5_narrowBy : CVx yX5_narrowBy cX5_narrowBy 4 (some .int) 1 5 := ⟨⟨RX5, TX5, 6, rfl, rfl⟩, tw_t (tb_3 (List.mem_of_getElem? (i := 213) rfl)) rfl, tw_t (tb_3 (List.mem_of_getElem? (i := 214) rfl)) rfl, tw_t (tb_1 (List.mem_of_getElem? (i := 6) rfl)) rfl, tw_t (tb_3 (List.mem_of_getElem? (i := 215) rfl)) rfl, by decide +kernel, by decide +kernel, by decide +kernel⟩
theorem cw_X5_surePlace : CVx yX5_surePlace cX5_surePlace 5 (some .int) 2 5 := ⟨⟨RX5, TX5, 6, rfl, rfl⟩, tw_t (tb_3 (List.mem_of_getElem? (i := 189) rfl)) rfl, tw_t (tb_3 (List.mem_of_getElem? (i := 190) rfl)) rfl, tw_t (tb_1 (List.mem_of_getElem? (i := 6) rfl)) rfl, tw_t (tb_3 (List.mem_of_getElem? (i := 191) rfl)) rfl, by decide +kernel, by decide +kernel, by decide +kernel⟩
theorem cw_X6_clear : CVx yX6_clear cX6_clear 1 none 0 6 := ⟨⟨RX6, TX6, 4, rfl, rfl⟩, tw_t (tb_5 (List.mem_of_getElem? (i := 10) rfl)) rfl, tw_t (tb_5 (List.mem_of_getElem? (i := 11) rfl)) rfl, tw_t (tb_1 (List.mem_of_getElem? (i := 11) rfl)) rfl, tw_t (tb_5 (List.mem_of_getElem? (i := 12) rfl)) rfl, by decide +kernel, by decide +kernel, by decide +kernel⟩
theorem cw_X6_hasPlaces : CVx yX6_hasPlaces cX6_hasPlaces 3 (some .boolean) 2 6 := ⟨⟨RX6, TX6, 4, rfl, rfl⟩, tw_t (tb_2 (List.mem_of_getElem? (i := 92) rfl)) rfl, tw_t (tb_2 (List.mem_of_getElem? (i := 93) rfl)) rfl, tw_t (tb_1 (List.mem_of_getElem? (i := 11) rfl)) rfl, tw_t (tb_2 (List.mem_of_getElem? (i := 94) rfl)) rfl, by decide +kernel, by decide +kernel, by decide +kernel⟩
theorem cw_X6_holdBody : CVx yX6_holdBody cX6_holdBody 2 none 1 6 := ⟨⟨RX6, TX6, 4, rfl, rfl⟩, tw_t (tb_5 (List.mem_of_getElem? (i := 18) rfl)) rfl, tw_t (tb_5 (List.mem_of_getElem? (i := 19) rfl)) rfl, tw_t (tb_1 (List.mem_of_getElem? (i := 11) rfl)) rfl, tw_t (tb_5 (List.mem_of_getElem? (i := 20) rfl)) rfl, by decide +kernel, by decide +kernel, by decide +kernel⟩
theorem cw_X6_holdRow : CVx yX6_holdRow cX6_holdRow 3 none 2 6 := ⟨⟨RX6, TX6, 4, rfl, rfl⟩, tw_t (tb_5 (List.mem_of_getElem? (i := 26) rfl)) rfl, tw_t (tb_5 (List.mem_of_getElem? (i := 27) rfl)) rfl, tw_t (tb_1 (List.mem_of_getElem? (i := 11) rfl)) rfl, tw_t (tb_5 (List.mem_of_getElem? (i := 28) rfl)) rfl, by decide +kernel, by decide +kernel, by decide +kernel⟩
theorem cw_X6_isWithin : CSx yX6_isWithin cX6_isWithin 3 (some .boolean) 2 := ⟨tw_t (tb_3 (List.mem_of_getElem? (i := 222) rfl)) rfl, tw_t (tb_1 (List.mem_of_getElem? (i := 11) rfl)) rfl, tw_t (tb_3 (List.mem_of_getElem? (i := 223) rfl)) rfl, by decide +kernel, by decide +kernel, by decide +kernel⟩
theorem cw_X6_refusalOfRow : CVx yX6_refusalOfRow cX6_refusalOfRow 1 (some .int) 0 6 := ⟨⟨RX6, TX6, 4, rfl, rfl⟩, tw_t (tb_5 (List.mem_of_getElem? (i := 41) rfl)) rfl, tw_t (tb_5 (List.mem_of_getElem? (i := 42) rfl)) rfl, tw_t (tb_1 (List.mem_of_getElem? (i := 11) rfl)) rfl, tw_t (tb_5 (List.mem_of_getElem? (i := 43) rfl)) rfl, by decide +kernel, by decide +kernel, by decide +kernel⟩
theorem cw_X6_refusalOfSort : CVx yX6_refusalOfSort cX6_refusalOfSort 2 (some .int) 1 6 := ⟨⟨RX6, TX6, 4, rfl, rfl⟩, tw_t (tb_2 (List.mem_of_getElem? (i := 84) rfl)) rfl, tw_t (tb_2 (List.mem_of_getElem? (i := 85) rfl)) rfl, tw_t (tb_1 (List.mem_of_getElem? (i := 11) rfl)) rfl, tw_t (tb_2 (List.mem_of_getElem? (i := 86) rfl)) rfl, by decide +kernel, by decide +kernel, by decide +kernel⟩
theorem cw_X6_set : CVx yX6_set cX6_set 4 none 2 6 := ⟨⟨RX6, TX6, 4, rfl, rfl⟩, tw_t (tb_5 (List.mem_of_getElem? (i := 46) rfl)) rfl, tw_t (tb_5 (List.mem_of_getElem? (i := 47) rfl)) rfl, tw_t (tb_1 (List.mem_of_getElem? (i := 11) rfl)) rfl, tw_t (tb_5 (List.mem_of_getElem? (i := 48) rfl)) rfl, by decide +kernel, by decide +kernel, by decide +kernel⟩
theorem cw_X6_tellsPlaces : CVx yX6_tellsPlaces cX6_tellsPlaces 4 (some .boolean) 2 6 := ⟨⟨RX6, TX6, 4, rfl, rfl⟩, tw_t (tb_2 (List.mem_of_getElem? (i := 88) rfl)) rfl, tw_t (tb_2 (List.mem_of_getElem? (i := 89) rfl)) rfl, tw_t (tb_1 (List.mem_of_getElem? (i := 11) rfl)) rfl, tw_t (tb_2 (List.mem_of_getElem? (i := 90) rfl)) rfl, by decide +kernel, by decide +kernel, by decide +kernel⟩
theorem cw_X6_tellsTracks : CVx yX6_tellsTracks cX6_tellsTracks 3 (some .boolean) 0 6 := ⟨⟨RX6, TX6, 4, rfl, rfl⟩, tw_t (tb_3 (List.mem_of_getElem? (i := 218) rfl)) rfl, tw_t (tb_3 (List.mem_of_getElem? (i := 219) rfl)) rfl, tw_t (tb_1 (List.mem_of_getElem? (i := 11) rfl)) rfl, tw_t (tb_3 (List.mem_of_getElem? (i := 220) rfl)) rfl, by decide +kernel, by decide +kernel, by decide +kernel⟩
theorem cw_X6_trimmed : CVx yX6_trimmed cX6_trimmed 3 (some .long) 1 6 := ⟨⟨RX6, TX6, 4, rfl, rfl⟩, tw_t (tb_5 (List.mem_of_getElem? (i := 51) rfl)) rfl, tw_of (tb_s (pv_3 (List.mem_of_getElem? (i := 6) rfl))) rfl, tw_t (tb_1 (List.mem_of_getElem? (i := 11) rfl)) rfl, tw_t (tb_5 (List.mem_of_getElem? (i := 52) rfl)) rfl, by decide +kernel, by decide +kernel, by decide +kernel⟩
theorem cw_X7_bestLead : CVx yX7_bestLead cX7_bestLead 9 (some .int) 2 7 := ⟨⟨RX7, TX7, 3, rfl, rfl⟩, tw_t (tb_4 (List.mem_of_getElem? (i := 55) rfl)) rfl, tw_t (tb_4 (List.mem_of_getElem? (i := 56) rfl)) rfl, tw_t (tb_1 (List.mem_of_getElem? (i := 7) rfl)) rfl, tw_t (tb_4 (List.mem_of_getElem? (i := 57) rfl)) rfl, by decide +kernel, by decide +kernel, by decide +kernel⟩
theorem cw_X7_countTried : CVx yX7_countTried cX7_countTried 3 (some .int) 1 7 := ⟨⟨RX7, TX7, 3, rfl, rfl⟩, tw_t (tb_4 (List.mem_of_getElem? (i := 92) rfl)) rfl, tw_of (tb_s (pv_2 (List.mem_of_getElem? (i := 12) rfl))) rfl, tw_t (tb_1 (List.mem_of_getElem? (i := 7) rfl)) rfl, tw_t (tb_4 (List.mem_of_getElem? (i := 93) rfl)) rfl, by decide +kernel, by decide +kernel, by decide +kernel⟩
theorem cw_X7_drawLeads : CVx yX7_drawLeads cX7_drawLeads 4 (some .int) 1 7 := ⟨⟨RX7, TX7, 3, rfl, rfl⟩, tw_t (tb_4 (List.mem_of_getElem? (i := 121) rfl)) rfl, tw_of (tb_s (pv_2 (List.mem_of_getElem? (i := 14) rfl))) rfl, tw_t (tb_1 (List.mem_of_getElem? (i := 7) rfl)) rfl, tw_t (tb_4 (List.mem_of_getElem? (i := 122) rfl)) rfl, by decide +kernel, by decide +kernel, by decide +kernel⟩
theorem cw_X7_giveLeadsBack : CVx yX7_giveLeadsBack cX7_giveLeadsBack 2 none 0 7 := ⟨⟨RX7, TX7, 3, rfl, rfl⟩, tw_t (tb_4 (List.mem_of_getElem? (i := 127) rfl)) rfl, tw_of (tb_s (pv_2 (List.mem_of_getElem? (i := 15) rfl))) rfl, tw_t (tb_1 (List.mem_of_getElem? (i := 7) rfl)) rfl, tw_t (tb_4 (List.mem_of_getElem? (i := 128) rfl)) rfl, by decide +kernel, by decide +kernel, by decide +kernel⟩
theorem cw_X7_keepLeads : CVx yX7_keepLeads cX7_keepLeads 2 none 0 7 := ⟨⟨RX7, TX7, 3, rfl, rfl⟩, tw_t (tb_4 (List.mem_of_getElem? (i := 117) rfl)) rfl, tw_of (tb_s (pv_2 (List.mem_of_getElem? (i := 13) rfl))) rfl, tw_t (tb_1 (List.mem_of_getElem? (i := 7) rfl)) rfl, tw_t (tb_4 (List.mem_of_getElem? (i := 118) rfl)) rfl, by decide +kernel, by decide +kernel, by decide +kernel⟩
theorem cw_X7_withDrawnLeads : CVx yX7_withDrawnLeads cX7_withDrawnLeads 8 (some .int) 3 7 := ⟨⟨RX7, TX7, 3, rfl, rfl⟩, tw_t (tb_4 (List.mem_of_getElem? (i := 112) rfl)) rfl, tw_t (tb_4 (List.mem_of_getElem? (i := 113) rfl)) rfl, tw_t (tb_1 (List.mem_of_getElem? (i := 7) rfl)) rfl, tw_t (tb_4 (List.mem_of_getElem? (i := 114) rfl)) rfl, by decide +kernel, by decide +kernel, by decide +kernel⟩
theorem cw_X7_withFalseTracks : CVx yX7_withFalseTracks cX7_withFalseTracks 4 (some .int) 3 7 := ⟨⟨RX7, TX7, 3, rfl, rfl⟩, tw_t (tb_4 (List.mem_of_getElem? (i := 83) rfl)) rfl, tw_t (tb_4 (List.mem_of_getElem? (i := 84) rfl)) rfl, tw_t (tb_1 (List.mem_of_getElem? (i := 7) rfl)) rfl, tw_t (tb_4 (List.mem_of_getElem? (i := 85) rfl)) rfl, by decide +kernel, by decide +kernel, by decide +kernel⟩
theorem cw_X7_withFlood : CVx yX7_withFlood cX7_withFlood 5 (some .int) 4 7 := ⟨⟨RX7, TX7, 3, rfl, rfl⟩, tw_t (tb_4 (List.mem_of_getElem? (i := 100) rfl)) rfl, tw_t (tb_4 (List.mem_of_getElem? (i := 101) rfl)) rfl, tw_t (tb_1 (List.mem_of_getElem? (i := 7) rfl)) rfl, tw_t (tb_4 (List.mem_of_getElem? (i := 102) rfl)) rfl, by decide +kernel, by decide +kernel, by decide +kernel⟩
theorem cw_X8_addWalker : CVx yX8_addWalker cX8_addWalker 2 (some .int) 0 8 := ⟨⟨RX8, TX8, 7, rfl, rfl⟩, tw_t (tb_2 (List.mem_of_getElem? (i := 97) rfl)) rfl, tw_t (tb_2 (List.mem_of_getElem? (i := 98) rfl)) rfl, tw_t (tb_1 (List.mem_of_getElem? (i := 2) rfl)) rfl, tw_t (tb_2 (List.mem_of_getElem? (i := 99) rfl)) rfl, by decide +kernel, by decide +kernel, by decide +kernel⟩
theorem cw_X8_addWay : CVx yX8_addWay cX8_addWay 8 (some .int) 4 8 := ⟨⟨RX8, TX8, 7, rfl, rfl⟩, tw_t (tb_2 (List.mem_of_getElem? (i := 101) rfl)) rfl, tw_t (tb_2 (List.mem_of_getElem? (i := 102) rfl)) rfl, tw_t (tb_1 (List.mem_of_getElem? (i := 2) rfl)) rfl, tw_t (tb_2 (List.mem_of_getElem? (i := 103) rfl)) rfl, by decide +kernel, by decide +kernel, by decide +kernel⟩
theorem cw_X8_allWaysOf : CSx yX8_allWaysOf cX8_allWaysOf 1 (some .int) 1 := ⟨tw_t (tb_3 (List.mem_of_getElem? (i := 47) rfl)) rfl, tw_t (tb_1 (List.mem_of_getElem? (i := 2) rfl)) rfl, tw_t (tb_3 (List.mem_of_getElem? (i := 48) rfl)) rfl, by decide +kernel, by decide +kernel, by decide +kernel⟩
theorem cw_X8_choice : CSx yX8_choice cX8_choice 2 (some .int) 2 := ⟨tw_t (tb_3 (List.mem_of_getElem? (i := 108) rfl)) rfl, tw_t (tb_1 (List.mem_of_getElem? (i := 2) rfl)) rfl, tw_t (tb_3 (List.mem_of_getElem? (i := 109) rfl)) rfl, by decide +kernel, by decide +kernel, by decide +kernel⟩
theorem cw_X8_firstMeeting : CVx yX8_firstMeeting cX8_firstMeeting 6 (some .int) 1 8 := ⟨⟨RX8, TX8, 7, rfl, rfl⟩, tw_t (tb_3 (List.mem_of_getElem? (i := 177) rfl)) rfl, tw_t (tb_3 (List.mem_of_getElem? (i := 178) rfl)) rfl, tw_t (tb_1 (List.mem_of_getElem? (i := 2) rfl)) rfl, tw_t (tb_3 (List.mem_of_getElem? (i := 179) rfl)) rfl, by decide +kernel, by decide +kernel, by decide +kernel⟩
theorem cw_X8_firstMeetingOfTwo : CVx yX8_firstMeetingOfTwo cX8_firstMeetingOfTwo 4 (some .int) 2 8 := ⟨⟨RX8, TX8, 7, rfl, rfl⟩, tw_t (tb_3 (List.mem_of_getElem? (i := 182) rfl)) rfl, tw_of (tb_s (pv_2 (List.mem_of_getElem? (i := 6) rfl))) rfl, tw_t (tb_1 (List.mem_of_getElem? (i := 2) rfl)) rfl, tw_t (tb_3 (List.mem_of_getElem? (i := 183) rfl)) rfl, by decide +kernel, by decide +kernel, by decide +kernel⟩
theorem cw_X8_goesBy : CVx yX8_goesBy cX8_goesBy 4 (some .boolean) 2 8 := ⟨⟨RX8, TX8, 7, rfl, rfl⟩, tw_t (tb_4 (List.mem_of_getElem? (i := 30) rfl)) rfl, tw_t (tb_4 (List.mem_of_getElem? (i := 31) rfl)) rfl, tw_t (tb_1 (List.mem_of_getElem? (i := 2) rfl)) rfl, tw_t (tb_4 (List.mem_of_getElem? (i := 32) rfl)) rfl, by decide +kernel, by decide +kernel, by decide +kernel⟩
theorem cw_X8_isDay : CVx yX8_isDay cX8_isDay 4 (some .boolean) 1 8 := ⟨⟨RX8, TX8, 7, rfl, rfl⟩, tw_t (tb_3 (List.mem_of_getElem? (i := 119) rfl)) rfl, tw_t (tb_3 (List.mem_of_getElem? (i := 120) rfl)) rfl, tw_t (tb_1 (List.mem_of_getElem? (i := 2) rfl)) rfl, tw_t (tb_3 (List.mem_of_getElem? (i := 121) rfl)) rfl, by decide +kernel, by decide +kernel, by decide +kernel⟩
theorem cw_X8_isTold : CVx yX8_isTold cX8_isTold 3 (some .boolean) 2 8 := ⟨⟨RX8, TX8, 7, rfl, rfl⟩, tw_t (tb_2 (List.mem_of_getElem? (i := 136) rfl)) rfl, tw_t (tb_2 (List.mem_of_getElem? (i := 137) rfl)) rfl, tw_t (tb_1 (List.mem_of_getElem? (i := 2) rfl)) rfl, tw_t (tb_2 (List.mem_of_getElem? (i := 138) rfl)) rfl, by decide +kernel, by decide +kernel, by decide +kernel⟩
theorem cw_X8_isWalker : CVx yX8_isWalker cX8_isWalker 2 (some .boolean) 1 8 := ⟨⟨RX8, TX8, 7, rfl, rfl⟩, tw_t (tb_2 (List.mem_of_getElem? (i := 128) rfl)) rfl, tw_t (tb_2 (List.mem_of_getElem? (i := 129) rfl)) rfl, tw_t (tb_1 (List.mem_of_getElem? (i := 2) rfl)) rfl, tw_t (tb_2 (List.mem_of_getElem? (i := 130) rfl)) rfl, by decide +kernel, by decide +kernel, by decide +kernel⟩
theorem cw_X8_isWay : CVx yX8_isWay cX8_isWay 3 (some .boolean) 2 8 := ⟨⟨RX8, TX8, 7, rfl, rfl⟩, tw_t (tb_2 (List.mem_of_getElem? (i := 178) rfl)) rfl, tw_t (tb_2 (List.mem_of_getElem? (i := 179) rfl)) rfl, tw_t (tb_1 (List.mem_of_getElem? (i := 2) rfl)) rfl, tw_t (tb_2 (List.mem_of_getElem? (i := 180) rfl)) rfl, by decide +kernel, by decide +kernel, by decide +kernel⟩
theorem cw_X8_lead : CVx yX8_lead cX8_lead 2 (some .int) 1 8 := ⟨⟨RX8, TX8, 7, rfl, rfl⟩, tw_t (tb_3 (List.mem_of_getElem? (i := 43) rfl)) rfl, tw_t (tb_3 (List.mem_of_getElem? (i := 44) rfl)) rfl, tw_t (tb_1 (List.mem_of_getElem? (i := 2) rfl)) rfl, tw_t (tb_3 (List.mem_of_getElem? (i := 45) rfl)) rfl, by decide +kernel, by decide +kernel, by decide +kernel⟩
theorem cw_X8_leavesTracks : CVx yX8_leavesTracks cX8_leavesTracks 7 (some .boolean) 3 8 := ⟨⟨RX8, TX8, 7, rfl, rfl⟩, tw_t (tb_3 (List.mem_of_getElem? (i := 40) rfl)) rfl, tw_of (tb_s (pv_2 (List.mem_of_getElem? (i := 1) rfl))) rfl, tw_t (tb_1 (List.mem_of_getElem? (i := 2) rfl)) rfl, tw_t (tb_3 (List.mem_of_getElem? (i := 41) rfl)) rfl, by decide +kernel, by decide +kernel, by decide +kernel⟩
theorem cw_X8_mayBecome : CSx yX8_mayBecome cX8_mayBecome 2 (some .boolean) 2 := ⟨tw_t (tb_2 (List.mem_of_getElem? (i := 144) rfl)) rfl, tw_t (tb_1 (List.mem_of_getElem? (i := 2) rfl)) rfl, tw_t (tb_2 (List.mem_of_getElem? (i := 145) rfl)) rfl, by decide +kernel, by decide +kernel, by decide +kernel⟩
theorem cw_X8_meetings : CVx yX8_meetings cX8_meetings 5 (some .int) 1 8 := ⟨⟨RX8, TX8, 7, rfl, rfl⟩, tw_t (tb_3 (List.mem_of_getElem? (i := 168) rfl)) rfl, tw_t (tb_3 (List.mem_of_getElem? (i := 169) rfl)) rfl, tw_t (tb_1 (List.mem_of_getElem? (i := 2) rfl)) rfl, tw_t (tb_3 (List.mem_of_getElem? (i := 170) rfl)) rfl, by decide +kernel, by decide +kernel, by decide +kernel⟩
theorem cw_X8_meetingsOfTwo : CVx yX8_meetingsOfTwo cX8_meetingsOfTwo 5 (some .int) 2 8 := ⟨⟨RX8, TX8, 7, rfl, rfl⟩, tw_t (tb_3 (List.mem_of_getElem? (i := 173) rfl)) rfl, tw_of (tb_s (pv_2 (List.mem_of_getElem? (i := 5) rfl))) rfl, tw_t (tb_1 (List.mem_of_getElem? (i := 2) rfl)) rfl, tw_t (tb_3 (List.mem_of_getElem? (i := 174) rfl)) rfl, by decide +kernel, by decide +kernel, by decide +kernel⟩
theorem cw_X8_minutesBetween : CVx yX8_minutesBetween cX8_minutesBetween 3 (some .int) 2 8 := ⟨⟨RX8, TX8, 7, rfl, rfl⟩, tw_t (tb_2 (List.mem_of_getElem? (i := 117) rfl)) rfl, tw_of (tb_s (pv_1 (List.mem_of_getElem? (i := 2) rfl))) rfl, tw_t (tb_1 (List.mem_of_getElem? (i := 2) rfl)) rfl, tw_t (tb_2 (List.mem_of_getElem? (i := 118) rfl)) rfl, by decide +kernel, by decide +kernel, by decide +kernel⟩
theorem cw_X8_placeAt : CVx yX8_placeAt cX8_placeAt 4 (some .int) 2 8 := ⟨⟨RX8, TX8, 7, rfl, rfl⟩, tw_t (tb_3 (List.mem_of_getElem? (i := 148) rfl)) rfl, tw_t (tb_3 (List.mem_of_getElem? (i := 149) rfl)) rfl, tw_t (tb_1 (List.mem_of_getElem? (i := 2) rfl)) rfl, tw_t (tb_3 (List.mem_of_getElem? (i := 150) rfl)) rfl, by decide +kernel, by decide +kernel, by decide +kernel⟩
theorem cw_X8_reckon : CVx yX8_reckon cX8_reckon 4 none 1 8 := ⟨⟨RX8, TX8, 7, rfl, rfl⟩, tw_t (tb_2 (List.mem_of_getElem? (i := 109) rfl)) rfl, tw_of (tb_s (pv_1 (List.mem_of_getElem? (i := 1) rfl))) rfl, tw_t (tb_1 (List.mem_of_getElem? (i := 2) rfl)) rfl, tw_t (tb_2 (List.mem_of_getElem? (i := 110) rfl)) rfl, by decide +kernel, by decide +kernel, by decide +kernel⟩
theorem cw_X8_reckonAll : CVx yX8_reckonAll cX8_reckonAll 2 none 0 8 := ⟨⟨RX8, TX8, 7, rfl, rfl⟩, tw_t (tb_2 (List.mem_of_getElem? (i := 171) rfl)) rfl, tw_of (tb_s (pv_1 (List.mem_of_getElem? (i := 4) rfl))) rfl, tw_t (tb_1 (List.mem_of_getElem? (i := 2) rfl)) rfl, tw_t (tb_2 (List.mem_of_getElem? (i := 172) rfl)) rfl, by decide +kernel, by decide +kernel, by decide +kernel⟩
theorem cw_X8_start : CVx yX8_start cX8_start 2 (some .int) 1 8 := ⟨⟨RX8, TX8, 7, rfl, rfl⟩, tw_t (tb_2 (List.mem_of_getElem? (i := 112) rfl)) rfl, tw_t (tb_2 (List.mem_of_getElem? (i := 113) rfl)) rfl, tw_t (tb_1 (List.mem_of_getElem? (i := 2) rfl)) rfl, tw_t (tb_2 (List.mem_of_getElem? (i := 114) rfl)) rfl, by decide +kernel, by decide +kernel, by decide +kernel⟩
theorem cw_X8_tell : CVx yX8_tell cX8_tell 4 none 3 8 := ⟨⟨RX8, TX8, 7, rfl, rfl⟩, tw_t (tb_2 (List.mem_of_getElem? (i := 166) rfl)) rfl, tw_t (tb_2 (List.mem_of_getElem? (i := 167) rfl)) rfl, tw_t (tb_1 (List.mem_of_getElem? (i := 2) rfl)) rfl, tw_t (tb_2 (List.mem_of_getElem? (i := 168) rfl)) rfl, by decide +kernel, by decide +kernel, by decide +kernel⟩
theorem cw_X8_told : CVx yX8_told cX8_told 3 (some .int) 2 8 := ⟨⟨RX8, TX8, 7, rfl, rfl⟩, tw_t (tb_2 (List.mem_of_getElem? (i := 151) rfl)) rfl, tw_t (tb_2 (List.mem_of_getElem? (i := 152) rfl)) rfl, tw_t (tb_1 (List.mem_of_getElem? (i := 2) rfl)) rfl, tw_t (tb_2 (List.mem_of_getElem? (i := 153) rfl)) rfl, by decide +kernel, by decide +kernel, by decide +kernel⟩
theorem cw_X8_tracks : CVx yX8_tracks cX8_tracks 5 (some .int) 2 8 := ⟨⟨RX8, TX8, 7, rfl, rfl⟩, tw_t (tb_3 (List.mem_of_getElem? (i := 35) rfl)) rfl, tw_t (tb_3 (List.mem_of_getElem? (i := 36) rfl)) rfl, tw_t (tb_1 (List.mem_of_getElem? (i := 2) rfl)) rfl, tw_t (tb_3 (List.mem_of_getElem? (i := 37) rfl)) rfl, by decide +kernel, by decide +kernel, by decide +kernel⟩
theorem cw_X8_tryLead : CVx yX8_tryLead cX8_tryLead 3 none 2 8 := ⟨⟨RX8, TX8, 7, rfl, rfl⟩, tw_t (tb_4 (List.mem_of_getElem? (i := 68) rfl)) rfl, tw_t (tb_4 (List.mem_of_getElem? (i := 69) rfl)) rfl, tw_t (tb_1 (List.mem_of_getElem? (i := 2) rfl)) rfl, tw_t (tb_4 (List.mem_of_getElem? (i := 70) rfl)) rfl, by decide +kernel, by decide +kernel, by decide +kernel⟩
theorem cw_X8_walkersOf : CSx yX8_walkersOf cX8_walkersOf 2 (some .int) 1 := ⟨tw_t (tb_3 (List.mem_of_getElem? (i := 66) rfl)) rfl, tw_t (tb_1 (List.mem_of_getElem? (i := 2) rfl)) rfl, tw_t (tb_3 (List.mem_of_getElem? (i := 67) rfl)) rfl, by decide +kernel, by decide +kernel, by decide +kernel⟩
theorem cw_X8_wayIndex : CSx yX8_wayIndex cX8_wayIndex 2 (some .int) 2 := ⟨tw_t (tb_2 (List.mem_of_getElem? (i := 105) rfl)) rfl, tw_t (tb_1 (List.mem_of_getElem? (i := 2) rfl)) rfl, tw_t (tb_2 (List.mem_of_getElem? (i := 106) rfl)) rfl, by decide +kernel, by decide +kernel, by decide +kernel⟩
theorem cw_X8_wayOn : CSx yX8_wayOn cX8_wayOn 2 (some .int) 2 := ⟨tw_t (tb_3 (List.mem_of_getElem? (i := 131) rfl)) rfl, tw_t (tb_1 (List.mem_of_getElem? (i := 2) rfl)) rfl, tw_t (tb_3 (List.mem_of_getElem? (i := 132) rfl)) rfl, by decide +kernel, by decide +kernel, by decide +kernel⟩
theorem cw_X8_waysOfAll : CVx yX8_waysOfAll cX8_waysOfAll 3 (some .int) 0 8 := ⟨⟨RX8, TX8, 7, rfl, rfl⟩, tw_t (tb_5 (List.mem_of_getElem? (i := 75) rfl)) rfl, tw_t (tb_5 (List.mem_of_getElem? (i := 76) rfl)) rfl, tw_t (tb_1 (List.mem_of_getElem? (i := 2) rfl)) rfl, tw_t (tb_5 (List.mem_of_getElem? (i := 77) rfl)) rfl, by decide +kernel, by decide +kernel, by decide +kernel⟩
theorem cw_X8_waysOn : CVx yX8_waysOn cX8_waysOn 4 (some .int) 1 8 := ⟨⟨RX8, TX8, 7, rfl, rfl⟩, tw_t (tb_3 (List.mem_of_getElem? (i := 127) rfl)) rfl, tw_t (tb_3 (List.mem_of_getElem? (i := 128) rfl)) rfl, tw_t (tb_1 (List.mem_of_getElem? (i := 2) rfl)) rfl, tw_t (tb_3 (List.mem_of_getElem? (i := 129) rfl)) rfl, by decide +kernel, by decide +kernel, by decide +kernel⟩
theorem cw_X8_withWay : CSx yX8_withWay cX8_withWay 3 (some .int) 3 := ⟨tw_t (tb_4 (List.mem_of_getElem? (i := 147) rfl)) rfl, tw_t (tb_1 (List.mem_of_getElem? (i := 2) rfl)) rfl, tw_t (tb_4 (List.mem_of_getElem? (i := 148) rfl)) rfl, by decide +kernel, by decide +kernel, by decide +kernel⟩
theorem cw_X9_act : CVx yX9_act cX9_act 4 (some .int) 3 9 := ⟨⟨RX9, TX9, 9, rfl, rfl⟩, tw_t (tb_4 (List.mem_of_getElem? (i := 200) rfl)) rfl, tw_t (tb_4 (List.mem_of_getElem? (i := 201) rfl)) rfl, tw_t (tb_1 (List.mem_of_getElem? (i := 1) rfl)) rfl, tw_t (tb_4 (List.mem_of_getElem? (i := 202) rfl)) rfl, by decide +kernel, by decide +kernel, by decide +kernel⟩
theorem cw_X9_back : CVx yX9_back cX9_back 1 (some .int) 0 9 := ⟨⟨RX9, TX9, 9, rfl, rfl⟩, tw_t (tb_4 (List.mem_of_getElem? (i := 163) rfl)) rfl, tw_t (tb_4 (List.mem_of_getElem? (i := 164) rfl)) rfl, tw_t (tb_1 (List.mem_of_getElem? (i := 1) rfl)) rfl, tw_t (tb_4 (List.mem_of_getElem? (i := 165) rfl)) rfl, by decide +kernel, by decide +kernel, by decide +kernel⟩
theorem cw_X9_body : CVx yX9_body cX9_body 3 (some .int) 1 9 := ⟨⟨RX9, TX9, 9, rfl, rfl⟩, tw_t (tb_4 (List.mem_of_getElem? (i := 192) rfl)) rfl, tw_t (tb_4 (List.mem_of_getElem? (i := 193) rfl)) rfl, tw_t (tb_1 (List.mem_of_getElem? (i := 1) rfl)) rfl, tw_t (tb_4 (List.mem_of_getElem? (i := 194) rfl)) rfl, by decide +kernel, by decide +kernel, by decide +kernel⟩
theorem cw_X9_cheapest : CVx yX9_cheapest cX9_cheapest 4 (some .int) 3 9 := ⟨⟨RX9, TX9, 9, rfl, rfl⟩, tw_t (tb_4 (List.mem_of_getElem? (i := 22) rfl)) rfl, tw_t (tb_4 (List.mem_of_getElem? (i := 23) rfl)) rfl, tw_t (tb_1 (List.mem_of_getElem? (i := 1) rfl)) rfl, tw_t (tb_4 (List.mem_of_getElem? (i := 24) rfl)) rfl, by decide +kernel, by decide +kernel, by decide +kernel⟩
theorem cw_X9_count : CVx yX9_count cX9_count 2 (some .int) 1 9 := ⟨⟨RX9, TX9, 9, rfl, rfl⟩, tw_t (tb_5 (List.mem_of_getElem? (i := 71) rfl)) rfl, tw_t (tb_5 (List.mem_of_getElem? (i := 72) rfl)) rfl, tw_t (tb_1 (List.mem_of_getElem? (i := 1) rfl)) rfl, tw_t (tb_5 (List.mem_of_getElem? (i := 73) rfl)) rfl, by decide +kernel, by decide +kernel, by decide +kernel⟩
theorem cw_X9_day : CVx yX9_day cX9_day 4 (some .int) 2 9 := ⟨⟨RX9, TX9, 9, rfl, rfl⟩, tw_t (tb_3 (List.mem_of_getElem? (i := 115) rfl)) rfl, tw_t (tb_3 (List.mem_of_getElem? (i := 116) rfl)) rfl, tw_t (tb_1 (List.mem_of_getElem? (i := 1) rfl)) rfl, tw_t (tb_3 (List.mem_of_getElem? (i := 117) rfl)) rfl, by decide +kernel, by decide +kernel, by decide +kernel⟩
theorem cw_X9_drawn : CVx yX9_drawn cX9_drawn 4 (some .int) 3 9 := ⟨⟨RX9, TX9, 9, rfl, rfl⟩, tw_t (tb_4 (List.mem_of_getElem? (i := 108) rfl)) rfl, tw_t (tb_4 (List.mem_of_getElem? (i := 109) rfl)) rfl, tw_t (tb_1 (List.mem_of_getElem? (i := 1) rfl)) rfl, tw_t (tb_4 (List.mem_of_getElem? (i := 110) rfl)) rfl, by decide +kernel, by decide +kernel, by decide +kernel⟩
theorem cw_X9_element : CVx yX9_element cX9_element 3 (some .long) 2 9 := ⟨⟨RX9, TX9, 9, rfl, rfl⟩, tw_t (tb_5 (List.mem_of_getElem? (i := 54) rfl)) rfl, tw_t (tb_5 (List.mem_of_getElem? (i := 55) rfl)) rfl, tw_t (tb_1 (List.mem_of_getElem? (i := 1) rfl)) rfl, tw_t (tb_5 (List.mem_of_getElem? (i := 56) rfl)) rfl, by decide +kernel, by decide +kernel, by decide +kernel⟩
theorem cw_X9_elementRefusal : CVx yX9_elementRefusal cX9_elementRefusal 4 (some .int) 2 9 := ⟨⟨RX9, TX9, 9, rfl, rfl⟩, tw_t (tb_5 (List.mem_of_getElem? (i := 38) rfl)) rfl, tw_of (tb_s (pv_3 (List.mem_of_getElem? (i := 5) rfl))) rfl, tw_t (tb_1 (List.mem_of_getElem? (i := 1) rfl)) rfl, tw_t (tb_5 (List.mem_of_getElem? (i := 39) rfl)) rfl, by decide +kernel, by decide +kernel, by decide +kernel⟩
theorem cw_X9_feed : CVx yX9_feed cX9_feed 2 (some .int) 1 9 := ⟨⟨RX9, TX9, 9, rfl, rfl⟩, tw_t (tb_2 (List.mem_of_getElem? (i := 187) rfl)) rfl, tw_t (tb_2 (List.mem_of_getElem? (i := 188) rfl)) rfl, tw_t (tb_1 (List.mem_of_getElem? (i := 1) rfl)) rfl, tw_t (tb_2 (List.mem_of_getElem? (i := 189) rfl)) rfl, by decide +kernel, by decide +kernel, by decide +kernel⟩
theorem cw_X9_feigned : CVx yX9_feigned cX9_feigned 4 (some .int) 3 9 := ⟨⟨RX9, TX9, 9, rfl, rfl⟩, tw_t (tb_4 (List.mem_of_getElem? (i := 79) rfl)) rfl, tw_t (tb_4 (List.mem_of_getElem? (i := 80) rfl)) rfl, tw_t (tb_1 (List.mem_of_getElem? (i := 1) rfl)) rfl, tw_t (tb_4 (List.mem_of_getElem? (i := 81) rfl)) rfl, by decide +kernel, by decide +kernel, by decide +kernel⟩
theorem cw_X9_flood : CVx yX9_flood cX9_flood 4 (some .int) 3 9 := ⟨⟨RX9, TX9, 9, rfl, rfl⟩, tw_t (tb_4 (List.mem_of_getElem? (i := 96) rfl)) rfl, tw_t (tb_4 (List.mem_of_getElem? (i := 97) rfl)) rfl, tw_t (tb_1 (List.mem_of_getElem? (i := 1) rfl)) rfl, tw_t (tb_4 (List.mem_of_getElem? (i := 98) rfl)) rfl, by decide +kernel, by decide +kernel, by decide +kernel⟩
theorem cw_X9_follow : CVx yX9_follow cX9_follow 3 (some .int) 2 9 := ⟨⟨RX9, TX9, 9, rfl, rfl⟩, tw_t (tb_3 (List.mem_of_getElem? (i := 196) rfl)) rfl, tw_t (tb_3 (List.mem_of_getElem? (i := 197) rfl)) rfl, tw_t (tb_1 (List.mem_of_getElem? (i := 1) rfl)) rfl, tw_t (tb_3 (List.mem_of_getElem? (i := 198) rfl)) rfl, by decide +kernel, by decide +kernel, by decide +kernel⟩
theorem cw_X9_guard : CVx yX9_guard cX9_guard 3 (some .int) 2 9 := ⟨⟨RX9, TX9, 9, rfl, rfl⟩, tw_t (tb_4 (List.mem_of_getElem? (i := 35) rfl)) rfl, tw_t (tb_4 (List.mem_of_getElem? (i := 36) rfl)) rfl, tw_t (tb_1 (List.mem_of_getElem? (i := 1) rfl)) rfl, tw_t (tb_4 (List.mem_of_getElem? (i := 37) rfl)) rfl, by decide +kernel, by decide +kernel, by decide +kernel⟩
theorem cw_X9_holding : CVx yX9_holding cX9_holding 2 (some .int) 1 9 := ⟨⟨RX9, TX9, 9, rfl, rfl⟩, tw_t (tb_3 (List.mem_of_getElem? (i := 9) rfl)) rfl, tw_t (tb_3 (List.mem_of_getElem? (i := 10) rfl)) rfl, tw_t (tb_1 (List.mem_of_getElem? (i := 1) rfl)) rfl, tw_t (tb_3 (List.mem_of_getElem? (i := 11) rfl)) rfl, by decide +kernel, by decide +kernel, by decide +kernel⟩
theorem cw_X9_image : CVx yX9_image cX9_image 1 (some .int) 0 9 := ⟨⟨RX9, TX9, 9, rfl, rfl⟩, tw_t (tb_4 (List.mem_of_getElem? (i := 154) rfl)) rfl, tw_t (tb_4 (List.mem_of_getElem? (i := 155) rfl)) rfl, tw_t (tb_1 (List.mem_of_getElem? (i := 1) rfl)) rfl, tw_t (tb_4 (List.mem_of_getElem? (i := 156) rfl)) rfl, by decide +kernel, by decide +kernel, by decide +kernel⟩
theorem cw_X9_isMinute : CSx yX9_isMinute cX9_isMinute 1 (some .boolean) 1 := ⟨tw_t (tb_3 (List.mem_of_getElem? (i := 144) rfl)) rfl, tw_t (tb_1 (List.mem_of_getElem? (i := 1) rfl)) rfl, tw_t (tb_3 (List.mem_of_getElem? (i := 145) rfl)) rfl, by decide +kernel, by decide +kernel, by decide +kernel⟩
theorem cw_X9_isPlace : CSx yX9_isPlace cX9_isPlace 1 (some .boolean) 1 := ⟨tw_t (tb_2 (List.mem_of_getElem? (i := 140) rfl)) rfl, tw_t (tb_1 (List.mem_of_getElem? (i := 1) rfl)) rfl, tw_t (tb_2 (List.mem_of_getElem? (i := 141) rfl)) rfl, by decide +kernel, by decide +kernel, by decide +kernel⟩
theorem cw_X9_isShelf : CSx yX9_isShelf cX9_isShelf 1 (some .boolean) 1 := ⟨tw_t (tb_2 (List.mem_of_getElem? (i := 81) rfl)) rfl, tw_t (tb_1 (List.mem_of_getElem? (i := 1) rfl)) rfl, tw_t (tb_2 (List.mem_of_getElem? (i := 82) rfl)) rfl, by decide +kernel, by decide +kernel, by decide +kernel⟩
theorem cw_X9_isZeroOrOne : CSx yX9_isZeroOrOne cX9_isZeroOrOne 1 (some .boolean) 1 := ⟨tw_t (tb_3 (List.mem_of_getElem? (i := 124) rfl)) rfl, tw_t (tb_1 (List.mem_of_getElem? (i := 1) rfl)) rfl, tw_t (tb_3 (List.mem_of_getElem? (i := 125) rfl)) rfl, by decide +kernel, by decide +kernel, by decide +kernel⟩
theorem cw_X9_keep : CVx yX9_keep cX9_keep 3 (some .int) 2 9 := ⟨⟨RX9, TX9, 9, rfl, rfl⟩, tw_t (tb_5 (List.mem_of_getElem? (i := 5) rfl)) rfl, tw_t (tb_5 (List.mem_of_getElem? (i := 6) rfl)) rfl, tw_t (tb_1 (List.mem_of_getElem? (i := 1) rfl)) rfl, tw_t (tb_5 (List.mem_of_getElem? (i := 7) rfl)) rfl, by decide +kernel, by decide +kernel, by decide +kernel⟩
theorem cw_X9_law : CVx yX9_law cX9_law 2 (some .int) 0 9 := ⟨⟨RX9, TX9, 9, rfl, rfl⟩, tw_t (tb_2 (List.mem_of_getElem? (i := 195) rfl)) rfl, tw_t (tb_2 (List.mem_of_getElem? (i := 196) rfl)) rfl, tw_t (tb_1 (List.mem_of_getElem? (i := 1) rfl)) rfl, tw_t (tb_2 (List.mem_of_getElem? (i := 197) rfl)) rfl, by decide +kernel, by decide +kernel, by decide +kernel⟩
theorem cw_X9_led : CVx yX9_led cX9_led 2 (some .int) 1 9 := ⟨⟨RX9, TX9, 9, rfl, rfl⟩, tw_t (tb_4 (List.mem_of_getElem? (i := 150) rfl)) rfl, tw_t (tb_4 (List.mem_of_getElem? (i := 151) rfl)) rfl, tw_t (tb_1 (List.mem_of_getElem? (i := 1) rfl)) rfl, tw_t (tb_4 (List.mem_of_getElem? (i := 152) rfl)) rfl, by decide +kernel, by decide +kernel, by decide +kernel⟩
theorem cw_X9_live : CVx yX9_live cX9_live 4 (some .int) 1 9 := ⟨⟨RX9, TX9, 9, rfl, rfl⟩, tw_t (tb_4 (List.mem_of_getElem? (i := 130) rfl)) rfl, tw_t (tb_4 (List.mem_of_getElem? (i := 131) rfl)) rfl, tw_t (tb_1 (List.mem_of_getElem? (i := 1) rfl)) rfl, tw_t (tb_4 (List.mem_of_getElem? (i := 132) rfl)) rfl, by decide +kernel, by decide +kernel, by decide +kernel⟩
theorem cw_X9_look : CVx yX9_look cX9_look 3 (some .int) 1 9 := ⟨⟨RX9, TX9, 9, rfl, rfl⟩, tw_t (tb_4 (List.mem_of_getElem? (i := 0) rfl)) rfl, tw_t (tb_4 (List.mem_of_getElem? (i := 1) rfl)) rfl, tw_t (tb_1 (List.mem_of_getElem? (i := 1) rfl)) rfl, tw_t (tb_4 (List.mem_of_getElem? (i := 2) rfl)) rfl, by decide +kernel, by decide +kernel, by decide +kernel⟩
theorem cw_X9_meet : CVx yX9_meet cX9_meet 3 (some .int) 2 9 := ⟨⟨RX9, TX9, 9, rfl, rfl⟩, tw_t (tb_3 (List.mem_of_getElem? (i := 164) rfl)) rfl, tw_t (tb_3 (List.mem_of_getElem? (i := 165) rfl)) rfl, tw_t (tb_1 (List.mem_of_getElem? (i := 1) rfl)) rfl, tw_t (tb_3 (List.mem_of_getElem? (i := 166) rfl)) rfl, by decide +kernel, by decide +kernel, by decide +kernel⟩
theorem cw_X9_mend : CVx yX9_mend cX9_mend 5 (some .int) 3 9 := ⟨⟨RX9, TX9, 9, rfl, rfl⟩, tw_t (tb_2 (List.mem_of_getElem? (i := 132) rfl)) rfl, tw_t (tb_2 (List.mem_of_getElem? (i := 133) rfl)) rfl, tw_t (tb_1 (List.mem_of_getElem? (i := 1) rfl)) rfl, tw_t (tb_2 (List.mem_of_getElem? (i := 134) rfl)) rfl, by decide +kernel, by decide +kernel, by decide +kernel⟩
theorem cw_X9_of : CVx yX9_of cX9_of 3 (some .int) 2 9 := ⟨⟨RX9, TX9, 9, rfl, rfl⟩, tw_t (tb_2 (List.mem_of_getElem? (i := 174) rfl)) rfl, tw_t (tb_2 (List.mem_of_getElem? (i := 175) rfl)) rfl, tw_t (tb_1 (List.mem_of_getElem? (i := 1) rfl)) rfl, tw_t (tb_2 (List.mem_of_getElem? (i := 176) rfl)) rfl, by decide +kernel, by decide +kernel, by decide +kernel⟩
theorem cw_X9_place : CVx yX9_place cX9_place 4 (some .int) 2 9 := ⟨⟨RX9, TX9, 9, rfl, rfl⟩, tw_t (tb_2 (List.mem_of_getElem? (i := 183) rfl)) rfl, tw_t (tb_2 (List.mem_of_getElem? (i := 184) rfl)) rfl, tw_t (tb_1 (List.mem_of_getElem? (i := 1) rfl)) rfl, tw_t (tb_2 (List.mem_of_getElem? (i := 185) rfl)) rfl, by decide +kernel, by decide +kernel, by decide +kernel⟩
theorem cw_X9_put : CVx yX9_put cX9_put 6 (some .int) 3 9 := ⟨⟨RX9, TX9, 9, rfl, rfl⟩, tw_t (tb_5 (List.mem_of_getElem? (i := 33) rfl)) rfl, tw_t (tb_5 (List.mem_of_getElem? (i := 34) rfl)) rfl, tw_t (tb_1 (List.mem_of_getElem? (i := 1) rfl)) rfl, tw_t (tb_5 (List.mem_of_getElem? (i := 35) rfl)) rfl, by decide +kernel, by decide +kernel, by decide +kernel⟩
theorem cw_X9_read : CVx yX9_read cX9_read 4 (some .int) 2 9 := ⟨⟨RX9, TX9, 9, rfl, rfl⟩, tw_t (tb_3 (List.mem_of_getElem? (i := 209) rfl)) rfl, tw_t (tb_3 (List.mem_of_getElem? (i := 210) rfl)) rfl, tw_t (tb_1 (List.mem_of_getElem? (i := 1) rfl)) rfl, tw_t (tb_3 (List.mem_of_getElem? (i := 211) rfl)) rfl, by decide +kernel, by decide +kernel, by decide +kernel⟩
theorem cw_X9_redo : CVx yX9_redo cX9_redo 1 (some .int) 0 9 := ⟨⟨RX9, TX9, 9, rfl, rfl⟩, tw_t (tb_4 (List.mem_of_getElem? (i := 180) rfl)) rfl, tw_t (tb_4 (List.mem_of_getElem? (i := 181) rfl)) rfl, tw_t (tb_1 (List.mem_of_getElem? (i := 1) rfl)) rfl, tw_t (tb_4 (List.mem_of_getElem? (i := 182) rfl)) rfl, by decide +kernel, by decide +kernel, by decide +kernel⟩
theorem cw_X9_row : CVx yX9_row cX9_row 4 (some .int) 3 9 := ⟨⟨RX9, TX9, 9, rfl, rfl⟩, tw_t (tb_5 (List.mem_of_getElem? (i := 22) rfl)) rfl, tw_t (tb_5 (List.mem_of_getElem? (i := 23) rfl)) rfl, tw_t (tb_1 (List.mem_of_getElem? (i := 1) rfl)) rfl, tw_t (tb_5 (List.mem_of_getElem? (i := 24) rfl)) rfl, by decide +kernel, by decide +kernel, by decide +kernel⟩
theorem cw_X9_sees : CVx yX9_sees cX9_sees 4 (some .int) 3 9 := ⟨⟨RX9, TX9, 9, rfl, rfl⟩, tw_t (tb_3 (List.mem_of_getElem? (i := 152) rfl)) rfl, tw_t (tb_3 (List.mem_of_getElem? (i := 153) rfl)) rfl, tw_t (tb_1 (List.mem_of_getElem? (i := 1) rfl)) rfl, tw_t (tb_3 (List.mem_of_getElem? (i := 154) rfl)) rfl, by decide +kernel, by decide +kernel, by decide +kernel⟩
theorem cw_X9_shift : CVx yX9_shift cX9_shift 8 (some .int) 5 9 := ⟨⟨RX9, TX9, 9, rfl, rfl⟩, tw_t (tb_5 (List.mem_of_getElem? (i := 59) rfl)) rfl, tw_t (tb_5 (List.mem_of_getElem? (i := 60) rfl)) rfl, tw_t (tb_1 (List.mem_of_getElem? (i := 1) rfl)) rfl, tw_t (tb_5 (List.mem_of_getElem? (i := 61) rfl)) rfl, by decide +kernel, by decide +kernel, by decide +kernel⟩
theorem cw_X9_shoes : CVx yX9_shoes cX9_shoes 3 (some .int) 2 9 := ⟨⟨RX9, TX9, 9, rfl, rfl⟩, tw_t (tb_4 (List.mem_of_getElem? (i := 51) rfl)) rfl, tw_t (tb_4 (List.mem_of_getElem? (i := 52) rfl)) rfl, tw_t (tb_1 (List.mem_of_getElem? (i := 1) rfl)) rfl, tw_t (tb_4 (List.mem_of_getElem? (i := 53) rfl)) rfl, by decide +kernel, by decide +kernel, by decide +kernel⟩
theorem cw_X9_step : CVx yX9_step cX9_step 7 (some .int) 2 9 := ⟨⟨RX9, TX9, 9, rfl, rfl⟩, tw_t (tb_4 (List.mem_of_getElem? (i := 138) rfl)) rfl, tw_t (tb_4 (List.mem_of_getElem? (i := 139) rfl)) rfl, tw_t (tb_1 (List.mem_of_getElem? (i := 1) rfl)) rfl, tw_t (tb_4 (List.mem_of_getElem? (i := 140) rfl)) rfl, by decide +kernel, by decide +kernel, by decide +kernel⟩
theorem cw_X9_sure : CVx yX9_sure cX9_sure 3 (some .int) 2 9 := ⟨⟨RX9, TX9, 9, rfl, rfl⟩, tw_t (tb_3 (List.mem_of_getElem? (i := 185) rfl)) rfl, tw_t (tb_3 (List.mem_of_getElem? (i := 186) rfl)) rfl, tw_t (tb_1 (List.mem_of_getElem? (i := 1) rfl)) rfl, tw_t (tb_3 (List.mem_of_getElem? (i := 187) rfl)) rfl, by decide +kernel, by decide +kernel, by decide +kernel⟩
theorem cw_X9_taken : CVx yX9_taken cX9_taken 4 (some .int) 2 9 := ⟨⟨RX9, TX9, 9, rfl, rfl⟩, tw_t (tb_5 (List.mem_of_getElem? (i := 64) rfl)) rfl, tw_t (tb_5 (List.mem_of_getElem? (i := 65) rfl)) rfl, tw_t (tb_1 (List.mem_of_getElem? (i := 1) rfl)) rfl, tw_t (tb_5 (List.mem_of_getElem? (i := 66) rfl)) rfl, by decide +kernel, by decide +kernel, by decide +kernel⟩
theorem cw_X9_takes : CVx yX9_takes cX9_takes 3 (some .int) 2 9 := ⟨⟨RX9, TX9, 9, rfl, rfl⟩, tw_t (tb_3 (List.mem_of_getElem? (i := 159) rfl)) rfl, tw_t (tb_3 (List.mem_of_getElem? (i := 160) rfl)) rfl, tw_t (tb_1 (List.mem_of_getElem? (i := 1) rfl)) rfl, tw_t (tb_3 (List.mem_of_getElem? (i := 161) rfl)) rfl, by decide +kernel, by decide +kernel, by decide +kernel⟩
theorem cw_X9_trace : CVx yX9_trace cX9_trace 2 (some .int) 1 9 := ⟨⟨RX9, TX9, 9, rfl, rfl⟩, tw_t (tb_4 (List.mem_of_getElem? (i := 237) rfl)) rfl, tw_t (tb_4 (List.mem_of_getElem? (i := 238) rfl)) rfl, tw_t (tb_1 (List.mem_of_getElem? (i := 1) rfl)) rfl, tw_t (tb_4 (List.mem_of_getElem? (i := 239) rfl)) rfl, by decide +kernel, by decide +kernel, by decide +kernel⟩
theorem cw_X9_undo : CVx yX9_undo cX9_undo 1 (some .int) 0 9 := ⟨⟨RX9, TX9, 9, rfl, rfl⟩, tw_t (tb_4 (List.mem_of_getElem? (i := 171) rfl)) rfl, tw_t (tb_4 (List.mem_of_getElem? (i := 172) rfl)) rfl, tw_t (tb_1 (List.mem_of_getElem? (i := 1) rfl)) rfl, tw_t (tb_4 (List.mem_of_getElem? (i := 173) rfl)) rfl, by decide +kernel, by decide +kernel, by decide +kernel⟩
theorem cw_X9_walker : CVx yX9_walker cX9_walker 5 (some .int) 2 9 := ⟨⟨RX9, TX9, 9, rfl, rfl⟩, tw_t (tb_2 (List.mem_of_getElem? (i := 73) rfl)) rfl, tw_t (tb_2 (List.mem_of_getElem? (i := 74) rfl)) rfl, tw_t (tb_1 (List.mem_of_getElem? (i := 1) rfl)) rfl, tw_t (tb_2 (List.mem_of_getElem? (i := 75) rfl)) rfl, by decide +kernel, by decide +kernel, by decide +kernel⟩
theorem cw_X9_way : CVx yX9_way cX9_way 6 (some .int) 3 9 := ⟨⟨RX9, TX9, 9, rfl, rfl⟩, tw_t (tb_2 (List.mem_of_getElem? (i := 124) rfl)) rfl, tw_t (tb_2 (List.mem_of_getElem? (i := 125) rfl)) rfl, tw_t (tb_1 (List.mem_of_getElem? (i := 1) rfl)) rfl, tw_t (tb_2 (List.mem_of_getElem? (i := 126) rfl)) rfl, by decide +kernel, by decide +kernel, by decide +kernel⟩
theorem cw_X9_wayRefusal : CVx yX9_wayRefusal cX9_wayRefusal 4 (some .int) 2 9 := ⟨⟨RX9, TX9, 9, rfl, rfl⟩, tw_t (tb_2 (List.mem_of_getElem? (i := 78) rfl)) rfl, tw_of (tb_s (pv_1 (List.mem_of_getElem? (i := 0) rfl))) rfl, tw_t (tb_1 (List.mem_of_getElem? (i := 1) rfl)) rfl, tw_t (tb_2 (List.mem_of_getElem? (i := 79) rfl)) rfl, by decide +kernel, by decide +kernel, by decide +kernel⟩
theorem cw_X9_where : CVx yX9_where cX9_where 4 (some .int) 3 9 := ⟨⟨RX9, TX9, 9, rfl, rfl⟩, tw_t (tb_3 (List.mem_of_getElem? (i := 140) rfl)) rfl, tw_t (tb_3 (List.mem_of_getElem? (i := 141) rfl)) rfl, tw_t (tb_1 (List.mem_of_getElem? (i := 1) rfl)) rfl, tw_t (tb_3 (List.mem_of_getElem? (i := 142) rfl)) rfl, by decide +kernel, by decide +kernel, by decide +kernel⟩
