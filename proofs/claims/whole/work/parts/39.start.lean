theorem ci_9 : Cond.instantiable RX9 9 ∈ TWx := tw_t (tb_1 (List.mem_of_getElem? (i := 17) rfl)) rfl
theorem cz_9 : Cond.initialized RX9 ∈ TWx := tw_t (tb_1 (List.mem_of_getElem? (i := 1) rfl)) rfl
theorem df_9 : ∀ j, j < 9 → defaultValue (tyX9 j) = vp_V (Value.null :: Value.null :: Value.null :: Value.null :: Value.null :: Value.null :: Value.null :: Value.null :: Value.null :: []) j := by
  intro j hj
  match j, hj with
  | 0, _ => rfl
  | 1, _ => rfl
  | 2, _ => rfl
  | 3, _ => rfl
  | 4, _ => rfl
  | 5, _ => rfl
  | 6, _ => rfl
  | 7, _ => rfl
  | 8, _ => rfl
  | j + 9, h => exact absurd h (by omega)
theorem ci_10 : Cond.instantiable RX10 57 ∈ TWx := tw_t (tb_5 (List.mem_of_getElem? (i := 79) rfl)) rfl
theorem cz_10 : Cond.initialized RX10 ∈ TWx := tw_t (tb_1 (List.mem_of_getElem? (i := 12) rfl)) rfl
theorem df_10 : ∀ j, j < 57 → defaultValue (tyX10 j) = vp_V (Value.int 0 :: Value.int 0 :: Value.null :: Value.null :: Value.null :: Value.null :: Value.null :: Value.null :: Value.null :: Value.int 0 :: Value.int 0 :: Value.null :: Value.null :: Value.null :: Value.null :: Value.null :: Value.int 0 :: Value.int 0 :: Value.int 0 :: Value.int 0 :: Value.int 0 :: Value.null :: Value.null :: Value.null :: Value.null :: Value.null :: Value.null :: Value.null :: Value.int 0 :: Value.null :: Value.null :: Value.null :: Value.int 0 :: Value.int 0 :: Value.int 0 :: Value.int 0 :: Value.int 0 :: Value.null :: Value.int 0 :: Value.int 0 :: Value.int 0 :: Value.null :: Value.null :: Value.int 0 :: Value.null :: Value.null :: Value.null :: Value.null :: Value.int 0 :: Value.int 0 :: Value.null :: Value.int 0 :: Value.null :: Value.null :: Value.null :: Value.null :: Value.null :: []) j := by
  intro j hj
  match j, hj with
  | 0, _ => rfl
  | 1, _ => rfl
  | 2, _ => rfl
  | 3, _ => rfl
  | 4, _ => rfl
  | 5, _ => rfl
  | 6, _ => rfl
  | 7, _ => rfl
  | 8, _ => rfl
  | 9, _ => rfl
  | 10, _ => rfl
  | 11, _ => rfl
  | 12, _ => rfl
  | 13, _ => rfl
  | 14, _ => rfl
  | 15, _ => rfl
  | 16, _ => rfl
  | 17, _ => rfl
  | 18, _ => rfl
  | 19, _ => rfl
  | 20, _ => rfl
  | 21, _ => rfl
  | 22, _ => rfl
  | 23, _ => rfl
  | 24, _ => rfl
  | 25, _ => rfl
  | 26, _ => rfl
  | 27, _ => rfl
  | 28, _ => rfl
  | 29, _ => rfl
  | 30, _ => rfl
  | 31, _ => rfl
  | 32, _ => rfl
  | 33, _ => rfl
  | 34, _ => rfl
  | 35, _ => rfl
  | 36, _ => rfl
  | 37, _ => rfl
  | 38, _ => rfl
  | 39, _ => rfl
  | 40, _ => rfl
  | 41, _ => rfl
  | 42, _ => rfl
  | 43, _ => rfl
  | 44, _ => rfl
  | 45, _ => rfl
  | 46, _ => rfl
  | 47, _ => rfl
  | 48, _ => rfl
  | 49, _ => rfl
  | 50, _ => rfl
  | 51, _ => rfl
  | 52, _ => rfl
  | 53, _ => rfl
  | 54, _ => rfl
  | 55, _ => rfl
  | 56, _ => rfl
  | j + 57, h => exact absurd h (by omega)
theorem ckL_7 : Cond.classLink R_law 7 RX9 ∈ TWx := tw_t (tb_1 (List.mem_of_getElem? (i := 16) rfl)) rfl
theorem ckL_10 : Cond.classLink R_law 10 RX10 ∈ TWx := tw_t (tb_5 (List.mem_of_getElem? (i := 78) rfl)) rfl
theorem cmL_9 : Cond.methodLink R_law 9 yX9_init ∈ TWx := tw_t (tb_1 (List.mem_of_getElem? (i := 18) rfl)) rfl
theorem cmL_12 : Cond.methodLink R_law 12 yX10_init ∈ TWx := tw_t (tb_5 (List.mem_of_getElem? (i := 80) rfl)) rfl
theorem cz_m_X9_init : Cond.initialized yX9_init.cls ∈ TWx := tw_t (tb_1 (List.mem_of_getElem? (i := 1) rfl)) rfl
theorem cc_m_X9_init : Cond.code yX9_init cX9_init 6 none ∈ TWx := tw_t (tb_1 (List.mem_of_getElem? (i := 20) rfl)) rfl
theorem ci_m_X9_init : Cond.instanceMethod yX9_init ∈ TWx := tw_t (tb_1 (List.mem_of_getElem? (i := 19) rfl)) rfl
theorem cz_m_X10_init : Cond.initialized yX10_init.cls ∈ TWx := tw_t (tb_1 (List.mem_of_getElem? (i := 12) rfl)) rfl
theorem cc_m_X10_init : Cond.code yX10_init cX10_init 1 none ∈ TWx := tw_t (tb_5 (List.mem_of_getElem? (i := 82) rfl)) rfl
theorem ci_m_X10_init : Cond.instanceMethod yX10_init ∈ TWx := tw_t (tb_5 (List.mem_of_getElem? (i := 81) rfl)) rfl
theorem knowns {s : State} {args : Array Value} (hts : ∀ w ∈ TWx, w.before args s = true) : ∃ (dC : Nat → ClassId) (dI : Nat → Nat → Nat), ∀ (k : Nat) (q : vw_C), vwCl[k]? = some q → u_Kn s q.1 q.2.1 q.2.2 (dC k) (dI k) := by
  obtain ⟨c0, i0, h0⟩ := u_known (C := RX0) (T := TX0) (N := 6) hts uw_0 (hts _ ci_0)
  obtain ⟨c1, i1, h1⟩ := u_known (C := RX1) (T := TX1) (N := 3) hts uw_1 (hts _ ci_1)
  obtain ⟨c2, i2, h2⟩ := u_known (C := RX2) (T := TX2) (N := 12) hts uw_2 (hts _ ci_2)
  obtain ⟨c3, i3, h3⟩ := u_known (C := RX3) (T := TX3) (N := 3) hts uw_3 (hts _ ci_3)
  obtain ⟨c4, i4, h4⟩ := u_known (C := RX4) (T := TX4) (N := 9) hts uw_4 (hts _ ci_4)
  obtain ⟨c5, i5, h5⟩ := u_known (C := RX5) (T := TX5) (N := 6) hts uw_5 (hts _ ci_5)
  obtain ⟨c6, i6, h6⟩ := u_known (C := RX6) (T := TX6) (N := 4) hts uw_6 (hts _ ci_6)
  obtain ⟨c7, i7, h7⟩ := u_known (C := RX7) (T := TX7) (N := 3) hts uw_7 (hts _ ci_7)
  obtain ⟨c8, i8, h8⟩ := u_known (C := RX8) (T := TX8) (N := 7) hts uw_8 (hts _ ci_8)
  obtain ⟨c9, i9, h9⟩ := u_known (C := RX9) (T := TX9) (N := 9) hts uw_9 (hts _ ci_9)
  obtain ⟨c10, i10, h10⟩ := u_known (C := RX10) (T := TX10) (N := 57) hts uw_10 (hts _ ci_10)
  refine ⟨fun k => [c0, c1, c2, c3, c4, c5, c6, c7, c8, c9, c10].getD k c0, fun k => [i0, i1, i2, i3, i4, i5, i6, i7, i8, i9, i10].getD k i0, fun k q hq => ?_⟩
  match k, hq with
  | 0, hq => cases hq; exact h0
  | 1, hq => cases hq; exact h1
  | 2, hq => cases hq; exact h2
  | 3, hq => cases hq; exact h3
  | 4, hq => cases hq; exact h4
  | 5, hq => cases hq; exact h5
  | 6, hq => cases hq; exact h6
  | 7, hq => cases hq; exact h7
  | 8, hq => cases hq; exact h8
  | 9, hq => cases hq; exact h9
  | 10, hq => cases hq; exact h10
  | k + 11, hq => simp at hq
theorem arrs {s : State} {args : Array Value} (hts : ∀ w ∈ lw_tbl, w.before args s = true) : ∃ cA : Nat → ClassId, ∀ (k : Nat) (q : ClassId × FieldType), (tyL cA)[k]? = some q → ArrOfT s q.1 q.2 ∧ va_RA s q.1 q.2 := by
  have prim : ∀ ty : FieldType, (∀ U c, va_RA U c ty = (U.vm.findClass ("[" ++ ty.toString) = some c)) → (∀ (k : Nat) , True) → (Cond.arrayClass ty).before args s = true → (∀ cA : ClassId, ∀ kA comp, s.vm.classes[cA]? = some kA → kA.kind = .array comp ty → ArrOfT s cA ty) → ∃ c : ClassId, ArrOfT s c ty ∧ va_RA s c ty := by
    intro ty hra _ h ha
    obtain ⟨cA, kA, comp, h1, h2, h3⟩ := Cond.arrayClass_spec h
    exact ⟨cA, ha cA kA comp h2 h3, by rw [hra]; exact h1⟩
  obtain ⟨a1, h1⟩ := prim .int (fun _ _ => rfl) (fun _ => trivial) (hts _ (List.mem_append_right _ (tb_1 (List.mem_of_getElem? (i := 69) rfl)))) (fun cA kA comp h2 h3 n z => ⟨(fun k h => by cases h), kA, h2, comp, h3⟩)
  obtain ⟨a2, h2⟩ := prim .long (fun _ _ => rfl) (fun _ => trivial) (hts _ (List.mem_append_right _ (tb_2 (List.mem_of_getElem? (i := 43) rfl)))) (fun cA kA comp h2 h3 n z => ⟨(fun k h => by cases h), kA, h2, comp, h3⟩)
  obtain ⟨a3, h3⟩ := prim .byte (fun _ _ => rfl) (fun _ => trivial) (hts _ (List.mem_append_right _ (tb_6 (List.mem_of_getElem? (i := 15) rfl)))) (fun cA kA comp h2 h3 n z => ⟨(fun k h => by cases h), kA, h2, comp, h3⟩)
  obtain ⟨a4, h4⟩ := prim .short (fun _ _ => rfl) (fun _ => trivial) (hts _ (List.mem_append_right _ (tb_6 (List.mem_of_getElem? (i := 16) rfl)))) (fun cA kA comp h2 h3 n z => ⟨(fun k h => by cases h), kA, h2, comp, h3⟩)
  obtain ⟨p6, a6, k6, e1, -, e3, e4, e5⟩ := arrayOverA_spec (t := .int) (hts _ (List.mem_append_right _ (tb_1 (List.mem_of_getElem? (i := 31) rfl))))
  obtain ⟨p7, a7, k7, f1, -, f3, f4, f5⟩ := Cond.arrayOver_spec (hts _ (List.mem_append_right _ (tb_2 (List.mem_of_getElem? (i := 19) rfl))))
  refine ⟨fun k => [0, a1, a2, a3, a4, 0, a6, a7].getD k 0, fun k q hq => ?_⟩
  match k, hq with
  | 0, hq => cases hq; exact h1
  | 1, hq => cases hq; exact h2
  | 2, hq => cases hq; exact h3
  | 3, hq => cases hq; exact h4
  | 4, hq => cases hq; exact ⟨fun n z => ⟨(fun k h => by cases h), k6, e3, p6, e4⟩, e5⟩
  | 5, hq => cases hq; exact ⟨fun n z => ⟨(fun k h => by cases h), k7, f3, p7, f4⟩, k7, p7, f3, f4, f1, f5⟩
  | k + 6, hq => simp at hq
theorem stat_one {s : State} {args : Array Value} {C n : String} {L : List Int32} (hl : (Cond.laysStatic C n "[I").before args s = true) (hini : (Cond.initialized C).before args s = true) (hN : L.length < 2 ^ 31) (harr : (Cond.arrayOf (Term.static C n "[I") .int).before args s = true) (hlen : (Cond.eq (Term.length (Term.static C n "[I")) (.int (Int32.ofNat L.length))).before args s = true) (hel : ∀ j : Nat, j < L.length → (Cond.eq (Term.elem (Term.static C n "[I") (.int (Int32.ofNat j))) (.int (L.getD j 0))).before args s = true) : ∃ t : Nat, va_Z C n "[I" (.ref t) (Ax s.heap.size) s s.heap ∧ va_T .int t L.length (fun j => .int (L.getD j 0)) (Ax s.heap.size) s s.heap := by
  have hA : ∀ a : Nat, a < s.heap.size → ¬ Ax s.heap.size a := fun a h => Nat.not_le.mpr h
  obtain ⟨t, h1, h2⟩ := va_Tof (A := Ax s.heap.size) (f := fun j => .int (L.getD j 0)) hN harr (va_eqt hlen) (fun j hj => va_eqt (hel j hj)) hA
  exact ⟨t, va_Zref hl hini h1 hA, h2⟩
set_option maxRecDepth 100000 in
theorem statics {s : State} {b : Nat} (hts : ∀ w ∈ lw_tbl, w.before #[Value.ref b] s = true) (hgv : (Jvm.Cond.and given_1 narrow_1).before #[Value.ref b] s = true) : stx s.heap.size s := by
  have hs := flat_of_before _ hgv
  refine ⟨fun k q hq => ?_, va_Nw.of rfl (hts _ (List.mem_append_right _ (tb_2 (List.mem_of_getElem? (i := 139) rfl))))⟩
  match k, hq with
  | 0, hq =>
    cases hq
    refine stat_one (L := [0, 0, 0, 1]) (hts _ (List.mem_append_right _ (tb_2 (List.mem_of_getElem? (i := 147) rfl)))) (hts _ (List.mem_append_right _ (tb_1 (List.mem_of_getElem? (i := 2) rfl)))) (by decide) (hs _ (by decide +kernel)) (hs _ (by decide +kernel)) (fun j hj => ?_)
    match j, hj with
    | 0, _ => exact hs _ (by decide +kernel)
    | 1, _ => exact hs _ (by decide +kernel)
    | 2, _ => exact hs _ (by decide +kernel)
    | 3, _ => exact hs _ (by decide +kernel)
    | j + 4, hj => exact absurd hj (by simp)
  | 1, hq =>
    cases hq
    refine stat_one (L := [60, 200, 99, 30]) (hts _ (List.mem_append_right _ (tb_2 (List.mem_of_getElem? (i := 149) rfl)))) (hts _ (List.mem_append_right _ (tb_1 (List.mem_of_getElem? (i := 2) rfl)))) (by decide) (hs _ (by decide +kernel)) (hs _ (by decide +kernel)) (fun j hj => ?_)
    match j, hj with
    | 0, _ => exact hs _ (by decide +kernel)
    | 1, _ => exact hs _ (by decide +kernel)
    | 2, _ => exact hs _ (by decide +kernel)
    | 3, _ => exact hs _ (by decide +kernel)
    | j + 4, hj => exact absurd hj (by simp)
  | 2, hq =>
    cases hq
    refine stat_one (L := [-1, 0, 0, 2, 1, 3, 0, 6]) (hts _ (List.mem_append_right _ (tb_4 (List.mem_of_getElem? (i := 223) rfl)))) (hts _ (List.mem_append_right _ (tb_1 (List.mem_of_getElem? (i := 10) rfl)))) (by decide) (hs _ (by decide +kernel)) (hs _ (by decide +kernel)) (fun j hj => ?_)
    match j, hj with
    | 0, _ => exact hs _ (by decide +kernel)
    | 1, _ => exact hs _ (by decide +kernel)
    | 2, _ => exact hs _ (by decide +kernel)
    | 3, _ => exact hs _ (by decide +kernel)
    | 4, _ => exact hs _ (by decide +kernel)
    | 5, _ => exact hs _ (by decide +kernel)
    | 6, _ => exact hs _ (by decide +kernel)
    | 7, _ => exact hs _ (by decide +kernel)
    | j + 8, hj => exact absurd hj (by simp)
  | k + 3, hq => simp at hq
set_option maxRecDepth 100000 in
set_option maxHeartbeats 16000000 in
/-- THE LAW, from its entry, if its pure reading ends with 1 -/
theorem whole_start_of {p : Program} {e : Env} {s : State} {m : MethodId} {below : List Frame} {meth : Method} {c : Code} (l : Launch) {b L : Nat} {xs : Nat → Int32} (hL : L ≤ 3072) (hF : ∃ (N : Nat) (σ : Sx), F_law N L xs s0 = some (1, σ)) (C0 : lw_At p s m meth c b L xs) : W p l e room_1 s m #[Value.ref b] below meth c s.heap [] 0 0 (lw_Z below #[Value.ref b] s) (entryFrame m ([Value.ref b] : List Value).toArray 4) := by
  obtain ⟨hx, hb, hr, hml, hown, hts0, hX, hbl, hlocks, hgv⟩ := C0
  have hts : ∀ w ∈ TWx, w.before #[Value.ref b] s = true := fun w h => hts0 w (List.mem_filter.mp h).1
  obtain ⟨dC, dI, hKc⟩ := knowns hts
  obtain ⟨cA, hKa⟩ := arrs hts0
  have hK : va_K (dC, dI) vwCl (tyL cA) s := ⟨hKc, hKa⟩
  have hCU : CUx (dC, dI) cA s := ⟨hK, hts0 _ (List.mem_append_right _ (tb_1 (List.mem_of_getElem? (i := 31) rfl))), hts0 _ (List.mem_append_right _ (tb_2 (List.mem_of_getElem? (i := 19) rfl))), va_Nw.of rfl (hts0 _ (List.mem_append_right _ (tb_1 (List.mem_of_getElem? (i := 215) rfl)))), va_Nw.of rfl (hts0 _ (List.mem_append_right _ (tb_1 (List.mem_of_getElem? (i := 233) rfl)))), va_Nw.of rfl (hts0 _ (List.mem_append_right _ (tb_2 (List.mem_of_getElem? (i := 21) rfl))))⟩
  have hst := statics hts0 hgv
  have g : GCx p l s m #[Value.ref b] meth c (dC, dI) cA s.heap.size code R_law 4 := ⟨hx, hb, hml, hown, hts, hCU, Nat.le_refl _, hlocks⟩
  obtain ⟨N, σ, hFo⟩ := hF
  have hl := lv_entry ([.ref b]) (n := 4) (Nat.le_of_ble_eq_true rfl)
  rw [lg_entry_eq]
  suffices key : XCx p l e room_1 s m #[Value.ref b] below meth c (dC, dI) s.heap.size 4 (lw_Z below #[Value.ref b] s) 0 0 0 [(0, .ref b)] [] 0 (fun _ => .inr (0, [])) from key s.heap [] _ ⟨rfl, fun k hk => absurd hk (Nat.not_lt_zero _)⟩ va_S.rf hl
  refine c_new (pc := 0) (n := 0) (ci := 9) g (Value.null :: Value.null :: Value.null :: Value.null :: Value.null :: Value.null :: Value.null :: Value.null :: Value.null :: []) rfl uw_9 tyX9_ok ckL_7 ci_9 cz_9 df_9 (Nat.le_of_ble_eq_true rfl) (Nat.le_of_ble_eq_true rfl) dL_law_0 ?_
  refine c_dup (pc := 3) g rfl dL_law_3 ?_
  refine c_callI (pc := 4) (n := 1) (nA := 0) (As := []) g (cc_X9_init_1 (h0 := rfl)) cmL_9 ci_m_X9_init rfl cz_m_X9_init cc_m_X9_init ⟨by decide +kernel, by decide +kernel, by decide +kernel⟩ rfl ⟨(Nat.le_of_ble_eq_true rfl), (Nat.le_of_ble_eq_true rfl)⟩ ⟨(Nat.le_of_ble_eq_true rfl), (Nat.le_of_ble_eq_true rfl)⟩ rfl (Nat.le_of_ble_eq_true rfl) dL_law_4 ?_
  refine c_astore_n (pc := 7) (lv' := [(1, Value.ref (s.heap.size + 0)), (0, Value.ref b)]) g rfl (by decide) rfl dL_law_7 ?_
  refine c_new (pc := 8) (n := 103) (ci := 10) g (Value.int 0 :: Value.int 0 :: Value.null :: Value.null :: Value.null :: Value.null :: Value.null :: Value.null :: Value.null :: Value.int 0 :: Value.int 0 :: Value.null :: Value.null :: Value.null :: Value.null :: Value.null :: Value.int 0 :: Value.int 0 :: Value.int 0 :: Value.int 0 :: Value.int 0 :: Value.null :: Value.null :: Value.null :: Value.null :: Value.null :: Value.null :: Value.null :: Value.int 0 :: Value.null :: Value.null :: Value.null :: Value.int 0 :: Value.int 0 :: Value.int 0 :: Value.int 0 :: Value.int 0 :: Value.null :: Value.int 0 :: Value.int 0 :: Value.int 0 :: Value.null :: Value.null :: Value.int 0 :: Value.null :: Value.null :: Value.null :: Value.null :: Value.int 0 :: Value.int 0 :: Value.null :: Value.int 0 :: Value.null :: Value.null :: Value.null :: Value.null :: Value.null :: []) rfl uw_10 tyX10_ok ckL_10 ci_10 cz_10 df_10 (Nat.le_of_ble_eq_true rfl) (Nat.le_of_ble_eq_true rfl) dL_law_8 ?_
  refine c_dup (pc := 11) g rfl dL_law_11 ?_
  refine c_callI (pc := 12) (n := 104) (nA := 0) (As := []) g (cc_X10_init_104 (h0 := rfl)) cmL_12 ci_m_X10_init rfl cz_m_X10_init cc_m_X10_init ⟨by decide +kernel, by decide +kernel, by decide +kernel⟩ rfl ⟨(Nat.le_of_ble_eq_true rfl), (Nat.le_of_ble_eq_true rfl)⟩ ⟨(Nat.le_of_ble_eq_true rfl), (Nat.le_of_ble_eq_true rfl)⟩ rfl (Nat.le_of_ble_eq_true rfl) dL_law_12 ?_
  refine c_astore_n (pc := 15) (lv' := [(2, Value.ref (s.heap.size + 103)), (1, Value.ref (s.heap.size + 0)), (0, Value.ref b)]) g rfl (by decide) rfl dL_law_15 ?_
  intro H locs ls hE hS hl
  have hW := law_walk (p := p) (l := l) (e := e) (m := m) (below := below) (c := c) (D := (dC, dI)) (al := alx s.heap.size) (cA := cA) (ba := s.heap.size) (kc := 139) (ks := 15733) N ⟨hx, hb, hml, hown, hts, hK, al_ok _, Nat.le_refl _, hst, hlocks⟩ hX hbl (Nat.not_le.mpr hbl) (Nat.le_refl _) (by omega) hr ⟨by decide, by decide⟩ s0 (1, σ) hFo H locs ls (world0 hE) hS hl
  intro T hT X
  obtain ⟨t, h1, h2⟩ := hW T hT X
  exact ⟨t, h1, h2 rfl⟩
