/-! the days that fit -/
theorem take_flt {p : Nat → Bool} {L : List Nat} {f : Nat} (h : f < L.length) : (L.take (f + 1)).filter p = (L.take f).filter p ++ (if p (L.getD f 0) = true then [L.getD f 0] else []) := by
  have e : L.getD f 0 = L[f] := by simp [List.getD, h]
  rw [List.take_succ_eq_append_getElem h, List.filter_append, e]
  congr 1
  by_cases q : p L[f] = true
  · rw [if_pos q]
    simp [q]
  · rw [if_neg q]
    simp [q]
theorem take_flt_len {p : Nat → Bool} {L : List Nat} {f : Nat} : ((L.take f).filter p).length ≤ f := by
  have h1 := List.length_filter_le p (L.take f)
  have h2 := List.length_take_le f L
  omega
def trF (W : Wd) (P M S : Nat → Nat) (d q : Nat) : Bool := decide (¬ bst (W 0 0) (seB W d (P q) (M q)) = S q)
def trB (W : Wd) (P M S : Nat → Nat) (n d : Nat) : Bool := decide (¬ fsN n (trF W P M S d) < n)
theorem trB_iff {W : Wd} {P M S : Nat → Nat} {n d : Nat} : trB W P M S n d = true ↔ ∀ q, q < n → bst (W 0 0) (seB W d (P q) (M q)) = S q := by
  unfold trB trF
  rw [decide_eq_true_eq, fsN_iff]
  constructor
  · intro h q hq
    rcases Decidable.em (bst (W 0 0) (seB W d (P q) (M q)) = S q) with z | z
    · exact z
    · exact absurd ⟨q, hq, by simpa using z⟩ h
  · rintro h ⟨q, hq, z⟩
    simp only [decide_eq_true_eq] at z
    exact z (h q hq)
theorem trB_s {W : Wd} {P M S : Nat → Nat} {n d : Nat} : trB W P M S (n + 1) d = (trB W P M S n d && decide (bst (W 0 0) (seB W d (P n) (M n)) = S n)) := by
  have : trB W P M S (n + 1) d = true ↔ (trB W P M S n d && decide (bst (W 0 0) (seB W d (P n) (M n)) = S n)) = true := by
    rw [Bool.and_eq_true, decide_eq_true_eq, trB_iff, trB_iff]
    constructor
    · exact fun h => ⟨fun q hq => h q (by omega), h n (by omega)⟩
    · rintro ⟨h1, h2⟩ q hq
      by_cases e : q = n
      · rw [e]
        exact h2
      · exact h1 q (by omega)
  cases q1 : trB W P M S (n + 1) d <;> cases q2 : (trB W P M S n d && decide (bst (W 0 0) (seB W d (P n) (M n)) = S n)) <;> simp_all
def rgN (i j : Nat) : Prop := i = 90 ∨ (i = 4 ∧ j = 3)
theorem C_keepAlike {N : Nat} {W : Wd} {G : Gt} {σ : Sx} (hN : 1100 < N) (ok : okW W) (hr : cRd N G W σ) {L : List Nat} (hL : siI σ 4 3 = nI L.length) (hl : lstI σ 90 L) (hb : ∀ j, j < L.length → L.getD j 0 < szN W (W 0 0)) (hlen : L.length ≤ 1024) {p m s : Nat} (hp : p < 8) (hm : m ≤ 999) (hs : s ≤ 31) : ∃ σ2, F_X5_keepAlike N (nI p) (nI m) (nI s) σ = some ((), σ2) ∧ Kp rgN σ σ2 ∧ siI σ2 4 3 = nI (L.filter (fun x => decide (bst (W 0 0) (seB W (nmN W (W 0 0) x) p m) = s))).length ∧ lstI σ2 90 (L.filter (fun x => decide (bst (W 0 0) (seB W (nmN W (W 0 0) x) p m) = s))) := by
  have hn := ok.nw
  have hsz := szN_1024 ok hn
  generalize hq : (fun x => decide (bst (W 0 0) (seB W (nmN W (W 0 0) x) p m) = s)) = q
  have hqv : ∀ x, (q x = true ↔ bst (W 0 0) (seB W (nmN W (W 0 0) x) p m) = s) := fun x => by rw [← hq]; simp
  unfold F_X5_keepAlike
  rw [C_tracks (by omega) ok hr.1 (by omega) (by omega), clx_s, nmx_s]
  refine lp2U (Q := fun o => ∃ σ2, o = some ((), σ2) ∧ Kp rgN σ σ2 ∧ siI σ2 4 3 = nI (L.filter q).length ∧ lstI σ2 90 (L.filter q)) L.length (fun f x σ2 => x = nI ((L.take f).filter q).length ∧ Kp (fun i _ => i = 90) σ σ2 ∧ lstI σ2 90 ((L.take f).filter q) ∧ ∀ j, f ≤ j → j < L.length → siI σ2 90 j = nI (L.getD j 0)) ?_ (i := 0) (Nat.zero_le _) (by omega) ⟨rfl, Kp.rf, fun k hk => absurd hk (Nat.not_lt_zero _), fun j _ hj => hl j hj⟩
  rintro r f x σ2 hf ⟨rfl, hk, h1, h2⟩
  have hr2 : cRd N G W σ2 := hr.kp hk (fun i j q => by unfold cwR lcR at q; omega)
  have hkl := take_flt_len (p := q) (L := L) (f := f)
  unfold B_X5_keepAlike_L17
  rw [(hk 4 3 (by omega)).1, hL, ite_le (by omega) (by omega)]
  by_cases hlt : L.length ≤ f
  · left
    rw [if_pos hlt]
    dsimp only
    rw [pIx_s]
    rw [List.take_of_length_le hlt] at h1 ⊢
    exact ⟨_, rfl, (hk.le (fun i j q => Or.inl q)).I (Or.inr ⟨rfl, rfl⟩), uI_s, h1.of (fun j => uI_i (by decide))⟩
  right
  have hfl : f < L.length := by omega
  refine ⟨hfl, ?_⟩
  have hx := hb f hfl
  have hst := take_flt (p := q) hfl
  have hbl : bst (W 0 0) (seB W (nmN W (W 0 0) (L.getD f 0)) p m) < 32 := Nat.lt_of_lt_of_le (bst_lt _ _) (Nat.pow_le_pow_right (by decide) hn)
  rw [if_neg hlt, aIx_k (show f < 1024 by omega) (by decide), h2 f (Nat.le_refl _) hfl, aIx_k (show _ < 1024 by omega) (by decide), (hr2.2.2.2.2.1.2 _ hx).2, C_seesOn ok, clx_s, nmx_s, ite_eq (by omega) (by omega), nI_add1]
  by_cases z : bst (W 0 0) (seB W (nmN W (W 0 0) (L.getD f 0)) p m) = s
  · rw [if_pos z, aIx_k (show f < 1024 by omega) (by decide), h2 f (Nat.le_refl _) hfl, sIx_k (show _ < 1024 by omega) (by decide), nI_add1]
    rw [if_pos ((hqv _).mpr z)] at hst
    refine ⟨_, _, ⟨by rw [hst, List.length_append, List.length_singleton], hk.I rfl, ?_, fun j j1 j2 => ?_⟩, rfl⟩
    · rw [hst]
      exact h1.push _
    · rw [uI_j (by omega)]
      exact h2 j (by omega) j2
  · rw [if_neg z]
    rw [if_neg (fun y => z ((hqv _).mp y)), List.append_nil] at hst
    exact ⟨_, _, ⟨by rw [hst], hk, by rw [hst]; exact h1, fun j j1 j2 => h2 j (by omega) j2⟩, rfl⟩
/-- the days that fit, by where they are -/
def fiL (G : Gt) (W : Wd) (P M S : Nat → Nat) (n : Nat) : List Nat := (hlL G W (T0 W)).filter (fun x => trB W P M S n (nmN W (W 0 0) x))
theorem fiL_at {G : Gt} {W : Wd} {P M S : Nat → Nat} {n j : Nat} (hj : j < (fiL G W P M S n).length) : (fiL G W P M S n).getD j 0 < szN W (W 0 0) := by
  have e : (fiL G W P M S n).getD j 0 = (fiL G W P M S n)[j] := by simp [List.getD, hj]
  have : (fiL G W P M S n)[j] ∈ hlL G W (T0 W) := (List.mem_filter.mp (List.getElem_mem hj)).1
  rw [e]
  exact List.mem_range.mp (List.mem_filter.mp this).1
theorem fiL_len {G : Gt} {W : Wd} {P M S : Nat → Nat} {n : Nat} (ok : okW W) : (fiL G W P M S n).length ≤ 1024 := Nat.le_trans (List.length_filter_le _ _) (hl_1024 ok)
theorem fiL_s {G : Gt} {W : Wd} {P M S : Nat → Nat} {n : Nat} : fiL G W P M S (n + 1) = (fiL G W P M S n).filter (fun x => decide (bst (W 0 0) (seB W (nmN W (W 0 0) x) (P n) (M n)) = S n)) := by
  unfold fiL
  rw [List.filter_filter]
  congr 1
  funext x
  rw [trB_s, Bool.and_comm]
theorem C_narrow {N : Nat} {W : Wd} {G : Gt} {σ : Sx} (hN : 1100 < N) (ok : okW W) (hr : cRd N G W σ) {k n : Nat} {P M S : Nat → Nat} (hk : k < 6) (ht : thr σ k n P M S) (hS : F_X6_refusalOfSort k (1 : Int32) σ = some (0, σ)) (hT : F_X6_tellsTracks N k σ = some (1, σ)) : ∃ σ2, F_X5_narrowBy N k σ = some (0, σ2) ∧ Kp rgN σ σ2 ∧ siI σ2 4 3 = nI (fiL G W P M S n).length ∧ lstI σ2 90 (fiL G W P M S n) := by
  have hn := ok.nw
  have hlen := hl_1024 (G := G) (T := T0 W) ok
  unfold F_X5_narrowBy
  rw [hS, clx_s, if_pos rfl, hT, clx_s, if10, pIx_s, uI_s, hr.2.2.2.2.2.1]
  generalize hσa : upI σ 4 3 (nI (hlL G W (T0 W)).length) = σa
  have ka : Kp rgN σ σa := by rw [← hσa]; exact Kp.rf.I (Or.inr ⟨rfl, rfl⟩)
  have ea : siI σa 4 3 = nI (hlL G W (T0 W)).length := by rw [← hσa, uI_s]
  have e88 : siI σa 88 = siI σ 88 := by
    funext j
    exact (ka 88 j (by unfold rgN; omega)).1
  unfold cIx
  rw [if_pos ⟨by decide, by decide, nI_pos (by omega), by rw [nI_clamp (by omega)]; show 0 + _ ≤ 1024; omega, by rw [nI_clamp (by omega)]; show 0 + _ ≤ 1024; omega⟩]
  generalize hσb : ((fun a => if a = 90 then va_cpy (siI σa 88) (siI σa 90) (0 : Int32).toNatClampNeg (0 : Int32).toNatClampNeg (nI (hlL G W (T0 W)).length).toNatClampNeg else σa.1 a, σa.2) : Sx) = σb
  have kb : Kp rgN σa σb := fun i j q => by
    rw [← hσb]
    refine ⟨?_, rfl⟩
    show (if i = 90 then _ else σa.1 i) j = siI σa i j
    rw [if_neg (fun z => q (Or.inl z))]
    rfl
  have hlb : lstI σb 90 (hlL G W (T0 W)) := fun j hj => by
    rw [← hσb]
    show (if 90 = 90 then va_cpy (siI σa 88) (siI σa 90) (0 : Int32).toNatClampNeg (0 : Int32).toNatClampNeg (nI (hlL G W (T0 W)).length).toNatClampNeg else σa.1 90) j = _
    rw [if_pos rfl, nI_clamp (by omega)]
    show va_cpy (siI σa 88) (siI σa 90) 0 0 (hlL G W (T0 W)).length j = _
    rw [pk_cpy_in (Nat.zero_le _) (by omega), e88, Nat.zero_add, Nat.sub_zero]
    exact hr.2.2.2.2.2.2 j hj
  have eb : siI σb 4 3 = nI (hlL G W (T0 W)).length := by
    rw [← hσb]
    exact ea
  refine lp1G (Q := fun o => ∃ σ2, o = some (0, σ2) ∧ Kp rgN σ σ2 ∧ siI σ2 4 3 = nI (fiL G W P M S n).length ∧ lstI σ2 90 (fiL G W P M S n)) n (fun q x σ2 => x = nI (3 * q) ∧ Kp rgN σ σ2 ∧ siI σ2 4 3 = nI (fiL G W P M S q).length ∧ lstI σ2 90 (fiL G W P M S q)) ?_ (by have := ht.1; omega) ⟨rfl, ka.tr kb, ?_, ?_⟩
  · rintro r q x σ2 hq ⟨rfl, hkp, h1, h2⟩
    have ht2 : thr σ2 k n P M S := ht.kp hk (hkp.le (fun i j z => by unfold rgN at z; unfold rgA otR; omega))
    have hr2 : cRd N G W σ2 := hr.kp hkp (fun i j q => by unfold cwR lcR at q; unfold rgN; omega)
    have hn20 := ht.1
    unfold B_X5_narrowBy_L55
    rw [i32L_1, ht2.2.1, ite_le (by omega) (by omega)]
    by_cases hlt : 3 * n ≤ 3 * q + 2
    · left
      rw [if_pos hlt, show n = q by omega]
      exact ⟨σ2, rfl, hkp, h1, h2⟩
    right
    have hqn : q < n := by omega
    refine ⟨hqn, ?_⟩
    obtain ⟨b1, b2, b3, -, -, -, c1, c2, c3⟩ := ht2.2.2.2 q hqn
    obtain ⟨σ3, g1, g2, g3, g4⟩ := C_keepAlike (p := P q) (m := M q) (s := S q) hN ok hr2 h1 h2 (fun j hj => fiL_at hj) (fiL_len ok) b1 b2 b3
    rw [if_neg hlt, aLx_k (show 3 * q < 60 by omega) (by decide), c1, nI_add1, aLx_k (show 3 * q + 1 < 60 by omega) (by decide), c2, aLx_k (show 3 * q + 2 < 60 by omega) (by decide), c3, Int32.toInt32_toInt64, Int32.toInt32_toInt64, Int32.toInt32_toInt64, g1, clx_s, i32L_2]
    rw [← fiL_s] at g3 g4
    exact ⟨_, σ3, ⟨rfl, hkp.tr g2, g3, g4⟩, rfl⟩
  · rw [eb, show fiL G W P M S 0 = hlL G W (T0 W) from List.filter_eq_self.mpr (fun x _ => trB_iff.mpr (fun q hq => absurd hq (Nat.not_lt_zero _)))]
  · rw [show fiL G W P M S 0 = hlL G W (T0 W) from List.filter_eq_self.mpr (fun x _ => trB_iff.mpr (fun q hq => absurd hq (Nat.not_lt_zero _)))]
    exact hlb
/-- the reference's days that fit -/
def mfL (G : Gt) (W : Wd) (P M S : Nat → Nat) (n : Nat) : List Nat := (mlL G W (T0 W)).filter (trB W P M S n)
theorem mf_fi {G : Gt} {W : Wd} {P M S : Nat → Nat} {n : Nat} (ok : okW W) : mfL G W P M S n = (fiL G W P M S n).map (nmN W (W 0 0)) := by
  unfold mfL fiL
  rw [ml_hl ok, List.filter_map]
  rfl
theorem mf_len {G : Gt} {W : Wd} {P M S : Nat → Nat} {n : Nat} (ok : okW W) : (mfL G W P M S n).length = (fiL G W P M S n).length := by
  rw [mf_fi ok, List.length_map]
theorem mf_at {G : Gt} {W : Wd} {P M S : Nat → Nat} {n j : Nat} (ok : okW W) (hj : j < (fiL G W P M S n).length) : (mfL G W P M S n).getD j 0 = nmN W (W 0 0) ((fiL G W P M S n).getD j 0) := by
  rw [mf_fi ok]
  simp [List.getD, hj]
def rgT (i j : Nat) : Prop := rgF i j ∨ i = 128 ∨ (i = 103 ∧ j = 43)
theorem M_findFit {N : Nat} {W : Wd} {G : Gt} {b : Bool} {σ : Sx} (hN : 1100 < N) (h : RW N W G b σ) {k n : Nat} {P M S : Nat → Nat} (hk : k < 6) (ht : thr σ k n P M S) : ∃ σ2, F_X10_findFit N (nI k) σ = some ((), σ2) ∧ Kp rgT σ σ2 ∧ mC W σ2 ∧ siI σ2 103 43 = nI (fiL G W P M S n).length ∧ lstI σ2 128 (mfL G W P M S n) := by
  have ok := h.1
  have hn := ok.nw
  have hlen := hl_1024 (G := G) (T := T0 W) ok
  obtain ⟨σ1, f1, f2, f3, -, f5, f6⟩ := h.held (by omega)
  unfold F_X10_findFit
  rw [f1, clx_s, pIx_s]
  refine lp1U (Q := fun o => ∃ σ2, o = some ((), σ2) ∧ Kp rgT σ σ2 ∧ mC W σ2 ∧ siI σ2 103 43 = nI (fiL G W P M S n).length ∧ lstI σ2 128 (mfL G W P M S n)) (hlL G W (T0 W)).length (fun i σ2 => Kp rgT σ σ2 ∧ mC W σ2 ∧ siI σ2 103 38 = nI (hlL G W (T0 W)).length ∧ lstI σ2 126 (mlL G W (T0 W)) ∧ siI σ2 103 43 = nI (((mlL G W (T0 W)).take i).filter (trB W P M S n)).length ∧ lstI σ2 128 (((mlL G W (T0 W)).take i).filter (trB W P M S n))) ?_ (i := 0) (Nat.zero_le _) (by omega) ⟨(f2.le (fun i j q => Or.inl q)).I (Or.inr (Or.inr ⟨rfl, rfl⟩)), fun i hi k hk => by rw [uI_i (by decide)]; exact f3 i hi k hk, by rw [uI_j (by decide)]; exact f5, f6.of (fun j => uI_i (by decide)), uI_s, fun k hk => absurd hk (Nat.not_lt_zero _)⟩
  rintro r i σ2 hi ⟨hkp, hc, h38, h126, h43, h128⟩
  have hm2 : mW W σ2 := h.2.2.1.kp hkp (fun i j q => by unfold mwR at q; unfold rgT rgF; omega)
  have ht2 : thr σ2 k n P M S := ht.kp hk (hkp.le (fun i j z => by unfold rgT rgF at z; unfold rgA otR; omega))
  unfold B_X10_findFit_L11
  rw [h38, ite_le (by omega) (by omega)]
  by_cases hlt : (hlL G W (T0 W)).length ≤ i
  · left
    rw [if_pos hlt]
    rw [List.take_of_length_le (by rw [ml_len ok]; exact hlt)] at h43 h128
    refine ⟨σ2, rfl, hkp, hc, ?_, h128⟩
    rw [h43, ← mf_len ok]
    rfl
  right
  have hil : i < (hlL G W (T0 W)).length := by omega
  have hil2 : i < (mlL G W (T0 W)).length := by rw [ml_len ok]; exact hil
  have hd := ml_day (G := G) (T := T0 W) ok hil
  have hd1 := hd.1
  have hst := take_flt (p := trB W P M S n) hil2
  have hkl := take_flt_len (p := trB W P M S n) (L := mlL G W (T0 W)) (f := i)
  refine ⟨hil, ?_⟩
  rw [if_neg hlt, nmx_s]
  have hn20 := ht.1
  refine lp2G (Q := fun o => ∃ σ', (Kp rgT σ σ' ∧ mC W σ' ∧ siI σ' 103 38 = nI (hlL G W (T0 W)).length ∧ lstI σ' 126 (mlL G W (T0 W)) ∧ siI σ' 103 43 = nI (((mlL G W (T0 W)).take (i + 1)).filter (trB W P M S n)).length ∧ lstI σ' 128 (((mlL G W (T0 W)).take (i + 1)).filter (trB W P M S n))) ∧ o = r (nI (i + 1)) σ') n (fun q x y σ3 => σ3 = σ2 ∧ x = b2i (trB W P M S q ((mlL G W (T0 W)).getD i 0)) ∧ y = nI (3 * q)) ?_ (by omega) ⟨rfl, by rw [show trB W P M S 0 ((mlL G W (T0 W)).getD i 0) = true from trB_iff.mpr (fun q hq => absurd hq (Nat.not_lt_zero _))]; rfl, rfl⟩
  rintro r2 q x y σ3 hq ⟨rfl, rfl, rfl⟩
  unfold B_X10_findFit_L24
  rw [aIx_k hk (by decide), ht2.2.2.1, ite_le (by omega) (by omega)]
  by_cases hlq : 3 * n ≤ 3 * q
  · left
    rw [if_pos hlq]
    have eq : q = n := by omega
    subst eq
    dsimp only
    rw [nmx_s, if_b2i, nI_add1]
    by_cases z : trB W P M S q ((mlL G W (T0 W)).getD i 0) = true
    · rw [if_pos z] at hst ⊢
      rw [aIx_k (show i < 1024 by omega) (by decide), h126 i hil2, h43, sIx_k (show _ < 1024 by omega) (by decide), pIx_s, uI_i (by decide), h43, nI_add1]
      refine ⟨_, ⟨(hkp.I (Or.inr (Or.inl rfl))).I (Or.inr (Or.inr ⟨rfl, rfl⟩)), fun i hi k hk => by rw [uI_i (by decide), uI_i (by decide)]; exact hc i hi k hk, by rw [uI_j (by decide), uI_i (by decide)]; exact h38, h126.of (fun j => by rw [uI_i (by decide), uI_i (by decide)]), by rw [uI_s, hst, List.length_append, List.length_singleton], ?_⟩, rfl⟩
      rw [hst]
      exact (h128.push _).of (fun j => uI_i (by decide))
    · rw [if_neg z] at hst ⊢
      rw [List.append_nil] at hst
      exact ⟨_, ⟨hkp, hc, h38, h126, by rw [hst]; exact h43, by rw [hst]; exact h128⟩, rfl⟩
  right
  have hqn : q < n := by omega
  obtain ⟨b1, b2, b3, c1, c2, c3, -⟩ := ht2.2.2.2 q hqn
  refine ⟨hqn, b2i (trB W P M S (q + 1) ((mlL G W (T0 W)).getD i 0)), nI (3 * (q + 1)), σ3, ⟨rfl, rfl, rfl⟩, ?_⟩
  rw [if_neg hlq, mul60L, nI_add, nmx_s, aIx_k (show i < 1024 by omega) (by decide), h126 i hil2, aLx_k (show 60 * k + 3 * q < 360 by omega) (by decide), c1, nI_add1, i32L_1, show 60 * k + 3 * q + 1 = 60 * k + (3 * q + 1) by omega, show 60 * k + 3 * q + 2 = 60 * k + (3 * q + 2) by omega, aLx_k (show 60 * k + (3 * q + 1) < 360 by omega) (by decide), c2, Int32.toInt32_toInt64, Int32.toInt32_toInt64, M_seesOn (by omega) ok hm2 hc hd (by omega) (by omega), clx_s, aLx_k (show 60 * k + (3 * q + 2) < 360 by omega) (by decide), c3, nmx_s, i32L_2]
  have hbl : bst (W 0 0) (seB W ((mlL G W (T0 W)).getD i 0) (P q) (M q)) < 32 := Nat.lt_of_lt_of_le (bst_lt _ _) (Nat.pow_le_pow_right (by decide) hn)
  have hz : lg_cmp (nI (bst (W 0 0) (seB W ((mlL G W (T0 W)).getD i 0) (P q) (M q)))).toInt64 (nI (S q)).toInt64 = 0 ↔ bst (W 0 0) (seB W ((mlL G W (T0 W)).getD i 0) (P q) (M q)) = S q := by
    rw [(lgc _ _).2.2, eqL, nI_eq (by omega) (by omega)]
  rw [trB_s]
  by_cases z : bst (W 0 0) (seB W ((mlL G W (T0 W)).getD i 0) (P q) (M q)) = S q
  · rw [if_pos (hz.mpr z)]
    simp only [z, decide_true, Bool.and_true]
    rfl
  · rw [if_neg (fun y => z (hz.mp y))]
    simp only [z, decide_false, Bool.and_false]
    rfl
