/-! THE DAYS THAT HOLD, as the cells have them -/
theorem fillI {N i n : Nat} {v : Int32} (hn : n < 2 ^ 31) (hN : n < N) (σ : Sx) : ∃ σ2, F_J7_fill_53178 N i n v σ = some ((), σ2) ∧ Kp (fun a b => a = i ∧ b < n) σ σ2 ∧ ∀ j, j < n → siI σ2 i j = v := by
  unfold F_J7_fill_53178
  refine lp1U (Q := fun o => ∃ σ2, o = some ((), σ2) ∧ Kp (fun a b => a = i ∧ b < n) σ σ2 ∧ ∀ j, j < n → siI σ2 i j = v) n (fun k σ2 => Kp (fun a b => a = i ∧ b < n) σ σ2 ∧ ∀ j, j < k → siI σ2 i j = v) ?_ (i := 0) (Nat.zero_le _) (by omega) ⟨Kp.rf, fun j q => absurd q (Nat.not_lt_zero _)⟩
  rintro r k σ2 hk ⟨h1, h2⟩
  unfold B_J7_fill_53178_L5
  rw [ofN, ite_le (by omega) (by omega)]
  by_cases hlt : n ≤ k
  · left
    rw [if_pos hlt]
    exact ⟨σ2, rfl, h1, fun j hj => h2 j (by omega)⟩
  · right
    refine ⟨by omega, upI σ2 i k v, ⟨h1.I ⟨rfl, by omega⟩, fun j hj => ?_⟩, by rw [if_neg hlt, sIx_k (by omega) (by omega), nI_add1]⟩
    by_cases e : j = k
    · rw [e, uI_s]
    · rw [uI_j e]
      exact h2 j (by omega)
def lstI (σ : Sx) (c : Nat) (L : List Nat) : Prop := ∀ h, h < L.length → siI σ c h = nI (L.getD h 0)
theorem lstI.push {σ : Sx} {c : Nat} {L : List Nat} (h : lstI σ c L) (x : Nat) : lstI (upI σ c L.length (nI x)) c (L ++ [x]) := fun k hk => by
  rw [List.length_append, List.length_singleton] at hk
  by_cases e : k = L.length
  · subst e
    rw [uI_s]
    simp [List.getD]
  · rw [uI_j e, h k (by omega)]
    simp [List.getD, List.getElem?_append_left (show k < L.length by omega)]
theorem lstI.of {σ σ2 : Sx} {c : Nat} {L : List Nat} (h : lstI σ c L) (e : ∀ j, siI σ2 c j = siI σ c j) : lstI σ2 c L := fun k hk => by
  rw [e]
  exact h k hk
/-- in a run of a, all but the l-th fall out -/
theorem flt_grp {p : Nat → Bool} {s a l : Nat} (hl : l < a) (h : ∀ j, j < a → p (s + j) = true → j = l) : (List.range (s + a)).filter p = (List.range s).filter p ++ (if p (s + l) = true then [s + l] else []) := by
  rw [List.range_add, List.filter_append]
  congr 1
  refine asc_eq _ _ ?_ ?_ (fun x => ?_)
  · refine List.Pairwise.filter _ ?_
    rw [List.pairwise_map]
    exact List.pairwise_lt_range.imp (fun q => by omega)
  · split <;> simp
  · rw [List.mem_filter, List.mem_map]
    constructor
    · rintro ⟨⟨j, hj, rfl⟩, hp⟩
      have hj2 := List.mem_range.mp hj
      have := h j hj2 hp
      subst this
      rw [if_pos hp]
      exact List.mem_singleton.mpr rfl
    · intro hx
      by_cases hp : p (s + l) = true
      · rw [if_pos hp] at hx
        rw [List.mem_singleton.mp hx]
        exact ⟨⟨l, List.mem_range.mpr hl, rfl⟩, hp⟩
      · rw [if_neg hp] at hx
        exact absurd hx (List.not_mem_nil)
theorem flt_len (p : Nat → Bool) (n : Nat) : ((List.range n).filter p).length ≤ n := by
  have := List.length_filter_le p (List.range n)
  rw [List.length_range] at this
  exact this
/-- the list of those that hold, by where they are in the list of all -/
def hlL (G : Gt) (W : Wd) (T : Nat → Nat → Bool) : List Nat := (List.range (szN W (W 0 0))).filter (fun x => hldB G W T (nmN W (W 0 0) x))
def gHd (G : Gt) (W : Wd) (T : Nat → Nat → Bool) (σ : Sx) : Prop := siI σ 3 10 = nI (hlL G W T).length ∧ lstI σ 88 (hlL G W T)
theorem szN_fac (W : Wd) : ∀ n u, u < n → ∃ c, szN W n = szN W (u + 1) * c := by
  intro n
  induction n with
  | zero => intro u hu; omega
  | succ n ih =>
    intro u hu
    by_cases e : u = n
    · subst e
      exact ⟨1, (Nat.mul_one _).symm⟩
    · obtain ⟨c, hc⟩ := ih u (by omega)
      exact ⟨c * W 4 n, by show szN W n * W 4 n = _; rw [hc, Nat.mul_assoc]⟩
theorem nmN_dig {W : Wd} (ok : okW W) : ∀ n x, n ≤ W 0 0 → x < szN W n → ∀ u, u < n → dg (nmN W n x) u = x / szN W u % W 4 u := by
  intro n
  induction n with
  | zero => intro x _ _ u hu; omega
  | succ n ih =>
    intro x hn hx u hu
    have hp := szN_pos ok n (by omega)
    have h1 := nmN_lt ok n (x % szN W n) (by omega) (Nat.mod_lt _ hp)
    have h2 : x / szN W n < W 4 n := Nat.div_lt_of_lt_mul hx
    have h4 := ok.ways n
    unfold nmN
    rw [dg_add h1 (by omega)]
    by_cases h : u < n
    · rw [if_pos h, ih _ (by omega) (Nat.mod_lt _ hp) u h]
      obtain ⟨c, hc⟩ := szN_fac W n u h
      rw [hc, show szN W (u + 1) = szN W u * W 4 u from rfl, Nat.mul_assoc, Nat.mod_mul_right_div_self, Nat.mod_mul_right_mod]
    · rw [if_neg h, if_pos (by omega), show u = n by omega, Nat.mod_eq_of_lt h2]
/-- days of a run are alike but for the first walker -/
theorem run_dg {W : Wd} (ok : okW W) {g j : Nat} (h0 : 0 < W 0 0) (hj : j < W 4 0) (hx : W 4 0 * g + j < szN W (W 0 0)) : dg (nmN W (W 0 0) (W 4 0 * g + j)) 0 = j ∧ ∀ u, u < W 0 0 → u ≠ 0 → dg (nmN W (W 0 0) (W 4 0 * g + j)) u = dg (nmN W (W 0 0) (W 4 0 * g)) u := by
  constructor
  · rw [nmN_dig ok _ _ (Nat.le_refl _) hx 0 h0, show szN W 0 = 1 from rfl, Nat.div_one, Nat.mul_add_mod, Nat.mod_eq_of_lt hj]
  · intro u hu hu0
    rw [nmN_dig ok _ _ (Nat.le_refl _) hx u hu, nmN_dig ok _ _ (Nat.le_refl _) (by omega) u hu]
    obtain ⟨c, hc⟩ := szN_fac W u 0 (by omega)
    have hc2 : szN W u = W 4 0 * c := by
      rw [hc]
      show 1 * W 4 0 * c = _
      rw [Nat.one_mul]
    rw [hc2, ← Nat.div_div_eq_div_mul, ← Nat.div_div_eq_div_mul, Nat.mul_add_div (by omega), Nat.div_eq_of_lt hj, Nat.add_zero, Nat.mul_div_cancel_left _ (by omega)]
def noOwn (W : Wd) (T : Nat → Nat → Bool) : Prop := ∀ w, w < W 0 0 → ∀ v, v < 4 → T w (4 * w + v) = false
theorem run_tks {G : Gt} {W : Wd} {T : Nat → Nat → Bool} (hT : noOwn W T) {d e : Nat} (h0 : 0 < W 0 0) (h : ∀ u, u < W 0 0 → u ≠ 0 → dg d u = dg e u) : tks G W T d 0 = tks G W T e 0 := by
  unfold tks
  congr 1
  unfold sgt
  refine bst_congr (fun u hu => ?_)
  by_cases e0 : u = 0
  · subst e0
    rw [hT 0 h0 _ (dg_lt d 0), hT 0 h0 _ (dg_lt e 0)]
  · rw [h u hu e0]
def rgH (i j : Nat) : Prop := rgW i j ∨ i = 88 ∨ (i = 3 ∧ j = 10)
theorem cD.h {N : Nat} {G : Gt} {W : Wd} {T : Nat → Nat → Bool} {σ : Sx} (h : cD N G W T σ) {i j : Nat} {v : Int32} (hi : i = 88 ∨ i = 3) : cD N G W T (upI σ i j v) := by
  refine h.kp (Kp.rf.I (reg := fun a _ => a = i) rfl) (fun a b q => ?_)
  unfold cwR lcR at q
  omega
theorem lsW.of {W : Wd} {n : Nat} {σ σ2 : Sx} (h : lsW W n σ) (e : ∀ i j, rgL i j → siI σ2 i j = siI σ i j) : lsW W n σ2 :=
  ⟨by rw [e 3 5 (Or.inr (Or.inr ⟨rfl, rfl⟩))]; exact h.1, fun x hx => ⟨by rw [e 83 x (Or.inl rfl)]; exact (h.2 x hx).1, by rw [e 84 x (Or.inr (Or.inl rfl))]; exact (h.2 x hx).2⟩⟩
theorem C_gather {N : Nat} (hN : 1024 < N) {G : Gt} {W : Wd} {T : Nat → Nat → Bool} {σ : Sx} (ok : okW W) (hT : noOwn W T) (h : cD N G W T σ) (hl : lsW W (W 0 0) σ) : ∃ σ2, F_X2_gather N σ = some ((), σ2) ∧ Kp rgH σ σ2 ∧ cD N G W T σ2 ∧ gHd G W T σ2 := by
  have hn := ok.nw
  have hsz := szN_1024 ok (show W 0 0 ≤ 5 from hn)
  have hpos := szN_pos ok _ (Nat.le_refl (W 0 0))
  obtain ⟨a, M, ha1, ha2, ha3, ha4, ha5⟩ : ∃ a M, 1 ≤ a ∧ a ≤ 4 ∧ szN W (W 0 0) = a * M ∧ (W 0 0 = 0 → a = 1 ∧ W 4 0 = 0) ∧ (0 < W 0 0 → a = W 4 0) := by
    rcases Nat.eq_zero_or_pos (W 0 0) with e | e
    · exact ⟨1, 1, by omega, by omega, by rw [e]; rfl, fun _ => ⟨rfl, ok.2.2.1 0 (by omega)⟩, fun q => by omega⟩
    · obtain ⟨c, hc⟩ := szN_fac W (W 0 0) 0 e
      have := (ok.2.1 0 e).2.2.2
      exact ⟨W 4 0, c, this.1, this.2, by rw [hc]; show 1 * W 4 0 * c = _; rw [Nat.one_mul], fun q => by omega, fun _ => rfl⟩
  have hM : M ≤ 1024 := by
    have : 1 * M ≤ a * M := Nat.mul_le_mul_right _ ha1
    omega
  unfold F_X2_gather
  rw [pIx_s, aIx_0 (by decide) (by decide), uI_i (by decide), h.1.2.2.1 0 (by decide)]
  have emax : F_J9_max_7cf53 (nI (W 4 0)) (1 : Int32) (upI σ 3 10 0) = some (nI a, upI σ 3 10 0) := by
    rcases Nat.eq_zero_or_pos (W 0 0) with e | e
    · rw [(ha4 e).2, (ha4 e).1]
      rfl
    · have := (ok.2.1 0 e).2.2.2
      rw [ha5 e]
      exact max1 this.1 (by omega)
  rw [emax, clx_s]
  refine lp1G (Q := fun o => ∃ σ2, o = some ((), σ2) ∧ Kp rgH σ σ2 ∧ cD N G W T σ2 ∧ gHd G W T σ2) M (fun g x σ2 => x = nI (a * g) ∧ Kp rgH σ σ2 ∧ cD N G W T σ2 ∧ siI σ2 3 10 = nI ((List.range (a * g)).filter (fun x => hldB G W T (nmN W (W 0 0) x))).length ∧ lstI σ2 88 ((List.range (a * g)).filter (fun x => hldB G W T (nmN W (W 0 0) x)))) ?_ (by omega) ⟨rfl, Kp.rf.I (Or.inr (Or.inr ⟨rfl, rfl⟩)), h.h (Or.inr rfl), by rw [uI_s]; rfl, fun k hk => absurd hk (Nat.not_lt_zero _)⟩
  rintro r g x σ2 hg ⟨rfl, hk, hD, h10, h88⟩
  have hl2 : lsW W (W 0 0) σ2 := hl.of (fun i j q => (hk i j (by unfold rgL at q; unfold rgH rgW; omega)).1)
  have hag : a * g ≤ a * M := Nat.mul_le_mul_left _ hg
  unfold B_X2_gather_L21
  rw [hl2.1, ite_le (by omega) (by omega)]
  by_cases hlt : szN W (W 0 0) ≤ a * g
  · left
    rw [if_pos hlt]
    have e : a * g = szN W (W 0 0) := by omega
    rw [e] at h10 h88
    exact ⟨σ2, rfl, hk, hD, h10, h88⟩
  right
  have hgM : g < M := by
    rcases Nat.lt_or_ge g M with q | q
    · exact q
    · have := Nat.mul_le_mul_left a q
      omega
  have hag1 : a * (g + 1) ≤ a * M := Nat.mul_le_mul_left _ hgM
  have hag2 : a * (g + 1) = a * g + a := Nat.mul_succ a g
  refine ⟨hgM, ?_⟩
  rw [if_neg hlt, hD.1.1]
  -- the place of the one that may hold
  obtain ⟨l, σ3, hl3, hk3, hD3, hgo, hal⟩ : ∃ l σ3, l < a ∧ Kp rgW σ2 σ3 ∧ cD N G W T σ3 ∧ (∀ J : Int32 → Sx → Option (Unit × Sx), nmx J (fun j56 => (if nI (W 0 0) ≤ 0 then j56 (nI (a * g)) σ2 else aIx 84 1024 (nI (a * g)) σ2 (fun v7 => clx (F_X2_lawful N (0 : Int32) v7 σ2) (fun v8 σ9 => j56 (nI (a * g) + v8) σ9)))) = J (nI (a * g + l)) σ3) ∧ ∀ j, j < a → hldB G W T (nmN W (W 0 0) (a * g + j)) = true → j = l := by
    rcases Nat.eq_zero_or_pos (W 0 0) with e | e
    · refine ⟨0, σ2, by omega, Kp.rf, hD, fun J => by rw [nmx_s, e, if_pos (by decide)]; rfl, fun j hj _ => ?_⟩
      have := (ha4 e).1
      omega
    · obtain ⟨σ3, g1, g2, g3⟩ := C_lawful ok hD e (nmN W (W 0 0) (a * g))
      have ht := tkw_lt (G := G) (s := sgt (W 0 0) T (nmN W (W 0 0) (a * g)) 0) ok e
      refine ⟨tks G W T (nmN W (W 0 0) (a * g)) 0, σ3, Nat.lt_of_lt_of_eq ht (ha5 e).symm, g2, g3, fun J => ?_, fun j hj hp => ?_⟩
      · rw [nmx_s, if_neg (nI_nle e (by omega)), aIx_k (show a * g < 1024 by omega) (by decide), (hl2.2 (a * g) (by omega)).2, show F_X2_lawful N (0 : Int32) (nI (wys (W 0 0) (nmN W (W 0 0) (a * g)))) σ2 = _ from g1, clx_s, nI_add]
      · have hx : a * g + j < szN W (W 0 0) := by omega
        rw [ha5 e] at hj hx hp ⊢
        obtain ⟨r1, r2⟩ := run_dg ok e hj hx
        have := hldB_iff.mp hp 0 e
        rw [r1, run_tks hT e r2] at this
        exact this.symm
  rw [hgo]
  have hx : a * g + l < szN W (W 0 0) := by omega
  have hl3' : lsW W (W 0 0) σ3 := hl2.of (fun i j q => (hk3 i j (by unfold rgL at q; unfold rgW; omega)).1)
  have h10' : siI σ3 3 10 = nI ((List.range (a * g)).filter (fun x => hldB G W T (nmN W (W 0 0) x))).length := by rw [(hk3 3 10 (by unfold rgW; omega)).1]; exact h10
  have h88' : lstI σ3 88 ((List.range (a * g)).filter (fun x => hldB G W T (nmN W (W 0 0) x))) := h88.of (fun j => (hk3 88 j (by unfold rgW; omega)).1)
  have hlen := flt_len (fun x => hldB G W T (nmN W (W 0 0) x)) (a * g)
  have hd := nm_day ok hx
  have hd1 := hd.1
  have hkk : Kp rgH σ σ3 := hk.tr (hk3.le (fun i j q => Or.inl q))
  obtain ⟨σ4, g1, g2, g3⟩ := C_isHeld (by omega) ok hD3 (show nmN W (W 0 0) (a * g + l) < 2 ^ 31 by omega)
  have h10'' : siI σ4 3 10 = nI ((List.range (a * g)).filter (fun x => hldB G W T (nmN W (W 0 0) x))).length := by rw [(g2 3 10 (by unfold rgW; omega)).1]; exact h10'
  have h88'' : lstI σ4 88 ((List.range (a * g)).filter (fun x => hldB G W T (nmN W (W 0 0) x))) := h88'.of (fun j => (g2 88 j (by unfold rgW; omega)).1)
  have fin : ∀ σx, (fun (σ5 : Sx) => nmx (nI (a * g) + nI a) (fun v3 => r v3 σ5)) σx = r (nI (a * (g + 1))) σx := fun σx => by
    show nmx _ _ = _
    rw [nmx_s, nI_add, ← hag2]
  rw [nmx_s, hl3'.1, if_neg (nI_ge hx (by omega)), h10', if_neg (show ¬ (1024 : Int32) ≤ nI _ from nI_ge (b := 1024) (by omega) (by decide)), aIx_k (show a * g + l < 1024 by omega) (by decide), (hl3'.2 _ hx).1, aIx_k (show a * g + l < 1024 by omega) (by decide), (hl3'.2 _ hx).2, g1, clx_s, if_b2i]
  have hflt := flt_grp (p := fun x => hldB G W T (nmN W (W 0 0) x)) (s := a * g) hl3 hal
  rw [← hag2] at hflt
  by_cases hp : hldB G W T (nmN W (W 0 0) (a * g + l)) = true
  · rw [if_pos hp] at hflt ⊢
    rw [h10'', sIx_k (show _ < 1024 by omega) (by decide), pIx_s, uI_i (by decide), h10'', nI_add1]
    refine ⟨_, _, ⟨rfl, ?_, ?_, ?_, ?_⟩, fin _⟩
    · exact ((hkk.tr (g2.le (fun i j q => Or.inl q))).I (Or.inr (Or.inl rfl))).I (Or.inr (Or.inr ⟨rfl, rfl⟩))
    · exact (g3.h (Or.inl rfl)).h (Or.inr rfl)
    · rw [uI_s, hflt, List.length_append, List.length_singleton]
    · rw [hflt]
      exact (h88''.push (a * g + l)).of (fun j => uI_i (by decide))
  · rw [if_neg hp] at hflt ⊢
    rw [List.append_nil] at hflt
    exact ⟨_, _, ⟨rfl, hkk.tr (g2.le (fun i j q => Or.inl q)), g3, by rw [hflt]; exact h10'', by rw [hflt]; exact h88''⟩, fin _⟩
