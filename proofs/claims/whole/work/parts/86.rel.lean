/-! WHAT HOLDS BETWEEN CALLS: the world, the law, the days, the changes -/
def otR (i j : Nat) : Prop := (i = 2 ∧ j = 0) ∨ i = 79 ∨ (i = 103 ∧ j = 16) ∨ i = 115 ∨ (i = 6 ∧ j = 2) ∨ i = 94 ∨ i = 95 ∨ (i = 103 ∧ j = 48) ∨ i = 131 ∨ i = 132 ∨ (i = 8 ∧ (j = 0 ∨ j = 2)) ∨ (10 ≤ i ∧ i ≤ 21) ∨ i = 101 ∨ i = 102 ∨ (i = 103 ∧ (j = 49 ∨ j = 51)) ∨ i = 133 ∨ i = 134 ∨ (135 ≤ i ∧ i ≤ 137)
def rgA (i j : Nat) : Prop := ¬ otR i j
/-- whether the law names the lead -/
def LN (N : Nat) (b : Bool) (G : Gt) (σ : Sx) : Prop := (∀ σ1 : Sx, (∀ i j, lcR i j → siI σ1 i j = siI σ i j) → F_X4_namesLead N σ1 = some (b2i b, σ1)) ∧ (b = false → ∀ s k l l2 w m, okS s k l w m → okS s k l2 w m → G s k l w m = G s k l2 w m)
theorem LN.of {N : Nat} {b : Bool} {G : Gt} {σ σ2 : Sx} (h : LN N b G σ) (e : ∀ i j, lcR i j → siI σ2 i j = siI σ i j) : LN N b G σ2 := ⟨fun σ1 q => h.1 σ1 (fun i j r => (q i j r).trans (e i j r)), h.2⟩
def okE (n what num v : Nat) : Prop := (what = 0 ∧ num < n ∧ v ≤ 60) ∨ (what = 1 ∧ num < n ∧ v ≤ 200) ∨ (what = 2 ∧ num < n ∧ v ≤ 99) ∨ (what = 3 ∧ num < 78 ∧ num / 10 < 8 ∧ num % 10 < 8 ∧ num / 10 ≠ num % 10 ∧ 1 ≤ v ∧ v ≤ 30)
/-- the changes, n walkers being there -/
def ReC (n : Nat) (σ : Sx) : Prop := ∃ a u, a + u ≤ 40 ∧ siI σ 7 1 = nI a ∧ siI σ 7 2 = nI (a + u) ∧ siI σ 103 9 = nI a ∧ siI σ 103 10 = nI u ∧ ∀ j, j < a + u → ∃ what num was bec, okE n what num was ∧ okE n what num bec ∧ siI σ 97 j = nI what ∧ siI σ 111 j = nI what ∧ siI σ 98 j = nI num ∧ siI σ 112 j = nI num ∧ siI σ 99 j = nI was ∧ siI σ 113 j = nI was ∧ siI σ 100 j = nI bec ∧ siI σ 114 j = nI bec
def ccR (i j : Nat) : Prop := (i = 7 ∧ (j = 1 ∨ j = 2)) ∨ (97 ≤ i ∧ i ≤ 100) ∨ (i = 103 ∧ (j = 9 ∨ j = 10)) ∨ (111 ≤ i ∧ i ≤ 114)
theorem ReC.of {n : Nat} {σ σ2 : Sx} (h : ReC n σ) (e : ∀ i j, ccR i j → siI σ2 i j = siI σ i j) : ReC n σ2 := by
  obtain ⟨a, u, h1, h2, h3, h4, h5, h6⟩ := h
  refine ⟨a, u, h1, ?_, ?_, ?_, ?_, fun j hj => ?_⟩
  · rw [e 7 1 (by unfold ccR; omega)]
    exact h2
  · rw [e 7 2 (by unfold ccR; omega)]
    exact h3
  · rw [e 103 9 (by unfold ccR; omega)]
    exact h4
  · rw [e 103 10 (by unfold ccR; omega)]
    exact h5
  · obtain ⟨what, num, was, bec, q⟩ := h6 j hj
    refine ⟨what, num, was, bec, ?_⟩
    rw [e 97 j (by unfold ccR; omega), e 98 j (by unfold ccR; omega), e 99 j (by unfold ccR; omega), e 100 j (by unfold ccR; omega), e 111 j (by unfold ccR; omega), e 112 j (by unfold ccR; omega), e 113 j (by unfold ccR; omega), e 114 j (by unfold ccR; omega)]
    exact q
/-- the days, reckoned or stale -/
def dys (N : Nat) (G : Gt) (W : Wd) (σ : Sx) : Prop := siI σ 3 2 = 1 ∨ (siI σ 3 2 = 0 ∧ cRd N G W σ)
def RW (N : Nat) (W : Wd) (G : Gt) (b : Bool) (σ : Sx) : Prop := okW W ∧ cW W σ ∧ mW W σ ∧ LC N G σ ∧ LM N G σ ∧ LN N b G σ ∧ dys N G W σ ∧ siI σ 103 32 = -1 ∧ siI σ 103 34 = -1 ∧ ReC (W 0 0) σ
def ReW (N : Nat) (σ : Sx) : Prop := ∃ W G b, RW N W G b σ
/-- all that RW rests on but the days' own cells -/
def rwR (i j : Nat) : Prop := cwR i j ∨ mwR i j ∨ lcR i j ∨ lmR i j ∨ ccR i j ∨ (i = 103 ∧ (j = 32 ∨ j = 34))
theorem RW.mk2 {N : Nat} {W : Wd} {G : Gt} {b : Bool} {σ σ2 : Sx} (h : RW N W G b σ) (e : ∀ i j, rwR i j → siI σ2 i j = siI σ i j) (hd : dys N G W σ2) : RW N W G b σ2 := by
  obtain ⟨h1, h2, h3, h4, h5, h6, -, h8, h9, h10⟩ := h
  refine ⟨h1, h2.of (fun i j q => e i j (Or.inl q)), h3.of (fun i j q => e i j (Or.inr (Or.inl q))), h4.of (fun i j q => e i j (Or.inr (Or.inr (Or.inl q)))), h5.of (fun i j q => e i j (Or.inr (Or.inr (Or.inr (Or.inl q))))), h6.of (fun i j q => e i j (Or.inr (Or.inr (Or.inl q)))), hd, ?_, ?_, h10.of (fun i j q => e i j (Or.inr (Or.inr (Or.inr (Or.inr (Or.inl q))))))⟩
  · rw [e 103 32 (by unfold rwR; omega)]
    exact h8
  · rw [e 103 34 (by unfold rwR; omega)]
    exact h9
/-- the days' cells -/
def dyR (i j : Nat) : Prop := (83 ≤ i ∧ i ≤ 88) ∨ (i = 3 ∧ (j = 2 ∨ j = 5 ∨ j = 10))
theorem dys.of {N : Nat} {G : Gt} {W : Wd} {σ σ2 : Sx} (h : dys N G W σ) (e : ∀ i j, (cwR i j ∨ lcR i j ∨ dyR i j) → siI σ2 i j = siI σ i j) : dys N G W σ2 := by
  have e32 := e 3 2 (by unfold dyR; omega)
  rcases h with h | ⟨h, h1, h2, h3, h4, h5, h6, h7⟩
  · exact Or.inl (by rw [e32]; exact h)
  · refine Or.inr ⟨by rw [e32]; exact h, h1.of (fun i j q => e i j (Or.inl q)), h2.of (fun i j q => e i j (Or.inr (Or.inl q))), fun w hw => ?_, h4.of (fun j => e 87 j (by unfold dyR; omega)), h5.of (fun i j q => e i j (by unfold rgL at q; unfold dyR; omega)), ?_, h7.of (fun j => e 88 j (by unfold dyR; omega))⟩
    · rw [e 85 w (by unfold dyR; omega), e 86 w (by unfold dyR; omega)]
      exact h3 w hw
    · rw [e 3 10 (by unfold dyR; omega)]
      exact h6
/-- cells that RW does not rest on change -/
theorem RW.kp {N : Nat} {W : Wd} {G : Gt} {b : Bool} {σ σ2 : Sx} {reg : Nat → Nat → Prop} (h : RW N W G b σ) (k : Kp reg σ σ2) (d : ∀ i j, (rwR i j ∨ dyR i j) → ¬ reg i j) : RW N W G b σ2 := by
  have e : ∀ i j, (rwR i j ∨ dyR i j) → siI σ2 i j = siI σ i j := fun i j q => (k i j (d i j q)).1
  refine h.mk2 (fun i j q => e i j (Or.inl q)) (h.2.2.2.2.2.2.1.of (fun i j q => e i j ?_))
  rcases q with q | q | q
  · exact Or.inl (Or.inl q)
  · exact Or.inl (Or.inr (Or.inr (Or.inl q)))
  · exact Or.inr q
/-- with the days reckoned -/
theorem RW.set {N : Nat} (hN : 1024 < N) {W : Wd} {G : Gt} {b : Bool} {σ : Sx} (h : RW N W G b σ) : ∃ σ2, F_X2_settle N σ = some ((), σ2) ∧ Kp rgD σ σ2 ∧ RW N W G b σ2 ∧ cRd N G W σ2 := by
  obtain ⟨σ2, e1, e2, e3, e4⟩ := C_settle hN h.1 h.2.1 h.2.2.2.1 h.2.2.2.2.2.2.1
  refine ⟨σ2, e1, e2, h.mk2 (fun i j q => (e2 i j ?_).1) (Or.inr ⟨e3, e4⟩), e4⟩
  unfold rwR cwR mwR lcR lmR ccR at q
  unfold rgD
  omega
/-- what was worked out changed -/
theorem RW.wrk {N : Nat} {W : Wd} {G : Gt} {b : Bool} {σ σ2 : Sx} (h : RW N W G b σ) (hr : cRd N G W σ) (k : Kp rgW σ σ2) (hk : cK G W σ2) (h0 : siI σ 3 2 = 0) : RW N W G b σ2 ∧ cRd N G W σ2 := by
  have hr2 := hr.up k hk
  refine ⟨h.mk2 (fun i j q => (k i j ?_).1) (Or.inr ⟨?_, hr2⟩), hr2⟩
  · unfold rwR cwR mwR lcR lmR ccR at q
    unfold rgW
    omega
  · rw [(k 3 2 (by unfold rgW; omega)).1]
    exact h0
theorem TM_no {W : Wd} {σ : Sx} (ok : okW W) (h1 : siI σ 103 32 = -1) (h2 : siI σ 103 34 = -1) : ∀ w, w < W 0 0 → ∀ u, u < W 0 0 → ∀ v, v < 4 → TM W (siI σ 103 32) (siI σ 103 33) (siI σ 103 34) (siI σ 103 35) (siI σ 103 36) w (4 * u + v) = T0 W w (4 * u + v) := fun w hw u hu v hv => by
  have hn := ok.nw
  have hfp := first_plc ok hw
  unfold TM T0
  rw [h1, h2, div4u hv]
  have e1 : ¬ nI u = (-1 : Int32) := ne_m1 (by omega)
  have e2 : ¬ nI (W 6 (32 * w)) = (-1 : Int32) := ne_m1 (by omega)
  simp [e1, e2]
/-- two ways to see that are one for the walkers there -/
def eqT (W : Wd) (T T2 : Nat → Nat → Bool) : Prop := ∀ w, w < W 0 0 → ∀ u, u < W 0 0 → ∀ v, v < 4 → T w (4 * u + v) = T2 w (4 * u + v)
theorem eqT.sg {W : Wd} {T T2 : Nat → Nat → Bool} (h : eqT W T T2) {w : Nat} (hw : w < W 0 0) (d : Nat) : sgt (W 0 0) T d w = sgt (W 0 0) T2 d w := by
  unfold sgt
  exact bst_congr (fun u hu => h w hw u hu _ (dg_lt d u))
theorem eqT.tk {G : Gt} {W : Wd} {T T2 : Nat → Nat → Bool} (h : eqT W T T2) {w : Nat} (hw : w < W 0 0) (d : Nat) : tks G W T d w = tks G W T2 d w := by
  unfold tks
  rw [h.sg hw]
theorem eqT.hld {G : Gt} {W : Wd} {T T2 : Nat → Nat → Bool} (h : eqT W T T2) (d : Nat) : hldB G W T d = hldB G W T2 d := by
  have : hldB G W T d = true ↔ hldB G W T2 d = true := by
    rw [hldB_iff, hldB_iff]
    exact ⟨fun q w hw => by rw [← h.tk hw]; exact q w hw, fun q w hw => by rw [h.tk hw]; exact q w hw⟩
  cases e1 : hldB G W T d <;> cases e2 : hldB G W T2 d <;> simp_all
theorem eqT.hl {G : Gt} {W : Wd} {T T2 : Nat → Nat → Bool} (h : eqT W T T2) : hlL G W T = hlL G W T2 := by
  unfold hlL
  congr 1
  funext x
  exact h.hld _
theorem eqT.ml {G : Gt} {W : Wd} {T T2 : Nat → Nat → Bool} (ok : okW W) (h : eqT W T T2) : mlL G W T = mlL G W T2 := by
  rw [ml_hl ok, ml_hl ok, h.hl]
theorem eqT.cs {G : Gt} {W : Wd} {T T2 : Nat → Nat → Bool} (h : eqT W T T2) (d : Nat) : cst G W T d = cst G W T2 d := by
  unfold cst
  refine smN_congr (fun w hw => ?_)
  unfold cstF
  rw [h.tk hw]
theorem eqT.nx {G : Gt} {W : Wd} {T T2 : Nat → Nat → Bool} (h : eqT W T T2) (d : Nat) : nxt G W T d = nxt G W T2 d := by
  unfold nxt
  have key : ∀ n, n ≤ W 0 0 → nxN G W T d n = nxN G W T2 d n := by
    intro n
    induction n with
    | zero => intro _; rfl
    | succ n ih => intro hn; rw [nxN, nxN, ih (by omega), h.tk (by omega)]
  exact key _ (Nat.le_refl _)
/-- the reference's view, with what the other sees -/
theorem RW.held {N : Nat} (hN : 1024 < N) {W : Wd} {G : Gt} {b : Bool} {σ : Sx} (h : RW N W G b σ) : ∃ σ2, F_X10_findHeld N σ = some ((), σ2) ∧ Kp rgF σ σ2 ∧ mC W σ2 ∧ (∃ T, eqT W T (T0 W) ∧ mS G W T σ2) ∧ siI σ2 103 38 = nI (hlL G W (T0 W)).length ∧ lstI σ2 126 (mlL G W (T0 W)) := by
  obtain ⟨σ2, e1, e2, e3, e4, e5, e6⟩ := M_findHeld hN h.1 h.2.2.1 h.2.2.2.2.1
  have hT : eqT W (TM W (siI σ 103 32) (siI σ 103 33) (siI σ 103 34) (siI σ 103 35) (siI σ 103 36)) (T0 W) := TM_no h.1 h.2.2.2.2.2.2.2.1 h.2.2.2.2.2.2.2.2.1
  refine ⟨σ2, e1, e2, e3, ⟨_, hT, e4⟩, ?_, ?_⟩
  · rw [e5, hT.ml h.1, ml_len h.1]
  · rw [← hT.ml h.1]
    exact e6
theorem RW.sights {N : Nat} (hN : 1024 < N) {W : Wd} {G : Gt} {b : Bool} {σ : Sx} (h : RW N W G b σ) : ∃ σ2, F_X10_findSights N σ = some ((), σ2) ∧ Kp rgS σ σ2 ∧ mC W σ2 ∧ ∃ T, eqT W T (T0 W) ∧ mS G W T σ2 := by
  obtain ⟨σ2, e1, e2, e3, e4⟩ := M_findSights (N := N) (by omega) h.1 h.2.2.1 h.2.2.2.2.1
  exact ⟨σ2, e1, e2, e3, _, TM_no h.1 h.2.2.2.2.2.2.2.1 h.2.2.2.2.2.2.2.2.1, e4⟩
theorem RW.F {N : Nat} {W : Wd} {G : Gt} {b : Bool} {σ σ2 : Sx} (h : RW N W G b σ) (k : Kp rgF σ σ2) : RW N W G b σ2 := h.kp k (fun i j q => by
  unfold rwR cwR mwR lcR lmR ccR dyR at q
  unfold rgF
  omega)
theorem rgA_D {σ σ2 : Sx} (k : Kp rgD σ σ2) : Kp rgA σ σ2 := k.le (fun i j q => by unfold rgD at q; unfold rgA otR; omega)
theorem rgA_F {σ σ2 : Sx} (k : Kp rgF σ σ2) : Kp rgA σ σ2 := k.le (fun i j q => by unfold rgF at q; unfold rgA otR; omega)
theorem rgA_W {σ σ2 : Sx} (k : Kp rgW σ σ2) : Kp rgA σ σ2 := k.le (fun i j q => by unfold rgW at q; unfold rgA otR; omega)
theorem Kp.S {σ σ2 : Sx} (k : Kp rgS σ σ2) : Kp rgF σ σ2 := k.le (fun i j q => by unfold rgS at q; unfold rgF; omega)
