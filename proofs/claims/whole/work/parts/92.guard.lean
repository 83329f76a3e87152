/-! guard -/
def clI (σ : Sx) (X : Nat → Nat) : Prop := ∀ c, c < 3208 → siI σ 92 c = nI (X c)
/-- a way i is marked in the cells H -/
def mkH (σ : Sx) (X : Nat → Nat) (i : Nat) (P : Nat → Prop) : Prop := ∃ H : Nat → Bool, clI σ (fun c => if H c = true then X c ||| 2 ^ i else X c) ∧ ∀ c, c < 3208 → (H c = true ↔ P c)
theorem mkH.zero {σ : Sx} {X : Nat → Nat} {i : Nat} {P : Nat → Prop} (h : clI σ X) (hP : ∀ c, c < 3208 → ¬ P c) : mkH σ X i P := ⟨fun _ => false, fun c hc => by
  rw [h c hc]
  simp, fun c hc => ⟨fun q => absurd q (by simp), fun q => absurd q (hP c hc)⟩⟩
theorem mkH.congr {σ : Sx} {X : Nat → Nat} {i : Nat} {P P2 : Nat → Prop} (h : mkH σ X i P) (e : ∀ c, c < 3208 → (P c ↔ P2 c)) : mkH σ X i P2 := by
  obtain ⟨H, h1, h2⟩ := h
  exact ⟨H, h1, fun c hc => (h2 c hc).trans (e c hc)⟩
theorem or_idem2 (x n : Nat) : (x ||| 2 ^ n) ||| 2 ^ n = x ||| 2 ^ n := by rw [Nat.or_assoc, Nat.or_self]
theorem mkH.step {σ : Sx} {X : Nat → Nat} {i : Nat} {P : Nat → Prop} (h : mkH σ X i P) {c0 : Nat} (hc0 : c0 < 3208) : ∃ v, siI σ 92 c0 = nI v ∧ mkH (upI σ 92 c0 (nI (v ||| 2 ^ i))) X i (fun c => P c ∨ c = c0) := by
  obtain ⟨H, h1, h2⟩ := h
  refine ⟨_, h1 c0 hc0, fun c => H c || decide (c = c0), fun c hc => ?_, fun c hc => ?_⟩
  · by_cases e : c = c0
    · subst e
      rw [uI_s]
      dsimp only
      by_cases q : H c = true
      · rw [if_pos q, or_idem2, if_pos (by simp)]
      · rw [if_neg q, if_pos (by simp)]
    · rw [uI_j e, h1 c hc]
      simp [e]
  · simp [h2 c hc]
def gvF (W : Wd) (i c k : Nat) : Bool := decide (8 * cam W i k + W 6 (8 * i + k) = c)
def gvs (W : Wd) (i c : Nat) : Bool := decide (fsN (W 5 i) (gvF W i c) < W 5 i)
theorem gvs_iff {W : Wd} {i c : Nat} : gvs W i c = true ↔ ∃ k, k < W 5 i ∧ 8 * cam W i k + W 6 (8 * i + k) = c := by
  unfold gvs gvF
  rw [decide_eq_true_eq, fsN_iff]
  constructor
  · rintro ⟨k, hk, e⟩
    exact ⟨k, hk, by simpa using e⟩
  · rintro ⟨k, hk, e⟩
    exact ⟨k, hk, by simpa using e⟩
def rgC (i _j : Nat) : Prop := i = 92
theorem C_markVisits {W : Wd} {σ : Sx} {N : Nat} (hN : 8 < N) (ok : okW W) (h : cW W σ) {i : Nat} (hi : i < 20) {X : Nat → Nat} (hX : clI σ X) : ∃ σ2, F_X5_markVisits N (nI i) σ = some ((), σ2) ∧ Kp rgC σ σ2 ∧ clI σ2 (fun c => if gvs W i c = true then X c ||| 2 ^ i else X c) := by
  have hl := ok.len hi
  unfold F_X5_markVisits
  refine lp1U (Q := fun o => ∃ σ2, o = some ((), σ2) ∧ Kp rgC σ σ2 ∧ clI σ2 (fun c => if gvs W i c = true then X c ||| 2 ^ i else X c)) (W 5 i) (fun k σ2 => Kp rgC σ σ2 ∧ mkH σ2 X i (fun c => ∃ j, j < k ∧ 8 * cam W i j + W 6 (8 * i + j) = c)) ?_ (i := 0) (Nat.zero_le _) (by omega) ⟨Kp.rf, mkH.zero hX (fun c _ q => by obtain ⟨j, q, -⟩ := q; omega)⟩
  rintro r k σ2 hk ⟨hkp, hm⟩
  have hc2 : cW W σ2 := h.kp hkp (fun i j q => by unfold cwR at q; unfold rgC; omega)
  unfold B_X5_markVisits_L2
  rw [aIx_k hi (by decide), hc2.2.2.2.1 i hi, ite_le (by omega) (by omega)]
  by_cases hlt : W 5 i ≤ k
  · left
    rw [if_pos hlt]
    obtain ⟨H, h1, h2⟩ := hm
    refine ⟨σ2, rfl, hkp, fun c hc => ?_⟩
    rw [h1 c hc]
    have : H c = gvs W i c := by
      have e : H c = true ↔ gvs W i c = true := by
        rw [h2 c hc, gvs_iff]
        exact ⟨fun ⟨j, q1, q2⟩ => ⟨j, by omega, q2⟩, fun ⟨j, q1, q2⟩ => ⟨j, by omega, q2⟩⟩
      cases q1 : H c <;> cases q2 : gvs W i c <;> simp_all
    dsimp only
    rw [this]
  right
  have hkl : k < W 5 i := by omega
  refine ⟨hkl, ?_⟩
  have hcl := cam_lt ok hi hkl
  have hpl := ok.plc hi hkl
  rw [if_neg hlt, aRx_k hi (by decide), aIx_k (show k < 8 by omega) (by decide), (hc2.2.2.2.2.1 i hi k hkl).2, nmx_s, if_neg (nI_pos (by omega)), show (400 : Int32) = nI 400 from rfl, ite_lt (by decide) (by omega), nI_add1]
  by_cases h4 : 400 < cam W i k
  · rw [if_pos h4]
    refine ⟨σ2, ⟨hkp, hm.congr (fun c hc => ?_)⟩, rfl⟩
    constructor
    · rintro ⟨j, q1, q2⟩
      exact ⟨j, by omega, q2⟩
    · rintro ⟨j, q1, q2⟩
      by_cases e : j = k
      · subst e
        omega
      · exact ⟨j, by omega, q2⟩
  · obtain ⟨v, e1, e2⟩ := hm.step (c0 := cam W i k * 8 + W 6 (8 * i + k)) (by omega)
    rw [if_neg h4, aRx_k hi (by decide), aIx_k (show k < 8 by omega) (by decide), (hc2.2.2.2.2.1 i hi k hkl).1, mul8R, nI_add, aIx_k (show cam W i k * 8 + W 6 (8 * i + k) < 3208 by omega) (by decide), e1, shl1 (by omega), orI, sIx_k (show cam W i k * 8 + W 6 (8 * i + k) < 3208 by omega) (by decide)]
    refine ⟨_, ⟨hkp.I rfl, e2.congr (fun c hc => ?_)⟩, rfl⟩
    constructor
    · rintro (⟨j, q1, q2⟩ | rfl)
      · exact ⟨j, by omega, q2⟩
      · exact ⟨k, by omega, by omega⟩
    · rintro ⟨j, q1, q2⟩
      by_cases e : j = k
      · subst e
        right
        omega
      · exact Or.inl ⟨j, by omega, q2⟩
theorem tb_div (s u : Nat) : (s / 2 ^ u % 2 = 1) ↔ s.testBit u = true := by
  rw [Nat.testBit_eq_decide_div_mod_eq]
  simp
theorem bitI {s u : Nat} (hs : s < 2 ^ 31) (hu : u < 32) : (jshr (nI s) (nI u)) &&& (1 : Int32) = nI (s / 2 ^ u % 2) := by
  rw [shrI hu hs]
  have h1 : s / 2 ^ u ≤ s := Nat.div_le_self _ _
  exact pk_andN (by omega) 1 rfl
/-- cells' ways of the told walkers -/
def gvA (W : Wd) (s c j : Nat) : Bool := s.testBit (j / 4) && gvs W j c
def axF (W : Wd) (s d c u : Nat) : Bool := s.testBit u && gvs W (4 * u + dg d u) c
def axB (W : Wd) (s d c : Nat) : Bool := decide (fsN (W 0 0) (axF W s d c) < W 0 0)
theorem axB_iff {W : Wd} {s d c : Nat} : axB W s d c = true ↔ ∃ u, u < W 0 0 ∧ axF W s d c u = true := by
  unfold axB
  rw [decide_eq_true_eq, fsN_iff]
theorem wys_and {W : Wd} {s d c : Nat} : (wys (W 0 0) d &&& bst (4 * W 0 0) (gvA W s c) = 0) ↔ axB W s d c = false := by
  have key : axB W s d c = true ↔ wys (W 0 0) d &&& bst (4 * W 0 0) (gvA W s c) ≠ 0 := by
    rw [axB_iff]
    constructor
    · rintro ⟨u, hu, h⟩ e
      have hv := dg_lt d u
      have : (wys (W 0 0) d &&& bst (4 * W 0 0) (gvA W s c)).testBit (4 * u + dg d u) = true := by
        unfold wys
        rw [Nat.testBit_and, bst_tb, bst_tb]
        unfold gvA
        unfold axF at h
        rw [div4u hv, mod4u hv]
        simp [show 4 * u + dg d u < 4 * W 0 0 by omega, h]
      rw [e] at this
      simp at this
    · intro h
      obtain ⟨i, hi⟩ := Nat.exists_testBit_of_ne_zero h
      unfold wys at hi
      rw [Nat.testBit_and, bst_tb, bst_tb, Bool.and_eq_true, Bool.and_eq_true, Bool.and_eq_true] at hi
      obtain ⟨⟨h1, h2⟩, h3, h4⟩ := hi
      simp only [decide_eq_true_eq] at h1 h2 h3
      refine ⟨i / 4, by omega, ?_⟩
      unfold gvA at h4
      unfold axF
      rw [show 4 * (i / 4) + dg d (i / 4) = i by omega]
      exact h4
  constructor
  · intro h
    cases q : axB W s d c
    · rfl
    · exact absurd h (key.mp q)
  · intro h
    rcases Decidable.em (wys (W 0 0) d &&& bst (4 * W 0 0) (gvA W s c) = 0) with q | q
    · exact q
    · rw [key.mpr q] at h
      cases h
def gcF (W : Wd) (s c : Nat) (ml : Nat → Nat) (k : Nat) : Nat := if axB W s (ml k) c = true then 1 else 0
def gcN (W : Wd) (s : Nat) (ml : Nat → Nat) (H c : Nat) : Nat := smN H (gcF W s c ml)
def stG (f : Nat → Nat) : Nat → Nat × Nat
  | 0 => (0, 0)
  | c + 1 => if (stG f c).2 < f c then (c, f c) else stG f c
theorem stG_le {f : Nat → Nat} {b : Nat} (h : ∀ c, f c ≤ b) : ∀ c, (stG f c).1 ≤ c ∧ (stG f c).2 ≤ b := by
  intro c
  induction c with
  | zero => exact ⟨Nat.le_refl _, Nat.zero_le _⟩
  | succ c ih =>
    unfold stG
    split
    · exact ⟨by omega, h c⟩
    · exact ⟨by omega, ih.2⟩
def decC (c : Nat) : Nat := c / 8 * 10 + c % 8
theorem plA_gv {W : Wd} (ok : okW W) {i m p : Nat} (hi : i < 20) (hm : m < 2 ^ 30) (hp : p < 8) : (plA W i (nI m) = nI p) ↔ gvs W i (8 * m + p) = true := by
  rw [gvs_iff]
  unfold plA
  constructor
  · intro h
    by_cases q : fsN (W 5 i) (fun k => decide (nI (cam W i k) = nI m)) < W 5 i
    · rw [if_pos q] at h
      have h1 := fsN_at q
      simp only [decide_eq_true_eq] at h1
      have h2 := (nI_eq (by have := cam_lt ok hi q; omega) (by omega)).mp h1
      have h3 := ok.plc hi q
      have h4 := (nI_eq (by omega) (by omega)).mp h
      exact ⟨_, q, by rw [h2, h4]⟩
    · rw [if_neg q] at h
      exact absurd h.symm (ne_m2 (by omega))
  · rintro ⟨k, hk, e⟩
    have h3 := ok.plc hi hk
    have e1 : cam W i k = m := by omega
    have q : fsN (W 5 i) (fun k => decide (nI (cam W i k) = nI m)) < W 5 i := fsN_iff.mpr ⟨k, hk, by simp [e1]⟩
    have h1 := fsN_at q
    simp only [decide_eq_true_eq] at h1
    have h2 := (nI_eq (by have := cam_lt ok hi q; omega) (by omega)).mp h1
    have h5 := cam_inj ok hi q hk (by rw [h2, e1])
    rw [if_pos q, h5, show W 6 (8 * i + k) = p by omega]
theorem s_guard {N : Nat} (hN : 3300 < N) (a0 a1 : Int32) {σ : Sx} (h : ReW N σ) : StI (ReW N) rgA σ (F_X9_guard N a0 a1 σ) (F_X10_guard N a0 a1) := by
  obtain ⟨W, G, b, h⟩ := h
  obtain ⟨ok, hc, hm⟩ := h.of3
  have hn := ok.nw
  have p2 : 2 ^ W 0 0 ≤ 32 := Nat.le_trans (Nat.pow_le_pow_right (by decide) hn) (by decide)
  have p1 : 1 ≤ 2 ^ W 0 0 := Nat.pow_pos (by decide)
  have eM : (jshl (1 : Int32) (siI σ 103 1)) - (1 : Int32) = nI (2 ^ W 0 0 - 1) := by
    rw [hm.1, shl1 (by omega)]
    exact pk_sub (b := 1) p1
  rcases in_m (n := 2 ^ W 0 0 - 1) (by omega) a0 σ with ⟨e2, e⟩ | ⟨s, hs, rfl, e2⟩
  · refine ⟨-1, σ, σ, ?_, by rw [F_X10_guard, eM, e2]; rfl, ⟨W, G, b, h⟩, Kp.rf⟩
    rw [F_X9_guard, hc.1, shl1 (by omega)]
    rcases e with e | ⟨q1, q2⟩
    · rw [if_pos e]
    · rw [if_neg q1, if_pos]
      rw [Int32.lt_iff_toInt_lt, nI_toInt (by omega)] at q2
      rw [Int32.le_iff_toInt_le, nI_toInt (by omega)]
      omega
  have hC0 : ∀ (x y : Option (Int32 × Sx)), (if nI s < 0 then x else (if (jshl (1 : Int32) (siI σ 1 0)) ≤ nI s then x else y)) = y := fun x y => by
    rw [if_neg (nI_pos (by omega)), hc.1, shl1 (by omega), if_neg (nI_ge (by omega) (by omega))]
  rcases two_01 a1 σ with ⟨e5, e6⟩ | ⟨h01, e5, e6⟩
  · exact ⟨-1, σ, σ, by rw [F_X9_guard, hC0, e5]; rfl, by rw [F_X10_guard, eM, e2, clx_s, if10, e6]; rfl, ⟨W, G, b, h⟩, Kp.rf⟩
  obtain ⟨σ1, s1, s2, h1, hr, h0⟩ := h.stale0 (by omega)
  obtain ⟨-, hc1, hm1⟩ := h1.of3
  have hlen := hl_1024 (G := G) (T := T0 W) ok
  have hz0 := hr.2.2.2.2.2.1
  have e6' : ∀ σx, F_X10_in a1 (0 : Int32) (1 : Int32) σx = some (1, σx) := fun σx => by
    rcases h01 with rfl | rfl <;> rfl
  have e2' : ∀ {σx : Sx}, mW W σx → F_X10_in (nI s) (0 : Int32) ((jshl (1 : Int32) (siI σx 103 1)) - (1 : Int32)) σx = some (1, σx) := fun hmx => by
    rw [hmx.1, shl1 (by omega), show nI (2 ^ W 0 0) - (1 : Int32) = nI (2 ^ W 0 0 - 1) from pk_sub (b := 1) p1, M_in, if_neg (nI_pos (by omega)), if_neg (nI_nlt hs (by omega))]
  generalize hH : (hlL G W (T0 W)).length = H at *
  generalize hml : (fun k => (mlL G W (T0 W)).getD k 0) = ml
  have hml2 : ∀ k, (mlL G W (T0 W)).getD k 0 = ml k := fun k => by rw [← hml]
  have hday : ∀ k, k < H → isDy W (ml k) := fun k hk => by
    rw [← hml2]
    exact ml_day ok (by rw [hH]; exact hk)
  have hgc : ∀ c, gcN W s ml H c ≤ H := fun c => by
    have := smN_le (n := H) (b := 1) (f := gcF W s c ml) (fun j _ => by unfold gcF; split <;> omega)
    unfold gcN
    omega
  -- the class
  obtain ⟨R, σ2, c1, c2, cR⟩ : ∃ R σ2, F_X5_bestGuard N (nI s) a1 σ1 = some (R, σ2) ∧ Kp rgC σ1 σ2 ∧ ((H = 0 ∧ R = -2) ∨ (H ≠ 0 ∧ R = if a1 = 0 then nI (stG (gcN W s ml H) 3208).2 else nI (decC (stG (gcN W s ml H) 3208).1))) := by
    unfold F_X5_bestGuard
    rw [hz0]
    by_cases hHz : H = 0
    · rw [hHz]
      exact ⟨-2, σ1, rfl, Kp.rf, Or.inl ⟨rfl, rfl⟩⟩
    obtain ⟨σa, f1, f2, f3⟩ := fillI (N := N) (i := 92) (n := 3208) (v := 0) (by decide) (by omega) σ1
    rw [if_neg (nI_ne0 (by omega) (by omega)), f1, clx_s, nmx_s]
    refine ⟨if a1 = 0 then nI (stG (gcN W s ml H) 3208).2 else nI (decC (stG (gcN W s ml H) 3208).1), ?_⟩
    have fin : ∀ o : Option (Int32 × Sx), (∃ σ2, o = some ((if a1 = 0 then nI (stG (gcN W s ml H) 3208).2 else nI (decC (stG (gcN W s ml H) 3208).1)), σ2) ∧ Kp rgC σ1 σ2) → ∃ σ2, o = some ((if a1 = 0 then nI (stG (gcN W s ml H) 3208).2 else nI (decC (stG (gcN W s ml H) 3208).1)), σ2) ∧ Kp rgC σ1 σ2 ∧ ((H = 0 ∧ (if a1 = 0 then nI (stG (gcN W s ml H) 3208).2 else nI (decC (stG (gcN W s ml H) 3208).1)) = -2) ∨ (H ≠ 0 ∧ (if a1 = 0 then nI (stG (gcN W s ml H) 3208).2 else nI (decC (stG (gcN W s ml H) 3208).1)) = if a1 = 0 then nI (stG (gcN W s ml H) 3208).2 else nI (decC (stG (gcN W s ml H) 3208).1))) := fun o ⟨σ2, q1, q2⟩ => ⟨σ2, q1, q2, Or.inr ⟨hHz, rfl⟩⟩
    apply fin
    refine lp1U (Q := fun o => ∃ σ2, o = some ((if a1 = 0 then nI (stG (gcN W s ml H) 3208).2 else nI (decC (stG (gcN W s ml H) 3208).1)), σ2) ∧ Kp rgC σ1 σ2) (4 * W 0 0) (fun i σx => Kp rgC σ1 σx ∧ clI σx (fun c => bst i (gvA W s c))) ?_ (i := 0) (Nat.zero_le _) (by omega) ⟨f2.le (fun i j q => q.1), fun c hc => f3 c hc⟩
    rintro r i σx hi ⟨hkp, hcl⟩
    have hrx : cRd N G W σx := hr.kp hkp (fun i j q => by unfold cwR lcR at q; unfold rgC; omega)
    unfold B_X5_bestGuard_L23
    rw [hrx.1.1, mul4R, ite_le (by omega) (by omega)]
    by_cases hlt : W 0 0 * 4 ≤ i
    · left
      rw [if_pos hlt]
      dsimp only
      rw [nmx_s]
      have ei : i = 4 * W 0 0 := by omega
      subst ei
      refine lp3U (Q := fun o => ∃ σ2, o = some ((if a1 = 0 then nI (stG (gcN W s ml H) 3208).2 else nI (decC (stG (gcN W s ml H) 3208).1)), σ2) ∧ Kp rgC σ1 σ2) 3208 (fun c x y σy => σy = σx ∧ x = nI (stG (gcN W s ml H) c).1 ∧ y = nI (stG (gcN W s ml H) c).2) ?_ (i := 0) (Nat.zero_le _) (by omega) ⟨rfl, rfl, rfl⟩
      rintro r2 c x y σy hc2 ⟨rfl, rfl, rfl⟩
      have hle := stG_le hgc c
      unfold B_X5_bestGuard_L65
      rw [show Int32.ofNat 3208 = nI 3208 from rfl, ite_le (by decide) (by omega)]
      by_cases hlc : 3208 ≤ c
      · left
        rw [if_pos hlc]
        have ec : c = 3208 := by omega
        subst ec
        refine ⟨σy, ?_, hkp⟩
        dsimp only
        rw [div8 (by omega), rem8 (by omega), mul10R, nI_add]
        rcases h01 with rfl | rfl <;> rfl
      right
      have hc3 : c < 3208 := by omega
      refine ⟨hc3, ?_⟩
      have hb20 : bst (4 * W 0 0) (gvA W s c) < 2 ^ 20 := Nat.lt_of_lt_of_le (bst_lt _ _) (Nat.pow_le_pow_right (by decide) (by omega))
      have any : F_X5_daysWithAny N (nI (bst (4 * W 0 0) (gvA W s c))) σy = some (nI (gcN W s ml H c), σy) := by
        unfold F_X5_daysWithAny
        refine lp2A (σ := σy) H (fun k => nI (smN k (gcF W s c ml))) _ ?_ ?_ (i := 0) (Nat.zero_le _) (by omega)
        · intro r3 k hk
          have hx := hl_at (G := G) (W := W) (T := T0 W) (h := k) (by rw [hH]; exact hk)
          have hsz := szN_1024 ok hn
          have eml := (ml_at (G := G) (T := T0 W) ok (h := k) (by rw [hH]; exact hk)).2
          rw [hml2] at eml
          unfold B_X5_daysWithAny_L4
          rw [hrx.2.2.2.2.2.1, hH, if_neg (nI_ge hk (by omega)), aIx_k (show k < 1024 by omega) (by decide), hrx.2.2.2.2.2.2 k (by rw [hH]; exact hk), aIx_k (show _ < 1024 by omega) (by decide), (hrx.2.2.2.2.1.2 _ hx).2, ← eml, nmx_s, andI, nI_add1, nI_add1]
          have hlt2 : wys (W 0 0) (ml k) &&& bst (4 * W 0 0) (gvA W s c) < 2 ^ 20 := Nat.and_lt_two_pow _ hb20
          rw [ite_eq0 (by omega)]
          show _ = r3 (nI (smN k (gcF W s c ml) + gcF W s c ml k)) _ _
          rw [show gcF W s c ml k = if axB W s (ml k) c = true then 1 else 0 from rfl]
          by_cases q : axB W s (ml k) c = true
          · rw [if_pos q, if_neg (fun z => by rw [wys_and.mp z] at q; cases q)]
          · rw [if_neg q, if_pos (wys_and.mpr (by simpa using q))]
            rfl
        · intro r3
          unfold B_X5_daysWithAny_L4
          rw [hrx.2.2.2.2.2.1, hH, if_pos (nI_le (Nat.le_refl _) (by omega))]
          rfl
      have hzero : bst (4 * W 0 0) (gvA W s c) = 0 → gcN W s ml H c = 0 := fun q => by
        unfold gcN
        refine smN_0 (fun j hj => ?_)
        unfold gcF
        have : axB W s (ml j) c = false := wys_and.mp (by rw [q, Nat.and_zero])
        rw [this]
        rfl
      have hclc : siI σy 92 c = nI (bst (4 * W 0 0) (gvA W s c)) := hcl c hc3
      rw [if_neg hlc, aIx_k hc3 (by decide), hclc, nmx_s, ite_eq0 (by omega), nI_add1, aIx_k hc3 (by decide), hclc, any, clx_s, ite_le (by have := hgc c; omega) (by omega)]
      refine ⟨_, _, σy, ⟨rfl, rfl, rfl⟩, ?_⟩
      by_cases q : bst (4 * W 0 0) (gvA W s c) = 0
      · rw [if_pos q]
        have := hzero q
        show _ = r2 (nI (if (stG (gcN W s ml H) c).2 < gcN W s ml H c then (c, gcN W s ml H c) else stG (gcN W s ml H) c).1) (nI (if (stG (gcN W s ml H) c).2 < gcN W s ml H c then (c, gcN W s ml H c) else stG (gcN W s ml H) c).2) _ _
        rw [if_neg (by omega)]
      · rw [if_neg q]
        show _ = r2 (nI (if (stG (gcN W s ml H) c).2 < gcN W s ml H c then (c, gcN W s ml H c) else stG (gcN W s ml H) c).1) (nI (if (stG (gcN W s ml H) c).2 < gcN W s ml H c then (c, gcN W s ml H c) else stG (gcN W s ml H) c).2) _ _
        by_cases q2 : (stG (gcN W s ml H) c).2 < gcN W s ml H c
        · rw [if_pos q2, if_neg (by omega)]
        · rw [if_neg q2, if_pos (by omega)]
    right
    have hi2 : i < 4 * W 0 0 := by omega
    refine ⟨hi2, ?_⟩
    rw [if_neg hlt, nmx_s, div4 (by omega), bitI (by omega) (by omega), ite_eq0 (by omega), nI_add1]
    by_cases q : s / 2 ^ (i / 4) % 2 = 0
    · rw [if_pos q]
      refine ⟨σx, ⟨hkp, fun c hc => ?_⟩, rfl⟩
      rw [hcl c hc]
      show nI (bst i (gvA W s c)) = nI (bst (i + 1) (gvA W s c))
      rw [← bst_s0]
      intro z
      unfold gvA at z
      rw [Bool.and_eq_true] at z
      have := (tb_div s (i / 4)).mpr z.1
      omega
    · obtain ⟨σy, g1, g2, g3⟩ := C_markVisits (N := N) (by omega) ok hrx.1 (show i < 20 by omega) hcl
      rw [if_neg q, g1, clx_s]
      refine ⟨σy, ⟨hkp.tr g2, fun c hc => ?_⟩, rfl⟩
      have ht : s.testBit (i / 4) = true := (tb_div s (i / 4)).mp (by omega)
      rw [g3 c hc]
      show nI (if gvs W i c = true then bst i (gvA W s c) ||| 2 ^ i else bst i (gvA W s c)) = nI (bst (i + 1) (gvA W s c))
      by_cases z : gvs W i c = true
      · rw [if_pos z, bst_s1 (by unfold gvA; rw [ht, z]; rfl)]
      · rw [if_neg z, ← bst_s0 (by unfold gvA; rw [ht]; simpa using z)]
  have h2 : RW N W G b σ2 := h1.kp c2 (fun i j q => by
    unfold rwR cwR mwR lcR lmR ccR dyR at q
    unfold rgC
    omega)
  obtain ⟨σ3, f1, f2, f3, -, f5, f6⟩ := h2.held (by omega)
  have h3 := h2.F f2
  rw [hH] at f5
  refine ⟨R, σ2, σ3, ?_, ?_, ⟨W, G, b, h3⟩, ((rgA_D s2).tr (c2.le (fun i j q => by unfold rgC at q; unfold rgA otR; omega))).tr (rgA_F f2)⟩
  · rw [F_X9_guard, hC0, e5, clx_s, if10, s1, clx_s, c1, clx_s]
  rw [F_X10_guard, e2' h2.2.2.1, clx_s, if10, e6', clx_s, if10, f1, clx_s, f5]
  rcases cR with ⟨hz, rfl⟩ | ⟨hz, hRe⟩
  · rw [hz]
    rfl
  rw [if_neg (nI_ne0 (by omega) (by omega)), nmx_s]
  have many : ∀ p m, p < 8 → m ≤ 400 → F_X10_daysWith N (nI s) (nI p) (nI m) σ3 = some (nI (gcN W s ml H (8 * m + p)), σ3) := fun p m hp hmm => by
    unfold F_X10_daysWith
    refine lp2A (σ := σ3) H (fun k => nI (smN k (gcF W s (8 * m + p) ml))) _ ?_ ?_ (i := 0) (Nat.zero_le _) (by omega)
    · intro r3 k hk
      have hd := hday k hk
      have hd1 := hd.1
      unfold B_X10_daysWith_L6
      rw [f5, if_neg (nI_ge hk (by omega)), nmx_s]
      refine lp2U (Q := fun o => o = r3 (nI (smN (k + 1) (gcF W s (8 * m + p) ml))) (nI (k + 1)) σ3) (W 0 0) (fun u x σy => σy = σ3 ∧ x = b2i (decide (fsN u (axF W s (ml k) (8 * m + p)) < u))) ?_ (i := 0) (Nat.zero_le _) (by omega) ⟨rfl, rfl⟩
      rintro r4 u x σy hu ⟨rfl, rfl⟩
      unfold B_X10_daysWith_L21
      rw [h3.2.2.1.1, ite_le (by omega) (by omega)]
      by_cases hlu : W 0 0 ≤ u
      · left
        rw [if_pos hlu]
        have eu : u = W 0 0 := by omega
        subst eu
        dsimp only
        rw [nmx_s, if_b2i, nI_add1, nI_add1]
        show _ = r3 (nI (smN k (gcF W s (8 * m + p) ml) + gcF W s (8 * m + p) ml k)) _ _
        rw [show gcF W s (8 * m + p) ml k = if axB W s (ml k) (8 * m + p) = true then 1 else 0 from rfl]
        unfold axB
        by_cases q : decide (fsN (W 0 0) (axF W s (ml k) (8 * m + p)) < W 0 0) = true
        · rw [if_pos q, if_pos q]
        · rw [if_neg q, if_neg q]
          rfl
      right
      have hu2 : u < W 0 0 := by omega
      refine ⟨hu2, b2i (decide (fsN (u + 1) (axF W s (ml k) (8 * m + p)) < u + 1)), σy, ⟨rfl, rfl⟩, ?_⟩
      have bits : axF W s (ml k) (8 * m + p) u = true → decide (fsN (u + 1) (axF W s (ml k) (8 * m + p)) < u + 1) = true := fun q => by
        rw [decide_eq_true_eq, fsN_iff]
        exact ⟨u, by omega, q⟩
      have nobit : ¬ axF W s (ml k) (8 * m + p) u = true → decide (fsN (u + 1) (axF W s (ml k) (8 * m + p)) < u + 1) = decide (fsN u (axF W s (ml k) (8 * m + p)) < u) := fun q => by
        apply decide_eq_decide.mpr
        rw [fsN_iff, fsN_iff]
        constructor
        · rintro ⟨j, hj, e⟩
          by_cases e2 : j = u
          · rw [e2] at e
            exact absurd e q
          · exact ⟨j, by omega, e⟩
        · rintro ⟨j, hj, e⟩
          exact ⟨j, by omega, e⟩
      rw [if_neg hlu, nmx_s, bitI (by omega) (by omega), show (1 : Int32) = nI 1 from rfl, ite_eq (by omega) (by decide), nI_add]
      by_cases q : s / 2 ^ u % 2 = 1
      · have ht := (tb_div s u).mp q
        have hg := plA_gv ok (i := 4 * u + dg (ml k) u) (m := m) (p := p) (hd.idx ok hu2) (by omega) hp
        rw [if_pos q, aIx_k (show k < 1024 by omega) (by decide), f6 k (by rw [ml_len ok, hH]; exact hk), hml2, M_wayIn (by omega) (by omega), clx_s, M_placeIn (by omega) ok h3.2.2.1 f3 _ hu2 (hd.way ok hu2), clx_s]
        by_cases z : gvs W (4 * u + dg (ml k) u) (8 * m + p) = true
        · rw [if_pos (hg.mpr z), bits (by unfold axF; rw [ht, z]; rfl)]
          rfl
        · rw [if_neg (fun y => z (hg.mp y)), nobit (by unfold axF; rw [ht]; simpa using z)]
      · have ht : ¬ s.testBit u = true := fun z => q ((tb_div s u).mpr z)
        rw [if_neg q, nobit (by unfold axF; simp [ht])]
    · intro r3
      unfold B_X10_daysWith_L6
      rw [f5, if_pos (nI_le (Nat.le_refl _) (by omega))]
      rfl
  -- the cells, minute by minute
  have stp : ∀ c, stG (gcN W s ml H) (c + 1) = if (stG (gcN W s ml H) c).2 < gcN W s ml H c then (c, gcN W s ml H c) else stG (gcN W s ml H) c := fun _ => rfl
  refine lp3U (Q := fun o => o = some (R, σ3)) 401 (fun m x y σy => σy = σ3 ∧ x = nI (decC (stG (gcN W s ml H) (8 * m)).1) ∧ y = nI (stG (gcN W s ml H) (8 * m)).2) ?_ (i := 0) (Nat.zero_le _) (by omega) ⟨rfl, by rw [show stG (gcN W s ml H) (8 * 0) = (0, 0) from rfl]; rfl, by rw [show stG (gcN W s ml H) (8 * 0) = (0, 0) from rfl]; rfl⟩
  rintro r m x y σy hm2 ⟨rfl, rfl, rfl⟩
  unfold B_X10_guard_L49
  rw [show (400 : Int32) = nI 400 from rfl, ite_lt (by decide) (by omega)]
  by_cases hlm : 400 < m
  · left
    rw [if_pos hlm]
    have em : m = 401 := by omega
    subst em
    rw [hRe]
    dsimp only
    rcases h01 with rfl | rfl <;> rfl
  right
  refine ⟨by omega, ?_⟩
  rw [if_neg hlm, nmx_s, nI_add1]
  refine lp3U (Q := fun o => ∃ x' y' σ', (σ' = σy ∧ x' = nI (decC (stG (gcN W s ml H) (8 * (m + 1))).1) ∧ y' = nI (stG (gcN W s ml H) (8 * (m + 1))).2) ∧ o = r x' y' (nI (m + 1)) σ') 8 (fun p x y σz => σz = σy ∧ x = nI (decC (stG (gcN W s ml H) (8 * m + p)).1) ∧ y = nI (stG (gcN W s ml H) (8 * m + p)).2) ?_ (i := 0) (Nat.zero_le _) (by omega) ⟨rfl, rfl, rfl⟩
  rintro r2 p x y σz hp ⟨rfl, rfl, rfl⟩
  have hle := stG_le hgc (8 * m + p)
  have hgm := hgc (8 * m + p)
  unfold B_X10_guard_L60
  rw [show (8 : Int32) = nI 8 from rfl, ite_le (by decide) (by omega)]
  by_cases hlp : 8 ≤ p
  · left
    rw [if_pos hlp, show 8 * (m + 1) = 8 * m + p by omega]
    exact ⟨_, _, _, ⟨rfl, rfl, rfl⟩, rfl⟩
  right
  refine ⟨by omega, nI (decC (stG (gcN W s ml H) (8 * m + p + 1)).1), nI (stG (gcN W s ml H) (8 * m + p + 1)).2, σz, ⟨rfl, rfl, rfl⟩, ?_⟩
  rw [if_neg hlp, many p m (by omega) (by omega), clx_s, nmx_s, ite_lt (by omega) (by omega), mul10L, nI_add, nI_add1, stp]
  by_cases q : (stG (gcN W s ml H) (8 * m + p)).2 < gcN W s ml H (8 * m + p)
  · rw [if_pos q, if_pos q, nmx_s]
    have : decC (8 * m + p) = 10 * m + p := by unfold decC; omega
    dsimp only
    rw [this]
  · rw [if_neg q, if_neg q]
