/-! WHAT EACH TAKES: numbers -/
theorem lp1G {α : Type} {B : (Int32 → Sx → Option α) → Int32 → Sx → Option α} {Q : Option α → Prop} (n : Nat) (I : Nat → Int32 → Sx → Prop)
    (hB : ∀ (r : Int32 → Sx → Option α) (k : Nat) (x : Int32) (σ : Sx), k ≤ n → I k x σ → Q (B r x σ) ∨ (k < n ∧ ∃ x' σ', I (k + 1) x' σ' ∧ B r x σ = r x' σ'))
    {N : Nat} {x : Int32} {σ : Sx} (hN : n < N) (h : I 0 x σ) : Q (lpx1 B N x σ) := by
  have key : ∀ (d N i : Nat) (x : Int32) (σ : Sx), i + d = n → d < N → I i x σ → Q (lpx1 B N x σ) := by
    intro d
    induction d with
    | zero =>
      intro N i x σ h1 h2 h3
      obtain ⟨N, rfl⟩ : ∃ k, N = k + 1 := ⟨N - 1, by omega⟩
      rw [lpx1_s]
      rcases hB (lpx1 B N) i x σ (by omega) h3 with h | ⟨h, -⟩
      · exact h
      · omega
    | succ d ih =>
      intro N i x σ h1 h2 h3
      obtain ⟨N, rfl⟩ : ∃ k, N = k + 1 := ⟨N - 1, by omega⟩
      rw [lpx1_s]
      rcases hB (lpx1 B N) i x σ (by omega) h3 with h | ⟨h, x', σ', h4, h5⟩
      · exact h
      · rw [h5]
        exact ih N (i + 1) x' σ' (by omega) (by omega) h4
  exact key n N 0 x σ (by omega) hN h
theorem jrem_toInt (x : Int32) {b : Nat} (h0 : 0 < b) (hb : b < 2 ^ 31) : (jrem x (nI b)).toInt = x.toInt.tmod b := by
  have hB : (nI b).toInt = (b : Int) := nI_toInt hb
  have hne : nI b ≠ -1 := ne_m1 hb
  have h1 : (x / nI b).toInt = x.toInt.tdiv b := by rw [Int32.toInt_div_of_ne_right _ _ hne, hB]
  have hx1 := Int32.le_toInt x
  have hx2 := Int32.toInt_lt x
  have hm := Int.tmod_add_tdiv_mul x.toInt b
  have hp : (0 : Int) < b := by omega
  have hl := Int.tmod_lt_of_pos x.toInt hp
  have hg := Int.lt_tmod_of_pos x.toInt hp
  have hs : (0 ≤ x.toInt → 0 ≤ x.toInt.tmod b) ∧ (x.toInt < 0 → x.toInt.tmod b ≤ 0) := by
    refine ⟨fun h => Int.tmod_nonneg _ h, fun h => ?_⟩
    have h2 : 0 ≤ (-x.toInt).tmod b := Int.tmod_nonneg _ (by omega)
    rw [Int.neg_tmod] at h2
    omega
  have hle : (0 ≤ x.toInt → x.toInt.tmod b ≤ x.toInt) ∧ (x.toInt < 0 → x.toInt ≤ x.toInt.tmod b) := by
    refine ⟨fun h => ?_, fun h => ?_⟩
    · have : 0 ≤ x.toInt.tdiv b * b := Int.mul_nonneg (Int.tdiv_nonneg h (by omega)) (by omega)
      omega
    · have h2 : 0 ≤ (-x.toInt).tdiv b * b := Int.mul_nonneg (Int.tdiv_nonneg (by omega) (by omega)) (by omega)
      rw [Int.neg_tdiv, Int.neg_mul] at h2
      omega
  have h2 : (x / nI b * nI b).toInt = x.toInt.tdiv b * b := by
    rw [Int32.toInt_mul, h1, hB]
    refine Int.bmod_eq_of_le ?_ ?_
    · rcases Int.lt_or_le x.toInt 0 with h | h
      · have := hs.2 h
        omega
      · have := hle.1 h
        omega
    · rcases Int.lt_or_le x.toInt 0 with h | h
      · have := hle.2 h
        omega
      · have := hs.1 h
        omega
  unfold jrem
  rw [Int32.toInt_sub, h2, show x.toInt - x.toInt.tdiv b * b = x.toInt.tmod b by omega]
  refine Int.bmod_eq_of_le ?_ ?_ <;> omega
/-- the remainder from 0 on -/
def tkI (x : Int32) (b : Nat) : Nat := (x.toInt % (b : Int)).toNat
theorem tkI_lt (x : Int32) {b : Nat} (h : 0 < b) : tkI x b < b := by
  unfold tkI
  have h1 := Int.emod_nonneg x.toInt (show (b : Int) ≠ 0 by omega)
  have h2 := Int.emod_lt_of_pos x.toInt (show (0 : Int) < b by omega)
  omega
theorem tk_cases (x : Int32) {b : Nat} (h0 : 0 < b) (hb : b < 2 ^ 30) : (¬ x < 0 ∧ jrem x (nI b) = nI (tkI x b)) ∨ (x < 0 ∧ jrem x (nI b) = 0 ∧ tkI x b = 0) ∨ (x < 0 ∧ jrem x (nI b) < 0 ∧ jrem x (nI b) + nI b = nI (tkI x b)) := by
  have h := jrem_toInt x h0 (show b < 2 ^ 31 by omega)
  have hp : (0 : Int) < b := by omega
  have hl := Int.tmod_lt_of_pos x.toInt hp
  have hg := Int.lt_tmod_of_pos x.toInt hp
  have e0 := Int.emod_nonneg x.toInt (show (b : Int) ≠ 0 by omega)
  have e1 := Int.emod_lt_of_pos x.toInt hp
  have z0 : (0 : Int32).toInt = 0 := rfl
  by_cases hx : x < 0
  · right
    have hx2 : x.toInt < 0 := by
      rw [Int32.lt_iff_toInt_lt] at hx
      exact hx
    have hd : x.toInt.tmod b = x.toInt % b ∨ x.toInt.tmod b = x.toInt % b - b := by
      rw [Int.tmod_eq_emod]
      by_cases q : 0 ≤ x.toInt ∨ (b : Int) ∣ x.toInt
      · rw [if_pos q]
        left
        omega
      · rw [if_neg q]
        right
        simp
    have hn : x.toInt.tmod b ≤ 0 := by
      have h2 : 0 ≤ (-x.toInt).tmod b := Int.tmod_nonneg _ (by omega)
      rw [Int.neg_tmod] at h2
      omega
    by_cases hz : x.toInt.tmod b = 0
    · left
      have : jrem x (nI b) = 0 := Int32.toInt_inj.mp (by rw [h, hz]; rfl)
      refine ⟨hx, this, ?_⟩
      unfold tkI
      omega
    · right
      refine ⟨hx, by rw [Int32.lt_iff_toInt_lt, h, z0]; omega, ?_⟩
      apply Int32.toInt_inj.mp
      have ht := tkI_lt x h0
      rw [Int32.toInt_add, h, nI_toInt (by omega), nI_toInt (by omega)]
      have : x.toInt.tmod b + b = (tkI x b : Int) := by
        unfold tkI
        omega
      rw [this]
      exact Int.bmod_eq_of_le (by omega) (by omega)
  · left
    have hx2 : 0 ≤ x.toInt := by
      have := Int32.not_lt.mp hx
      rw [Int32.le_iff_toInt_le] at this
      exact this
    refine ⟨hx, ?_⟩
    apply Int32.toInt_inj.mp
    have ht := tkI_lt x h0
    rw [h, nI_toInt (by omega), Int.tmod_eq_emod_of_nonneg hx2]
    unfold tkI
    omega
theorem C_floorMod {σ : Sx} (x : Int32) {b : Nat} (h0 : 0 < b) (hb : b < 2 ^ 30) : F_J9_floorMod_7cf53 x (nI b) σ = some (nI (tkI x b), σ) := by
  have hne : ¬ nI b = 0 := nI_ne0 h0 (by omega)
  have hxor : (0 ≤ (x ^^^ nI b)) ↔ ¬ x < 0 := by
    have e1 : (x ^^^ nI b).toInt < 0 ↔ (x ^^^ nI b).toBitVec.msb = true := by
      rw [← Int32.toInt_toBitVec, BitVec.msb_eq_toInt]
      simp
    have e2 : x.toInt < 0 ↔ x.toBitVec.msb = true := by
      rw [← Int32.toInt_toBitVec, BitVec.msb_eq_toInt]
      simp
    have e3 : (nI b).toBitVec.msb = false := by
      have : ¬ (nI b).toInt < 0 := by
        rw [nI_toInt (by omega)]
        omega
      rw [← Int32.toInt_toBitVec] at this
      rw [BitVec.msb_eq_toInt]
      simpa using this
    rw [Int32.le_iff_toInt_le, Int32.lt_iff_toInt_lt]
    have z0 : (0 : Int32).toInt = 0 := rfl
    rw [z0]
    have e4 : (x ^^^ nI b).toBitVec.msb = x.toBitVec.msb := by
      rw [Int32.toBitVec_xor, BitVec.msb_xor, e3, Bool.xor_false]
    rw [e4] at e1
    constructor
    · intro q1 q2
      have := e1.mpr (e2.mp q2)
      omega
    · intro q
      rcases Int.lt_or_le (x ^^^ nI b).toInt 0 with z | z
      · exact absurd (e2.mpr (e1.mp z)) q
      · exact z
  unfold F_J9_floorMod_7cf53
  rw [gdx_s hne, nmx_s]
  rcases tk_cases x h0 hb with ⟨h1, h2⟩ | ⟨h1, h2, h3⟩ | ⟨h1, h2, h3⟩
  · rw [if_pos (hxor.mpr h1), h2]
  · rw [if_neg (fun q => (hxor.mp q) h1), if_pos h2, h2, h3]
    rfl
  · rw [if_neg (fun q => (hxor.mp q) h1), if_neg (fun q => by rw [q] at h2; exact absurd h2 (by decide)), h3]
theorem M_remainder {σ : Sx} (x : Int32) {b : Nat} (h0 : 0 < b) (hb : b < 2 ^ 30) : F_X10_remainder x (nI b) σ = some (nI (tkI x b), σ) := by
  have hne : ¬ nI b = 0 := nI_ne0 h0 (by omega)
  have ht := tkI_lt x h0
  unfold F_X10_remainder
  rw [gdx_s hne, nmx_s]
  rcases tk_cases x h0 hb with ⟨h1, h2⟩ | ⟨h1, h2, h3⟩ | ⟨h1, h2, h3⟩
  · rw [h2, if_pos (nI_pos' (by omega))]
  · rw [h2, h3]
    rfl
  · rw [if_neg (Int32.not_le.mpr h2), h3]
/-- bits in a set of walkers -/
def pcN (s : Nat) : Nat := s % 2 + s / 2 % 2 + s / 4 % 2 + s / 8 % 2 + s / 16 % 2
theorem pc_tab : ∀ s, s < 32 → ((nI s = 0) ↔ s = 0) ∧ (s ≠ 0 → ∃ t, t < s ∧ nI s &&& (nI s - (1 : Int32)) = nI t ∧ pcN s = pcN t + 1) ∧ pcN s ≤ 5 := by
  intro s hs
  have key : ∀ s, s < 32 → (s ≠ 0 → (s &&& (s - 1)) < s ∧ nI s &&& (nI s - (1 : Int32)) = nI (s &&& (s - 1)) ∧ pcN s = pcN (s &&& (s - 1)) + 1) ∧ pcN s ≤ 5 := by decide +kernel
  refine ⟨⟨fun h => (nI_eq (by omega) (by decide)).mp h, fun h => by rw [h]; rfl⟩, fun h => ⟨_, (key s hs).1 h⟩, (key s hs).2⟩
theorem M_bitsOf {σ : Sx} {N s : Nat} (hN : 32 < N) (hs : s < 32) : F_X10_bitsOf N (nI s) σ = some (nI (pcN s), σ) := by
  have key : ∀ (n s c N : Nat), s ≤ n → s < 32 → n < N → lpx2 (B_X10_bitsOf_L4 N) N (nI c) (nI s) σ = lpx2 (B_X10_bitsOf_L4 N) N (nI c) (nI s) σ := fun _ _ _ _ _ _ _ => rfl
  have main : ∀ (n s c M : Nat), s ≤ n → s < 32 → n < M → lpx2 (B_X10_bitsOf_L4 N) M (nI c) (nI s) σ = some (nI (c + pcN s), σ) := by
    intro n
    induction n with
    | zero =>
      intro s c M h1 h2 h3
      obtain ⟨M, rfl⟩ : ∃ k, M = k + 1 := ⟨M - 1, by omega⟩
      have : s = 0 := by omega
      subst this
      rw [lpx2_s, B_X10_bitsOf_L4, if_pos (show nI 0 = (0 : Int32) from rfl)]
      rfl
    | succ n ih =>
      intro s c M h1 h2 h3
      obtain ⟨M, rfl⟩ : ∃ k, M = k + 1 := ⟨M - 1, by omega⟩
      rw [lpx2_s, B_X10_bitsOf_L4]
      by_cases h0 : s = 0
      · subst h0
        rw [if_pos (show nI 0 = (0 : Int32) from rfl)]
        rfl
      · obtain ⟨t, ht, e1, e2⟩ := (pc_tab s h2).2.1 h0
        rw [if_neg (fun q => h0 ((pc_tab s h2).1.mp q)), nmx_s, e1, nI_add1]
        rw [ih t (c + 1) M (by omega) (by omega) (by omega), e2, Nat.add_assoc, Nat.add_comm 1]
  unfold F_X10_bitsOf
  have := main s s 0 N (Nat.le_refl _) hs (by omega)
  rw [Nat.zero_add] at this
  exact this
/-! sights: T w i, whether w sees the tracks of a way i -/
def sgt (n : Nat) (T : Nat → Nat → Bool) (d w : Nat) : Nat := bst n (fun u => T w (4 * u + dg d u))
abbrev Gt : Type := Nat → Nat → Nat → Nat → Nat → Int32
def tkw (G : Gt) (W : Wd) (w s : Nat) : Nat := tkI (G s w (W 1 w) (W 4 w) (W 2 w)) (W 4 w)
def tks (G : Gt) (W : Wd) (T : Nat → Nat → Bool) (d w : Nat) : Nat := tkw G W w (sgt (W 0 0) T d w)
theorem tkw_lt {G : Gt} {W : Wd} (ok : okW W) {w s : Nat} (hw : w < W 0 0) : tkw G W w s < W 4 w := tkI_lt _ (ok.2.1 w hw).2.2.2.1
theorem sgt_lt {W : Wd} (ok : okW W) (T : Nat → Nat → Bool) (d w : Nat) : sgt (W 0 0) T d w < 2 ^ W 0 0 ∧ sgt (W 0 0) T d w < 32 := by
  have h1 : sgt (W 0 0) T d w < 2 ^ W 0 0 := bst_lt _ _
  have h2 : 2 ^ W 0 0 ≤ 2 ^ 5 := Nat.pow_le_pow_right (by decide) ok.nw
  exact ⟨h1, Nat.lt_of_lt_of_le h1 h2⟩
def hldF (G : Gt) (W : Wd) (T : Nat → Nat → Bool) (d w : Nat) : Bool := decide (¬ tks G W T d w = dg d w)
def hldB (G : Gt) (W : Wd) (T : Nat → Nat → Bool) (d : Nat) : Bool := decide (¬ fsN (W 0 0) (hldF G W T d) < W 0 0)
theorem hldB_iff {G : Gt} {W : Wd} {T : Nat → Nat → Bool} {d : Nat} : hldB G W T d = true ↔ ∀ w, w < W 0 0 → tks G W T d w = dg d w := by
  unfold hldB hldF
  rw [decide_eq_true_eq, fsN_iff]
  constructor
  · intro h w hw
    rcases Decidable.em (tks G W T d w = dg d w) with q | q
    · exact q
    · exact absurd ⟨w, hw, by simpa using q⟩ h
  · rintro h ⟨w, hw, q⟩
    simp only [decide_eq_true_eq] at q
    exact q (h w hw)
def cstF (G : Gt) (W : Wd) (T : Nat → Nat → Bool) (d w : Nat) : Nat := if tks G W T d w = dg d w then 0 else W 3 w
def cst (G : Gt) (W : Wd) (T : Nat → Nat → Bool) (d : Nat) : Nat := smN (W 0 0) (cstF G W T d)
theorem cst_le {G : Gt} {W : Wd} (ok : okW W) {T : Nat → Nat → Bool} {d : Nat} : cst G W T d ≤ 495 := by
  have h : smN (W 0 0) (cstF G W T d) ≤ W 0 0 * 99 := smN_le (fun j hj => by
    have := (ok.2.1 j hj).2.2.1
    unfold cstF
    split <;> omega)
  have := ok.nw
  unfold cst
  omega
/-- the day after, by the first n walkers -/
def nxN (G : Gt) (W : Wd) (T : Nat → Nat → Bool) (d : Nat) : Nat → Nat
  | 0 => 0
  | n + 1 => nxN G W T d n + tks G W T d n * 4 ^ n
theorem nxN_lt {G : Gt} {W : Wd} (ok : okW W) {T : Nat → Nat → Bool} {d : Nat} : ∀ n, n ≤ W 0 0 → nxN G W T d n < 4 ^ n := by
  intro n
  induction n with
  | zero => intro _; exact Nat.one_pos
  | succ n ih =>
    intro h
    have h1 := ih (by omega)
    have h2 := tkw_lt (G := G) (s := sgt (W 0 0) T d n) ok (show n < W 0 0 by omega)
    have h4 := ok.ways n
    have h3 : tks G W T d n * 4 ^ n ≤ 3 * 4 ^ n := Nat.mul_le_mul_right _ (by unfold tks; omega)
    rw [nxN, Nat.pow_succ]
    omega
theorem nxN_dg {G : Gt} {W : Wd} (ok : okW W) {T : Nat → Nat → Bool} {d : Nat} : ∀ n, n ≤ W 0 0 → ∀ u, u < n → dg (nxN G W T d n) u = tks G W T d u := by
  intro n
  induction n with
  | zero => intro _ u hu; omega
  | succ n ih =>
    intro h u hu
    have h2 := tkw_lt (G := G) (s := sgt (W 0 0) T d n) ok (show n < W 0 0 by omega)
    have h4 := ok.ways n
    rw [nxN, dg_add (nxN_lt ok n (by omega)) (by unfold tks; omega)]
    by_cases e : u < n
    · rw [if_pos e]
      exact ih (by omega) u e
    · rw [if_neg e, if_pos (by omega), show u = n by omega]
def nxt (G : Gt) (W : Wd) (T : Nat → Nat → Bool) (d : Nat) : Nat := nxN G W T d (W 0 0)
theorem nxt_day {G : Gt} {W : Wd} (ok : okW W) {T : Nat → Nat → Bool} {d : Nat} : isDy W (nxt G W T d) := by
  have hn := ok.nw
  have h1 := nxN_lt (G := G) (T := T) (d := d) ok (W 0 0) (Nat.le_refl _)
  refine ⟨Nat.lt_of_lt_of_le h1 (Nat.le_trans (Nat.pow_le_pow_right (by decide) hn) (by decide)), fun u hu => ?_⟩
  rcases Nat.lt_or_ge u (W 0 0) with h | h
  · right
    unfold nxt
    rw [nxN_dg ok _ (Nat.le_refl _) u h]
    exact tkw_lt ok h
  · exact Or.inl (dg_big h1 h)
theorem nx_or {G : Gt} {W : Wd} (ok : okW W) {T : Nat → Nat → Bool} {d n : Nat} (hn : n < W 0 0) : nI (nxN G W T d n) ||| jshl (nI (tks G W T d n)) ((2 : Int32) * nI n) = nI (nxN G W T d (n + 1)) := by
  have h5 := ok.nw
  have h2 := tkw_lt (G := G) (s := sgt (W 0 0) T d n) ok hn
  have h4 := ok.ways n
  have p45 : 4 ^ n ≤ 256 := Nat.le_trans (Nat.pow_le_pow_right (by decide) (show n ≤ 4 by omega)) (by decide)
  have v4 : tks G W T d n * 4 ^ n < 1024 := Nat.lt_of_le_of_lt (Nat.mul_le_mul (show tks G W T d n ≤ 3 by unfold tks; omega) p45) (by decide)
  rw [mul2L, shlI (by omega) (by rw [p4]; omega), orI, p4, nxN]
  congr 1
  rw [Nat.mul_comm, ← p4, Nat.or_comm, ← Nat.two_pow_add_eq_or_of_lt (by rw [p4]; exact nxN_lt ok n (by omega)), Nat.add_comm]
