/-! TOOLS: loops, bits, small numbers -/
theorem lp1U {α : Type} {B : (Int32 → Sx → Option α) → Int32 → Sx → Option α} {Q : Option α → Prop} (n : Nat) (I : Nat → Sx → Prop)
    (hB : ∀ (r : Int32 → Sx → Option α) (k : Nat) (σ : Sx), k ≤ n → I k σ → Q (B r (nI k) σ) ∨ (k < n ∧ ∃ σ', I (k + 1) σ' ∧ B r (nI k) σ = r (nI (k + 1)) σ'))
    {N i : Nat} {σ : Sx} (hi : i ≤ n) (hN : n - i < N) (h : I i σ) : Q (lpx1 B N (nI i) σ) := by
  have key : ∀ (d N i : Nat) (σ : Sx), i + d = n → d < N → I i σ → Q (lpx1 B N (nI i) σ) := by
    intro d
    induction d with
    | zero =>
      intro N i σ h1 h2 h3
      obtain ⟨N, rfl⟩ : ∃ k, N = k + 1 := ⟨N - 1, by omega⟩
      rw [lpx1_s]
      rcases hB (lpx1 B N) i σ (by omega) h3 with h | ⟨h, -⟩
      · exact h
      · omega
    | succ d ih =>
      intro N i σ h1 h2 h3
      obtain ⟨N, rfl⟩ : ∃ k, N = k + 1 := ⟨N - 1, by omega⟩
      rw [lpx1_s]
      rcases hB (lpx1 B N) i σ (by omega) h3 with h | ⟨h, σ', h4, h5⟩
      · exact h
      · rw [h5]
        exact ih N (i + 1) σ' (by omega) (by omega) h4
  exact key (n - i) N i σ (by omega) hN h
/-- the counter behind, one more number ahead of it -/
theorem lp2U {α : Type} {B : (Int32 → Int32 → Sx → Option α) → Int32 → Int32 → Sx → Option α} {Q : Option α → Prop} (n : Nat) (I : Nat → Int32 → Sx → Prop)
    (hB : ∀ (r : Int32 → Int32 → Sx → Option α) (k : Nat) (x : Int32) (σ : Sx), k ≤ n → I k x σ → Q (B r x (nI k) σ) ∨ (k < n ∧ ∃ x' σ', I (k + 1) x' σ' ∧ B r x (nI k) σ = r x' (nI (k + 1)) σ'))
    {N i : Nat} {x : Int32} {σ : Sx} (hi : i ≤ n) (hN : n - i < N) (h : I i x σ) : Q (lpx2 B N x (nI i) σ) := by
  have key : ∀ (d N i : Nat) (x : Int32) (σ : Sx), i + d = n → d < N → I i x σ → Q (lpx2 B N x (nI i) σ) := by
    intro d
    induction d with
    | zero =>
      intro N i x σ h1 h2 h3
      obtain ⟨N, rfl⟩ : ∃ k, N = k + 1 := ⟨N - 1, by omega⟩
      rw [lpx2_s]
      rcases hB (lpx2 B N) i x σ (by omega) h3 with h | ⟨h, -⟩
      · exact h
      · omega
    | succ d ih =>
      intro N i x σ h1 h2 h3
      obtain ⟨N, rfl⟩ : ∃ k, N = k + 1 := ⟨N - 1, by omega⟩
      rw [lpx2_s]
      rcases hB (lpx2 B N) i x σ (by omega) h3 with h | ⟨h, x', σ', h4, h5⟩
      · exact h
      · rw [h5]
        exact ih N (i + 1) x' σ' (by omega) (by omega) h4
  exact key (n - i) N i x σ (by omega) hN h
/-- the counter behind, two more numbers ahead of it -/
theorem lp3U {α : Type} {B : (Int32 → Int32 → Int32 → Sx → Option α) → Int32 → Int32 → Int32 → Sx → Option α} {Q : Option α → Prop} (n : Nat) (I : Nat → Int32 → Int32 → Sx → Prop)
    (hB : ∀ (r : Int32 → Int32 → Int32 → Sx → Option α) (k : Nat) (x y : Int32) (σ : Sx), k ≤ n → I k x y σ → Q (B r x y (nI k) σ) ∨ (k < n ∧ ∃ x' y' σ', I (k + 1) x' y' σ' ∧ B r x y (nI k) σ = r x' y' (nI (k + 1)) σ'))
    {N i : Nat} {x y : Int32} {σ : Sx} (hi : i ≤ n) (hN : n - i < N) (h : I i x y σ) : Q (lpx3 B N x y (nI i) σ) := by
  have key : ∀ (d N i : Nat) (x y : Int32) (σ : Sx), i + d = n → d < N → I i x y σ → Q (lpx3 B N x y (nI i) σ) := by
    intro d
    induction d with
    | zero =>
      intro N i x y σ h1 h2 h3
      obtain ⟨N, rfl⟩ : ∃ k, N = k + 1 := ⟨N - 1, by omega⟩
      rw [lpx3_s]
      rcases hB (lpx3 B N) i x y σ (by omega) h3 with h | ⟨h, -⟩
      · exact h
      · omega
    | succ d ih =>
      intro N i x y σ h1 h2 h3
      obtain ⟨N, rfl⟩ : ∃ k, N = k + 1 := ⟨N - 1, by omega⟩
      rw [lpx3_s]
      rcases hB (lpx3 B N) i x y σ (by omega) h3 with h | ⟨h, x', y', σ', h4, h5⟩
      · exact h
      · rw [h5]
        exact ih N (i + 1) x' y' σ' (by omega) (by omega) h4
  exact key (n - i) N i x y σ (by omega) hN h
theorem lpx4_s {α : Type} (B : (Int32 → Int32 → Int32 → Int32 → Sx → Option α) → Int32 → Int32 → Int32 → Int32 → Sx → Option α) (n : Nat) (x y z w : Int32) (σ : Sx) : lpx4 B (n + 1) x y z w σ = B (lpx4 B n) x y z w σ := rfl
theorem lpx0_s {α : Type} (B : (Sx → Option α) → Sx → Option α) (n : Nat) (σ : Sx) : lpx0 B (n + 1) σ = B (lpx0 B n) σ := rfl
/-- the first place where f is, from k on, of d -/
def fsF (f : Nat → Bool) : Nat → Nat → Nat
  | 0, k => k
  | d + 1, k => if f k = true then k else fsF f d (k + 1)
def fsN (n : Nat) (f : Nat → Bool) : Nat := fsF f n 0
theorem fsF_spec (f : Nat → Bool) : ∀ d k, k ≤ fsF f d k ∧ fsF f d k ≤ k + d ∧ (∀ j, k ≤ j → j < fsF f d k → f j = false) ∧ (fsF f d k < k + d → f (fsF f d k) = true) := by
  intro d
  induction d with
  | zero => exact fun k => ⟨Nat.le_refl _, Nat.le_refl _, fun j h1 h2 => absurd h2 (by show ¬ j < k; omega), fun h => absurd h (by show ¬ k < k + 0; omega)⟩
  | succ d ih =>
    intro k
    unfold fsF
    by_cases h : f k = true
    · rw [if_pos h]
      exact ⟨by omega, by omega, fun j h1 h2 => by omega, fun _ => h⟩
    · rw [if_neg h]
      obtain ⟨h1, h2, h3, h4⟩ := ih (k + 1)
      refine ⟨by omega, by omega, fun j j1 j2 => ?_, fun j => h4 (by omega)⟩
      by_cases e : j = k
      · subst e
        simpa using h
      · exact h3 j (by omega) j2
theorem fsN_le (n : Nat) (f : Nat → Bool) : fsN n f ≤ n := by
  have := (fsF_spec f n 0).2.1
  unfold fsN
  omega
theorem fsN_lt {n : Nat} {f : Nat → Bool} {j : Nat} (h : j < fsN n f) : f j = false := (fsF_spec f n 0).2.2.1 j (Nat.zero_le _) h
theorem fsN_at {n : Nat} {f : Nat → Bool} (h : fsN n f < n) : f (fsN n f) = true := (fsF_spec f n 0).2.2.2 (by unfold fsN at h; omega)
theorem fsN_eq {n k : Nat} {f : Nat → Bool} (hk : k < n) (h : f k = true) (hl : ∀ j, j < k → f j = false) : fsN n f = k := by
  rcases Nat.lt_trichotomy (fsN n f) k with h1 | h1 | h1
  · have := fsN_at (n := n) (f := f) (by omega)
    rw [hl _ h1] at this
    cases this
  · exact h1
  · rw [fsN_lt h1] at h
    cases h
theorem fsN_no {n : Nat} {f : Nat → Bool} (hl : ∀ j, j < n → f j = false) : fsN n f = n := by
  rcases Nat.lt_or_ge (fsN n f) n with h1 | h1
  · have := fsN_at h1
    rw [hl _ h1] at this
    cases this
  · exact Nat.le_antisymm (fsN_le _ _) h1
theorem fsN_congr {n : Nat} {f g : Nat → Bool} (h : ∀ j, j < n → f j = g j) : fsN n f = fsN n g := by
  rcases Nat.lt_or_ge (fsN n g) n with h1 | h1
  · exact fsN_eq h1 (by rw [h _ h1]; exact fsN_at h1) (fun j hj => by rw [h j (by omega)]; exact fsN_lt hj)
  · have : fsN n g = n := Nat.le_antisymm (fsN_le _ _) h1
    rw [this]
    exact fsN_no (fun j hj => by rw [h j hj]; exact fsN_lt (n := n) (by omega))
theorem fsN_iff {n : Nat} {f : Nat → Bool} : fsN n f < n ↔ ∃ k, k < n ∧ f k = true := by
  constructor
  · exact fun h => ⟨_, h, fsN_at h⟩
  · rintro ⟨k, hk, hf⟩
    rcases Nat.lt_or_ge (fsN n f) n with h1 | h1
    · exact h1
    · rw [fsN_lt (show k < fsN n f by omega)] at hf
      cases hf
/-- a loop that ends where f is first, and else at n -/
theorem lp1F {α : Type} {B : (Int32 → Sx → Option α) → Int32 → Sx → Option α} {σ : Sx} (n : Nat) (f : Nat → Bool) (H : Nat → Option α) (E : Option α)
    (hB : ∀ (r : Int32 → Sx → Option α) (k : Nat), k < n → B r (nI k) σ = if f k = true then H k else r (nI (k + 1)) σ) (hE : ∀ r : Int32 → Sx → Option α, B r (nI n) σ = E)
    {N : Nat} (hN : n < N) : lpx1 B N (nI 0) σ = if fsN n f < n then H (fsN n f) else E := by
  refine lp1U (Q := fun o => o = if fsN n f < n then H (fsN n f) else E) n (fun k σ' => σ' = σ ∧ ∀ j, j < k → f j = false) ?_ (Nat.zero_le _) (by omega) ⟨rfl, fun j h => absurd h (Nat.not_lt_zero _)⟩
  rintro r k σ' hk ⟨rfl, hl⟩
  rcases Nat.lt_or_ge k n with h | h
  · rw [hB r k h]
    by_cases hf : f k = true
    · left
      rw [if_pos hf, fsN_eq h hf hl, if_pos h]
    · right
      refine ⟨h, σ', ⟨rfl, fun j hj => ?_⟩, by rw [if_neg hf]⟩
      by_cases e : j = k
      · subst e
        simpa using hf
      · exact hl j (by omega)
  · left
    have : k = n := by omega
    subst this
    rw [hE, fsN_no hl, if_neg (Nat.lt_irrefl _)]
/-- a loop that reckons A n, the counter behind -/
theorem lp2A {α : Type} {B : (Int32 → Int32 → Sx → Option α) → Int32 → Int32 → Sx → Option α} {σ : Sx} (n : Nat) (A : Nat → Int32) (E : Option α)
    (hB : ∀ (r : Int32 → Int32 → Sx → Option α) (k : Nat), k < n → B r (A k) (nI k) σ = r (A (k + 1)) (nI (k + 1)) σ) (hE : ∀ r : Int32 → Int32 → Sx → Option α, B r (A n) (nI n) σ = E)
    {N : Nat} {i : Nat} (hi : i ≤ n) (hN : n - i < N) : lpx2 B N (A i) (nI i) σ = E := by
  refine lp2U (Q := fun o => o = E) n (fun k x σ' => σ' = σ ∧ x = A k) ?_ hi hN ⟨rfl, rfl⟩
  rintro r k x σ' hk ⟨rfl, rfl⟩
  rcases Nat.lt_or_ge k n with h | h
  · exact Or.inr ⟨h, _, _, ⟨rfl, rfl⟩, hB r k h⟩
  · have : k = n := by omega
    subst this
    exact Or.inl (hE r)
/-- the counter ahead -/
theorem lp2C {α : Type} {B : (Int32 → Int32 → Sx → Option α) → Int32 → Int32 → Sx → Option α} {Q : Option α → Prop} (n : Nat) (I : Nat → Int32 → Sx → Prop)
    (hB : ∀ (r : Int32 → Int32 → Sx → Option α) (k : Nat) (x : Int32) (σ : Sx), k ≤ n → I k x σ → Q (B r (nI k) x σ) ∨ (k < n ∧ ∃ x' σ', I (k + 1) x' σ' ∧ B r (nI k) x σ = r (nI (k + 1)) x' σ'))
    {N i : Nat} {x : Int32} {σ : Sx} (hi : i ≤ n) (hN : n - i < N) (h : I i x σ) : Q (lpx2 B N (nI i) x σ) := by
  have key : ∀ (d N i : Nat) (x : Int32) (σ : Sx), i + d = n → d < N → I i x σ → Q (lpx2 B N (nI i) x σ) := by
    intro d
    induction d with
    | zero =>
      intro N i x σ h1 h2 h3
      obtain ⟨N, rfl⟩ : ∃ k, N = k + 1 := ⟨N - 1, by omega⟩
      rw [lpx2_s]
      rcases hB (lpx2 B N) i x σ (by omega) h3 with h | ⟨h, -⟩
      · exact h
      · omega
    | succ d ih =>
      intro N i x σ h1 h2 h3
      obtain ⟨N, rfl⟩ : ∃ k, N = k + 1 := ⟨N - 1, by omega⟩
      rw [lpx2_s]
      rcases hB (lpx2 B N) i x σ (by omega) h3 with h | ⟨h, x', σ', h4, h5⟩
      · exact h
      · rw [h5]
        exact ih N (i + 1) x' σ' (by omega) (by omega) h4
  exact key (n - i) N i x σ (by omega) hN h
/-- bits below n where f is -/
def bst : Nat → (Nat → Bool) → Nat
  | 0, _ => 0
  | n + 1, f => bst n f + if f n = true then 2 ^ n else 0
theorem bst_lt (n : Nat) (f : Nat → Bool) : bst n f < 2 ^ n := by
  induction n with
  | zero => exact Nat.one_pos
  | succ n ih =>
    unfold bst
    rw [Nat.pow_succ]
    split <;> omega
theorem tb_add {x n : Nat} (h : x < 2 ^ n) (i : Nat) : (x + 2 ^ n).testBit i = (x.testBit i || decide (i = n)) := by
  rw [Nat.add_comm]
  have e := Nat.two_pow_add_eq_or_of_lt h 1
  rw [Nat.mul_one] at e
  rw [e, Nat.testBit_or, Nat.testBit_two_pow, Bool.or_comm]
  congr 1
  simp [eq_comm]
theorem bst_tb (n : Nat) (f : Nat → Bool) (i : Nat) : (bst n f).testBit i = (decide (i < n) && f i) := by
  induction n with
  | zero => simp [bst]
  | succ n ih =>
    unfold bst
    by_cases h : f n = true
    · rw [if_pos h, tb_add (bst_lt n f), ih]
      by_cases e : i = n
      · subst e
        simp [h]
      · have : (decide (i < n + 1)) = decide (i < n) := by
          apply decide_eq_decide.mpr
          omega
        simp [e, this]
    · rw [if_neg h, Nat.add_zero, ih]
      by_cases e : i = n
      · subst e
        simp at h
        simp [h]
      · have : (decide (i < n + 1)) = decide (i < n) := by
          apply decide_eq_decide.mpr
          omega
        rw [this]
theorem bst_congr {n : Nat} {f g : Nat → Bool} (h : ∀ j, j < n → f j = g j) : bst n f = bst n g := by
  induction n with
  | zero => rfl
  | succ n ih => rw [bst, bst, ih (fun j hj => h j (by omega)), h n (by omega)]
theorem bst_eq {n x : Nat} (hx : x < 2 ^ n) : bst n (fun i => x.testBit i) = x := by
  apply Nat.eq_of_testBit_eq
  intro i
  rw [bst_tb]
  by_cases h : i < n
  · simp [h]
  · simp [h, Nat.testBit_lt_two_pow (Nat.lt_of_lt_of_le hx (Nat.pow_le_pow_right (by decide) (Nat.le_of_not_lt h)))]
theorem bst_or1 (n : Nat) (f : Nat → Bool) : bst n f ||| 2 ^ n = bst n f + 2 ^ n := by
  have e := Nat.two_pow_add_eq_or_of_lt (bst_lt n f) 1
  rw [Nat.mul_one] at e
  rw [Nat.add_comm, e, Nat.or_comm]
theorem bst_s1 {n : Nat} {f : Nat → Bool} (h : f n = true) : bst n f ||| 2 ^ n = bst (n + 1) f := by
  rw [bst_or1, bst, if_pos h]
theorem bst_s0 {n : Nat} {f : Nat → Bool} (h : ¬ f n = true) : bst n f = bst (n + 1) f := by
  rw [bst, if_neg h, Nat.add_zero]
theorem orI (a b : Nat) : nI a ||| nI b = nI (a ||| b) := by
  apply Int32.toBitVec_inj.mp
  show BitVec.ofNat 32 a ||| BitVec.ofNat 32 b = BitVec.ofNat 32 (a ||| b)
  rw [BitVec.ofNat_or]
theorem andI (a b : Nat) : nI a &&& nI b = nI (a &&& b) := by
  apply Int32.toBitVec_inj.mp
  show BitVec.ofNat 32 a &&& BitVec.ofNat 32 b = BitVec.ofNat 32 (a &&& b)
  rw [BitVec.ofNat_and]
theorem sh_k : ∀ k, k < 32 → ((nI k &&& 31).toBitVec.smod 32).toNat = k := by decide +kernel
theorem shlI {a k : Nat} (hk : k < 32) (h : a * 2 ^ k < 2 ^ 32) : jshl (nI a) (nI k) = nI (a * 2 ^ k) := by
  unfold jshl
  exact pk_shlN _ k (sh_k k hk) h
theorem shl1 {k : Nat} (hk : k < 32) : jshl (1 : Int32) (nI k) = nI (2 ^ k) := by
  have := shlI (a := 1) hk (by rw [Nat.one_mul]; exact Nat.pow_lt_pow_right (by decide) hk)
  rw [Nat.one_mul] at this
  exact this
theorem shrI {a k : Nat} (hk : k < 32) (h : a < 2 ^ 31) : jshr (nI a) (nI k) = nI (a / 2 ^ k) := by
  unfold jshr
  exact pk_shrN h _ k (sh_k k hk)
theorem remI {a d : Nat} (ha : a < 2 ^ 31) (h0 : 0 < d) (hd : d < 2 ^ 31) : jrem (nI a) (nI d) = nI (a % d) := pk_rem ha h0 hd
/-- sums -/
def smN : Nat → (Nat → Nat) → Nat
  | 0, _ => 0
  | n + 1, f => smN n f + f n
theorem smN_congr {n : Nat} {f g : Nat → Nat} (h : ∀ j, j < n → f j = g j) : smN n f = smN n g := by
  induction n with
  | zero => rfl
  | succ n ih => rw [smN, smN, ih (fun j hj => h j (by omega)), h n (by omega)]
theorem smN_add (n : Nat) (f g : Nat → Nat) : smN n (fun j => f j + g j) = smN n f + smN n g := by
  induction n with
  | zero => rfl
  | succ n ih => rw [smN, smN, smN, ih]; omega
theorem smN_zero (n : Nat) : smN n (fun _ => 0) = 0 := by
  induction n with
  | zero => rfl
  | succ n ih => rw [smN, ih]
theorem smN_swap (n m : Nat) (f : Nat → Nat → Nat) : smN n (fun i => smN m (fun j => f i j)) = smN m (fun j => smN n (fun i => f i j)) := by
  induction n with
  | zero => exact (smN_zero m).symm
  | succ n ih => rw [smN, ih, ← smN_add]; rfl
theorem smN_le {n b : Nat} {f : Nat → Nat} (h : ∀ j, j < n → f j ≤ b) : smN n f ≤ n * b := by
  induction n with
  | zero => exact Nat.zero_le _
  | succ n ih =>
    rw [smN, Nat.succ_mul]
    have := ih (fun j hj => h j (by omega))
    have := h n (by omega)
    omega
theorem i32_0 : (0 : Int32) = nI 0 := rfl
theorem i32_1 : (1 : Int32) = nI 1 := rfl
theorem i32_2 : (2 : Int32) = nI 2 := rfl
theorem i32_3 : (3 : Int32) = nI 3 := rfl
theorem i32_4 : (4 : Int32) = nI 4 := rfl
theorem i32_5 : (5 : Int32) = nI 5 := rfl
theorem i32_8 : (8 : Int32) = nI 8 := rfl
theorem i32_10 : (10 : Int32) = nI 10 := rfl
theorem i32_20 : (20 : Int32) = nI 20 := rfl
theorem i32_32 : (32 : Int32) = nI 32 := rfl
theorem i32_40 : (40 : Int32) = nI 40 := rfl
theorem i32_60 : (60 : Int32) = nI 60 := rfl
theorem i32_61 : (61 : Int32) = nI 61 := rfl
theorem i32_120 : (120 : Int32) = nI 120 := rfl
theorem i32_130 : (130 : Int32) = nI 130 := rfl
theorem i32_1000 : (1000 : Int32) = nI 1000 := rfl
theorem i32_1024 : (1024 : Int32) = nI 1024 := rfl
theorem ifI {α : Type} {P Q : Prop} [Decidable P] [Decidable Q] (h : P ↔ Q) (x y : α) : (if P then x else y) = if Q then x else y := by
  by_cases p : P
  · rw [if_pos p, if_pos (h.mp p)]
  · rw [if_neg p, if_neg (fun q => p (h.mpr q))]
theorem ite_le {α : Type} {a b : Nat} (ha : a < 2 ^ 31) (hb : b < 2 ^ 31) (x y : α) : (if nI a ≤ nI b then x else y) = if a ≤ b then x else y := ifI (nI_leI ha hb) x y
theorem ite_lt {α : Type} {a b : Nat} (ha : a < 2 ^ 31) (hb : b < 2 ^ 31) (x y : α) : (if nI a < nI b then x else y) = if a < b then x else y := ifI (nI_ltI ha hb) x y
theorem ite_eq {α : Type} {a b : Nat} (ha : a < 2 ^ 31) (hb : b < 2 ^ 31) (x y : α) : (if nI a = nI b then x else y) = if a = b then x else y := ifI (nI_eq ha hb) x y
theorem ne_m1 {a : Nat} (h : a < 2 ^ 31) : ¬ nI a = (-1 : Int32) := fun e => nI_pos h (by rw [e]; decide)
theorem ne_m2 {a : Nat} (h : a < 2 ^ 31) : ¬ nI a = (-2 : Int32) := fun e => nI_pos h (by rw [e]; decide)
theorem le_of_nlt {a b : Int32} (h : ¬ a < b) : b ≤ a := Int32.not_lt.mp h
theorem lt_of_nle {a b : Int32} (h : ¬ a ≤ b) : b < a := Int32.not_le.mp h
