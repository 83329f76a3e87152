/-! THE WORLD by numbers: W 0 0 walkers; of a walker W 1 lead, W 2 start, W 3 fall, W 4 ways; of a way (4 w + v) W 5 places, W 6 (8 i + k) the place; W 7 (8 p + q) minutes -/
theorem div4 {a : Nat} (h : a < 2 ^ 31) : nI a / (4 : Int32) = nI (a / 4) := pk_div (d := 4) h (by decide) (by decide)
theorem div8 {a : Nat} (h : a < 2 ^ 31) : nI a / (8 : Int32) = nI (a / 8) := pk_div (d := 8) h (by decide) (by decide)
theorem div10 {a : Nat} (h : a < 2 ^ 31) : nI a / (10 : Int32) = nI (a / 10) := pk_div (d := 10) h (by decide) (by decide)
theorem div1000 {a : Nat} (h : a < 2 ^ 31) : nI a / (1000 : Int32) = nI (a / 1000) := pk_div (d := 1000) h (by decide) (by decide)
theorem rem10 {a : Nat} (h : a < 2 ^ 31) : jrem (nI a) (10 : Int32) = nI (a % 10) := remI (d := 10) h (by decide) (by decide)
theorem rem8 {a : Nat} (h : a < 2 ^ 31) : jrem (nI a) (8 : Int32) = nI (a % 8) := remI (d := 8) h (by decide) (by decide)
theorem rem3 {a : Nat} (h : a < 2 ^ 31) : jrem (nI a) (3 : Int32) = nI (a % 3) := remI (d := 3) h (by decide) (by decide)
theorem rem61 {a : Nat} (h : a < 2 ^ 31) : jrem (nI a) (61 : Int32) = nI (a % 61) := remI (d := 61) h (by decide) (by decide)
theorem rem1000 {a : Nat} (h : a < 2 ^ 31) : jrem (nI a) (1000 : Int32) = nI (a % 1000) := remI (d := 1000) h (by decide) (by decide)
theorem mul2L (a : Nat) : (2 : Int32) * nI a = nI (2 * a) := pk_mul 2 a
theorem mul4L (a : Nat) : (4 : Int32) * nI a = nI (4 * a) := pk_mul 4 a
theorem mul8L (a : Nat) : (8 : Int32) * nI a = nI (8 * a) := pk_mul 8 a
theorem mul10L (a : Nat) : (10 : Int32) * nI a = nI (10 * a) := pk_mul 10 a
theorem mul20L (a : Nat) : (20 : Int32) * nI a = nI (20 * a) := pk_mul 20 a
theorem mul32L (a : Nat) : (32 : Int32) * nI a = nI (32 * a) := pk_mul 32 a
theorem mul60L (a : Nat) : (60 : Int32) * nI a = nI (60 * a) := pk_mul 60 a
theorem mul4R (a : Nat) : nI a * (4 : Int32) = nI (a * 4) := pk_mul a 4
theorem mul8R (a : Nat) : nI a * (8 : Int32) = nI (a * 8) := pk_mul a 8
theorem mul10R (a : Nat) : nI a * (10 : Int32) = nI (a * 10) := pk_mul a 10
theorem mul32R (a : Nat) : nI a * (32 : Int32) = nI (a * 32) := pk_mul a 32
theorem aRx3_0 {α : Type} (K : Nat → Option α) : aRx 3 (0 : Int32) K = K 0 := aRx_k (k := 0) (by decide) (by decide)
theorem aRx3_1 {α : Type} (K : Nat → Option α) : aRx 3 (1 : Int32) K = K 1 := aRx_k (k := 1) (by decide) (by decide)
theorem aRx3_2 {α : Type} (K : Nat → Option α) : aRx 3 (2 : Int32) K = K 2 := aRx_k (k := 2) (by decide) (by decide)
theorem sub_lt1 {a b : Nat} (ha : a < 2 ^ 30) (hb : b < 2 ^ 30) (h : a ≤ b) : nI a - nI b < (1 : Int32) := by
  rw [Int32.lt_iff_toInt_lt, pk_sub_toInt ha hb]
  have : (1 : Int32).toInt = 1 := rfl
  omega
abbrev Wd : Type := Nat → Nat → Nat
def btw (W : Wd) (p q : Nat) : Nat := if p = q then 1 else W 7 (8 * p + q)
def cam (W : Wd) (i : Nat) : Nat → Nat
  | 0 => W 2 (i / 4)
  | k + 1 => cam W i k + btw W (W 6 (8 * i + k)) (W 6 (8 * i + (k + 1)))
def okW (W : Wd) : Prop :=
  W 0 0 ≤ 5 ∧ (∀ w, w < W 0 0 → W 1 w ≤ 60 ∧ W 2 w ≤ 200 ∧ W 3 w ≤ 99 ∧ 1 ≤ W 4 w ∧ W 4 w ≤ 4) ∧ (∀ w, W 0 0 ≤ w → W 4 w = 0) ∧
  (∀ i, i < 20 → (i % 4 < W 4 (i / 4) → 1 ≤ W 5 i ∧ W 5 i ≤ 8) ∧ (¬ i % 4 < W 4 (i / 4) → W 5 i = 0)) ∧
  (∀ i, i < 20 → ∀ k, k < W 5 i → W 6 (8 * i + k) < 8) ∧ ∀ p q, p < 8 → q < 8 → p ≠ q → 1 ≤ W 7 (8 * p + q) ∧ W 7 (8 * p + q) ≤ 30
def cW (W : Wd) (σ : Sx) : Prop :=
  siI σ 1 0 = nI (W 0 0) ∧ (∀ w, w < W 0 0 → siI σ 23 w = nI (W 1 w) ∧ siI σ 24 w = nI (W 2 w) ∧ siI σ 25 w = nI (W 3 w)) ∧ (∀ w, w < 5 → siI σ 35 w = nI (W 4 w)) ∧
  (∀ i, i < 20 → siI σ 36 i = nI (W 5 i)) ∧ (∀ i, i < 20 → ∀ k, k < W 5 i → siI σ (38 + i) k = nI (W 6 (8 * i + k)) ∧ siI σ (59 + i) k = nI (cam W i k)) ∧
  ∀ p q, p < 8 → q < 8 → p ≠ q → siI σ (27 + p) q = nI (W 7 (8 * p + q))
def mW (W : Wd) (σ : Sx) : Prop :=
  siI σ 103 1 = nI (W 0 0) ∧ (∀ w, w < W 0 0 → siI σ 104 w = nI (W 1 w) ∧ siI σ 105 w = nI (W 2 w) ∧ siI σ 106 w = nI (W 3 w) ∧ siI σ 107 w = nI (W 4 w)) ∧
  (∀ i, i < 20 → i % 4 < W 4 (i / 4) → siI σ 108 i = nI (W 5 i)) ∧ (∀ i, i < 20 → ∀ k, k < W 5 i → siI σ 109 (8 * i + k) = nI (W 6 (8 * i + k))) ∧
  ∀ p q, p < 8 → q < 8 → p ≠ q → siI σ 110 (8 * p + q) = nI (W 7 (8 * p + q))
/-- the minutes are found -/
def mC (W : Wd) (σ : Sx) : Prop := ∀ i, i < 20 → ∀ k, k < W 5 i → siI σ 123 (8 * i + k) = nI (cam W i k)
theorem okW.nw {W : Wd} (h : okW W) : W 0 0 ≤ 5 := h.1
theorem okW.ways {W : Wd} (h : okW W) (w : Nat) : W 4 w ≤ 4 := by
  rcases Nat.lt_or_ge w (W 0 0) with h1 | h1
  · exact (h.2.1 w h1).2.2.2.2
  · rw [h.2.2.1 w h1]
    decide
theorem okW.len {W : Wd} (h : okW W) {i : Nat} (hi : i < 20) : W 5 i ≤ 8 := by
  by_cases h1 : i % 4 < W 4 (i / 4)
  · exact ((h.2.2.2.1 i hi).1 h1).2
  · rw [(h.2.2.2.1 i hi).2 h1]
    decide
theorem okW.own {W : Wd} (h : okW W) {i k : Nat} (hi : i < 20) (hk : k < W 5 i) : i % 4 < W 4 (i / 4) ∧ i / 4 < W 0 0 := by
  have h1 : i % 4 < W 4 (i / 4) := by
    rcases Nat.lt_or_ge (i % 4) (W 4 (i / 4)) with h1 | h1
    · exact h1
    · rw [(h.2.2.2.1 i hi).2 (by omega)] at hk
      omega
  refine ⟨h1, ?_⟩
  rcases Nat.lt_or_ge (i / 4) (W 0 0) with h2 | h2
  · exact h2
  · rw [h.2.2.1 _ h2] at h1
    omega
theorem okW.plc {W : Wd} (h : okW W) {i k : Nat} (hi : i < 20) (hk : k < W 5 i) : W 6 (8 * i + k) < 8 := h.2.2.2.2.1 i hi k hk
theorem btw_le {W : Wd} (h : okW W) {p q : Nat} (hp : p < 8) (hq : q < 8) : 1 ≤ btw W p q ∧ btw W p q ≤ 30 := by
  unfold btw
  by_cases e : p = q
  · rw [if_pos e]
    omega
  · rw [if_neg e]
    exact h.2.2.2.2.2 p q hp hq e
theorem cam_le {W : Wd} (h : okW W) {i : Nat} (hi : i < 20) : ∀ k, k < W 5 i → cam W i k ≤ 200 + 30 * k := by
  intro k
  induction k with
  | zero =>
    intro hk
    have h1 := (h.own hi hk).2
    have := (h.2.1 _ h1).2.1
    unfold cam
    omega
  | succ k ih =>
    intro hk
    have h1 := ih (by omega)
    have h2 := (btw_le h (h.plc hi (show k < W 5 i by omega)) (h.plc hi hk)).2
    unfold cam
    omega
theorem cam_lt {W : Wd} (h : okW W) {i k : Nat} (hi : i < 20) (hk : k < W 5 i) : cam W i k < 2 ^ 30 := by
  have h1 := cam_le h hi k hk
  have h2 := h.len hi
  omega
theorem cam_mono {W : Wd} (h : okW W) {i : Nat} (hi : i < 20) : ∀ k j, j < k → k < W 5 i → cam W i j < cam W i k := by
  intro k
  induction k with
  | zero => intro j hj; omega
  | succ k ih =>
    intro j hj hk
    have h2 := (btw_le h (h.plc hi (show k < W 5 i by omega)) (h.plc hi hk)).1
    have e : cam W i (k + 1) = cam W i k + btw W (W 6 (8 * i + k)) (W 6 (8 * i + (k + 1))) := rfl
    rcases Nat.lt_or_ge j k with h3 | h3
    · have := ih j h3 (by omega)
      omega
    · have : j = k := by omega
      subst this
      omega
theorem cam_inj {W : Wd} (h : okW W) {i j k : Nat} (hi : i < 20) (hj : j < W 5 i) (hk : k < W 5 i) (e : cam W i j = cam W i k) : j = k := by
  rcases Nat.lt_trichotomy j k with h1 | h1 | h1
  · have := cam_mono h hi k j h1 hk
    omega
  · exact h1
  · have := cam_mono h hi j k h1 hj
    omega
/-- tracks of a way i in the place p in minute m -/
def trkF (W : Wd) (i p m k : Nat) : Bool := decide (W 6 (8 * i + k) = p ∧ m < cam W i k ∧ cam W i k ≤ m + W 1 (i / 4))
def trk (W : Wd) (i p m : Nat) : Bool := decide (fsN (W 5 i) (trkF W i p m) < W 5 i)
def b2i (b : Bool) : Int32 := if b = true then 1 else 0
theorem b2i_t : b2i true = 1 := rfl
theorem b2i_f : b2i false = 0 := rfl
theorem b2i_d (P : Prop) [Decidable P] (σ : Sx) : (if P then some ((1 : Int32), σ) else some ((0 : Int32), σ)) = some (b2i (decide P), σ) := by
  by_cases h : P <;> simp [h, b2i]
theorem C_lead0 {σ : Sx} {w : Nat} (h : w < 5) : F_X8_lead (nI w) σ = some (siI σ 23 w, σ) := by
  unfold F_X8_lead
  rw [aRx3_0, aIx_k h (by decide)]
theorem C_start0 {σ : Sx} {w : Nat} (h : w < 5) : F_X8_start (nI w) σ = some (siI σ 24 w, σ) := by
  unfold F_X8_start
  rw [aRx3_1, aIx_k h (by decide)]
theorem C_lead {W : Wd} {σ : Sx} (ok : okW W) (h : cW W σ) {w : Nat} (hw : w < W 0 0) : F_X8_lead (nI w) σ = some (nI (W 1 w), σ) := by
  have := ok.nw
  rw [C_lead0 (by omega), (h.2.1 w hw).1]
theorem C_start {W : Wd} {σ : Sx} (ok : okW W) (h : cW W σ) {w : Nat} (hw : w < W 0 0) : F_X8_start (nI w) σ = some (nI (W 2 w), σ) := by
  have := ok.nw
  rw [C_start0 (by omega), (h.2.1 w hw).2.1]
theorem C_leaves {W : Wd} {σ : Sx} {N : Nat} (hN : 8 < N) (ok : okW W) (h : cW W σ) {i p m : Nat} (hi : i < 20) (hp : p < 2 ^ 30) (hm : m < 2 ^ 30) : F_X8_leavesTracks N (nI i) (nI p) (nI m) σ = some (b2i (trk W i p m), σ) := by
  have hl := ok.len hi
  unfold F_X8_leavesTracks
  rw [div4 (by omega), C_lead0 (by omega), clx_s]
  rw [show lpx1 (B_X8_leavesTracks_L12 N (nI i) (nI p) (nI m) (siI σ 23 (i / 4))) N (0 : Int32) σ = _ from lp1F (σ := σ) (W 5 i) (trkF W i p m) (fun _ => some ((1 : Int32), σ)) (some ((0 : Int32), σ)) ?_ ?_ (by omega)]
  · rw [b2i_d]
    rfl
  · intro r k hk
    have hown := ok.own hi hk
    have hc := cam_lt ok hi hk
    have hpl := ok.plc hi hk
    have hld := (ok.2.1 _ hown.2).1
    unfold B_X8_leavesTracks_L12
    rw [aIx_k hi (by decide), h.2.2.2.1 i hi, if_neg (nI_ge hk (by omega)), aRx_k hi (by decide), aIx_k (show k < 8 by omega) (by decide), (h.2.2.2.2.1 i hi k hk).2, nmx_s, aRx_k hi (by decide), aIx_k (show k < 8 by omega) (by decide), (h.2.2.2.2.1 i hi k hk).1, nmx_s, (h.2.1 _ hown.2).1, nI_add1]
    rw [ite_eq (by omega) (by omega)]
    unfold trkF
    by_cases e1 : W 6 (8 * i + k) = p
    · rw [if_pos e1]
      by_cases e2 : m < cam W i k
      · rw [pk_sub (by omega), i32_1, if_neg (nI_nlt (show 1 ≤ cam W i k - m by omega) (by omega)), ite_lt (by omega) (by omega)]
        by_cases e3 : cam W i k ≤ m + W 1 (i / 4)
        · rw [if_neg (by omega), if_pos (by simp [e1, e2, e3])]
        · rw [if_pos (by omega), if_neg (by simp [e1, e2, e3])]
      · rw [if_pos (sub_lt1 hc hm (by omega)), if_neg (by simp [e2])]
    · rw [if_neg e1, if_neg (by simp [e1])]
  · intro r
    unfold B_X8_leavesTracks_L12
    rw [aIx_k hi (by decide), h.2.2.2.1 i hi, if_pos (nI_le (Nat.le_refl _) (by omega))]
theorem if_b2i {α : Type} (b : Bool) (x y : α) : (if b2i b = 0 then x else y) = if b = true then y else x := by
  cases b
  · rw [b2i_f, if_pos rfl, if_neg (by decide)]
  · rw [b2i_t, if_neg (by decide), if_pos rfl]
/-- a loop that sets the bits k where f is -/
theorem C_tracks {W : Wd} {σ : Sx} {N : Nat} (hN : 20 < N) (ok : okW W) (h : cW W σ) {p m : Nat} (hp : p < 2 ^ 30) (hm : m < 2 ^ 30) : F_X8_tracks N (nI p) (nI m) σ = some (nI (bst (4 * W 0 0) (fun i => trk W i p m)), σ) := by
  have hn := ok.nw
  unfold F_X8_tracks
  refine lp2A (σ := σ) (4 * W 0 0) (fun k => nI (bst k (fun i => trk W i p m))) _ ?_ ?_ (Nat.zero_le _) (by omega)
  · intro r k hk
    unfold B_X8_tracks_L5
    rw [h.1, mul4R, if_neg (nI_ge (by omega) (by omega)), C_leaves (by omega) ok h (by omega) hp hm, clx_s, nmx_s, if_b2i, nI_add1, shl1 (by omega), nmx_s, orI]
    by_cases e : trk W k p m = true
    · rw [if_pos e, bst_s1 (f := fun i => trk W i p m) e]
    · rw [if_neg e, bst_s0 (f := fun i => trk W i p m) e]
  · intro r
    unfold B_X8_tracks_L5
    rw [h.1, mul4R, if_pos (nI_le (by omega) (by omega))]
/-- whose ways these are -/
def wko (x : Nat) : Nat := bst 5 (fun u => x.testBit (4 * u) || x.testBit (4 * u + 1) || x.testBit (4 * u + 2) || x.testBit (4 * u + 3))
theorem C_walkersOf {σ : Sx} {x : Nat} (hx : x < 2 ^ 20) : F_X8_walkersOf (nI x) σ = some (nI (wko x), σ) := by
  have h31 : ∀ {y : Nat}, y < 2 ^ 20 → y < 2 ^ 31 := fun h => by omega
  have hd : ∀ k, x / 2 ^ k < 2 ^ 20 := fun k => Nat.lt_of_le_of_lt (Nat.div_le_self _ _) hx
  unfold F_X8_walkersOf
  rw [show (1 : Int32) = nI (2 ^ 0) from rfl, show (2 : Int32) = nI (2 ^ 1) from rfl, show (3 : Int32) = nI 3 from rfl, show (4 : Int32) = nI (2 ^ 2) from rfl, show (8 : Int32) = nI (2 ^ 3) from rfl, show (6 : Int32) = nI 6 from rfl, show (9 : Int32) = nI 9 from rfl, show (12 : Int32) = nI 12 from rfl, show (16 : Int32) = nI (2 ^ 4) from rfl]
  rw [shrI (by decide) (h31 hx), orI, nmx_s]
  have h1 : x ||| x / 2 ^ 2 ^ 0 < 2 ^ 20 := Nat.or_lt_two_pow hx (hd _)
  rw [shrI (by decide) (h31 h1), orI, nmx_s]
  have h2 : (x ||| x / 2 ^ 2 ^ 0) ||| (x ||| x / 2 ^ 2 ^ 0) / 2 ^ 2 ^ 1 < 2 ^ 20 := Nat.or_lt_two_pow h1 (Nat.lt_of_le_of_lt (Nat.div_le_self _ _) h1)
  rw [shrI (by decide) (h31 h2), shrI (by decide) (h31 h2), shrI (by decide) (h31 h2), shrI (by decide) (h31 h2)]
  rw [andI, andI, andI, andI, andI, orI, orI, orI, orI]
  refine congrArg (fun z => some (nI z, σ)) ?_
  apply Nat.eq_of_testBit_eq
  intro i
  unfold wko
  rw [bst_tb]
  simp only [Nat.testBit_or, Nat.testBit_and, Nat.testBit_div_two_pow, Nat.testBit_two_pow]
  match i with
  | 0 => simp [Bool.or_assoc]
  | 1 => simp [Bool.or_assoc]
  | 2 => simp [Bool.or_assoc]
  | 3 => simp [Bool.or_assoc]
  | 4 => simp [Bool.or_assoc]
  | i + 5 => simp [show ¬ i + 5 < 5 by omega]
/-- the way that a walker u takes on a day d -/
def dg (d u : Nat) : Nat := d / 2 ^ (2 * u) % 4
theorem dg_lt (d u : Nat) : dg d u < 4 := Nat.mod_lt _ (by decide)
theorem choiceI {d u : Nat} (hd : d < 2 ^ 31) (hu : u < 5) : (jshr (nI d) ((2 : Int32) * nI u)) &&& (3 : Int32) = nI (dg d u) := by
  rw [mul2L, shrI (by omega) hd]
  have h1 : d / 2 ^ (2 * u) ≤ d := Nat.div_le_self _ _
  exact pk_andN (by omega) 2 rfl
theorem C_choice {σ : Sx} {d u : Nat} (hd : d < 2 ^ 31) (hu : u < 5) : F_X8_choice (nI d) (nI u) σ = some (nI (dg d u), σ) := by
  unfold F_X8_choice
  rw [choiceI hd hu]
theorem M_wayIn {σ : Sx} {d u : Nat} (hd : d < 2 ^ 31) (hu : u < 5) : F_X10_wayIn (nI d) (nI u) σ = some (nI (dg d u), σ) := by
  unfold F_X10_wayIn
  rw [choiceI hd hu]
theorem C_wayIndex {σ : Sx} (u v : Nat) : F_X8_wayIndex (nI u) (nI v) σ = some (nI (4 * u + v), σ) := by
  unfold F_X8_wayIndex
  rw [mul4R, nI_add, Nat.mul_comm]
theorem C_wayOn {σ : Sx} {d u : Nat} (hd : d < 2 ^ 31) (hu : u < 5) : F_X8_wayOn (nI d) (nI u) σ = some (nI (4 * u + dg d u), σ) := by
  unfold F_X8_wayOn
  rw [C_choice hd hu, clx_s, C_wayIndex, clx_s]
/-- the ways that are taken on a day -/
def wys (n d : Nat) : Nat := bst (4 * n) (fun i => decide (i % 4 = dg d (i / 4)))
theorem wys_lt {n d : Nat} (h : n ≤ 5) : wys n d < 2 ^ 20 := Nat.lt_of_lt_of_le (bst_lt _ _) (Nat.pow_le_pow_right (by decide) (by omega))
theorem wys_s (n d : Nat) : wys n d ||| 2 ^ (4 * n + dg d n) = wys (n + 1) d := by
  have hv := dg_lt d n
  apply Nat.eq_of_testBit_eq
  intro i
  unfold wys
  rw [Nat.testBit_or, bst_tb, bst_tb, Nat.testBit_two_pow]
  by_cases h1 : i < 4 * n
  · have : ¬ 4 * n + dg d n = i := by omega
    simp [h1, this, show i < 4 * (n + 1) by omega]
  · by_cases h2 : i < 4 * (n + 1)
    · have e : i / 4 = n := by omega
      have : (i % 4 = dg d n) ↔ (4 * n + dg d n = i) := by omega
      simp [h1, h2, e, this]
    · have : ¬ 4 * n + dg d n = i := by omega
      simp [h1, h2, this]
theorem C_waysOn {W : Wd} {σ : Sx} {N : Nat} (hN : 5 < N) (ok : okW W) (h : cW W σ) {d : Nat} (hd : d < 2 ^ 31) : F_X8_waysOn N (nI d) σ = some (nI (wys (W 0 0) d), σ) := by
  have hn := ok.nw
  unfold F_X8_waysOn
  refine lp2A (σ := σ) (W 0 0) (fun k => nI (wys k d)) _ ?_ ?_ (Nat.zero_le _) (by omega)
  · intro r k hk
    have := dg_lt d k
    unfold B_X8_waysOn_L4
    rw [h.1, if_neg (nI_ge hk (by omega)), C_wayOn hd (by omega), clx_s, shl1 (by omega), nmx_s, orI, wys_s, nI_add1]
  · intro r
    unfold B_X8_waysOn_L4
    rw [h.1, if_pos (nI_le (Nat.le_refl _) (by omega))]
/-- whose of the ways f are taken -/
theorem wko_wys {n d : Nat} (hn : n ≤ 5) (f : Nat → Bool) {m : Nat} (hm : 4 * n ≤ m) : wko (bst m f &&& wys n d) = bst n (fun u => f (4 * u + dg d u)) := by
  apply Nat.eq_of_testBit_eq
  intro u
  unfold wko wys
  rw [bst_tb, bst_tb]
  simp only [Nat.testBit_and, bst_tb]
  by_cases hu : u < n
  · have hv := dg_lt d u
    have e0 : (4 * u) / 4 = u := by omega
    have e1 : (4 * u + 1) / 4 = u := by omega
    have e2 : (4 * u + 2) / 4 = u := by omega
    have e3 : (4 * u + 3) / 4 = u := by omega
    have f0 : (4 * u) % 4 = 0 := by omega
    have f1 : (4 * u + 1) % 4 = 1 := by omega
    have f2 : (4 * u + 2) % 4 = 2 := by omega
    have f3 : (4 * u + 3) % 4 = 3 := by omega
    simp only [e0, e1, e2, e3, f0, f1, f2, f3, hu, show u < 5 by omega, show 4 * u < m by omega, show 4 * u + 1 < m by omega, show 4 * u + 2 < m by omega, show 4 * u + 3 < m by omega, show 4 * u < 4 * n by omega, show 4 * u + 1 < 4 * n by omega, show 4 * u + 2 < 4 * n by omega, show 4 * u + 3 < 4 * n by omega, decide_true, Bool.true_and]
    rcases (show dg d u = 0 ∨ dg d u = 1 ∨ dg d u = 2 ∨ dg d u = 3 by omega) with e | e | e | e <;> simp [e]
  · have g0 : ¬ 4 * u < 4 * n := by omega
    have g1 : ¬ 4 * u + 1 < 4 * n := by omega
    have g2 : ¬ 4 * u + 2 < 4 * n := by omega
    have g3 : ¬ 4 * u + 3 < 4 * n := by omega
    simp [hu, g1, g2, g3]
theorem and_lt {n m d : Nat} (hn : n ≤ 5) (f : Nat → Bool) : bst m f &&& wys n d < 2 ^ 20 := Nat.and_lt_two_pow _ (wys_lt hn)
/-- the place in which a way is in a minute -/
def plA (W : Wd) (i : Nat) (a : Int32) : Int32 := if fsN (W 5 i) (fun k => decide (nI (cam W i k) = a)) < W 5 i then nI (W 6 (8 * i + fsN (W 5 i) (fun k => decide (nI (cam W i k) = a)))) else -2
theorem C_placeAt {W : Wd} {σ : Sx} {N : Nat} (hN : 8 < N) (ok : okW W) (h : cW W σ) {i : Nat} (a : Int32) (hi : i < 20) : F_X8_placeAt N (nI i) a σ = some (plA W i a, σ) := by
  have hl := ok.len hi
  unfold F_X8_placeAt
  rw [nmx_s]
  rw [show lpx1 (B_X8_placeAt_L2 N (nI i) a (fun x1 σ1 => aRx 20 (nI i) (fun k11 => aIx (38 + k11) 8 x1 σ1 (fun v1 => some (v1, σ1))))) N (0 : Int32) σ = _ from lp1F (σ := σ) (W 5 i) (fun k => decide (nI (cam W i k) = a)) (fun k => some (nI (W 6 (8 * i + k)), σ)) (some ((-2 : Int32), σ)) ?_ ?_ (by omega)]
  · unfold plA
    split <;> rfl
  · intro r k hk
    unfold B_X8_placeAt_L2
    rw [aIx_k hi (by decide), h.2.2.2.1 i hi, if_neg (nI_ge hk (by omega)), aRx_k hi (by decide), aIx_k (show k < 8 by omega) (by decide), (h.2.2.2.2.1 i hi k hk).2, nI_add1]
    dsimp only
    rw [aRx_k hi (by decide), aIx_k (show k < 8 by omega) (by decide), (h.2.2.2.2.1 i hi k hk).1]
    by_cases e : nI (cam W i k) = a
    · rw [if_pos e, if_pos (by simpa using e)]
    · rw [if_neg e, if_neg (by simpa using e)]
  · intro r
    unfold B_X8_placeAt_L2
    rw [aIx_k hi (by decide), h.2.2.2.1 i hi, if_pos (nI_le (Nat.le_refl _) (by omega))]
def gbF (W : Wd) (i p k : Nat) : Bool := decide (W 6 (8 * i + k) = p)
def gby (W : Wd) (i p : Nat) : Bool := decide (fsN (W 5 i) (gbF W i p) < W 5 i)
theorem C_goesBy {W : Wd} {σ : Sx} {N : Nat} (hN : 8 < N) (ok : okW W) (h : cW W σ) {i p : Nat} (hi : i < 20) (hp : p < 2 ^ 30) : F_X8_goesBy N (nI i) (nI p) σ = some (b2i (gby W i p), σ) := by
  have hl := ok.len hi
  unfold F_X8_goesBy
  rw [show lpx1 (B_X8_goesBy_L2 N (nI i) (nI p)) N (0 : Int32) σ = _ from lp1F (σ := σ) (W 5 i) (gbF W i p) (fun _ => some ((1 : Int32), σ)) (some ((0 : Int32), σ)) ?_ ?_ (by omega)]
  · rw [b2i_d]
    rfl
  · intro r k hk
    have := ok.plc hi hk
    unfold B_X8_goesBy_L2
    rw [aIx_k hi (by decide), h.2.2.2.1 i hi, if_neg (nI_ge hk (by omega)), aRx_k hi (by decide), aIx_k (show k < 8 by omega) (by decide), (h.2.2.2.2.1 i hi k hk).1, ite_eq (by omega) (by omega), nI_add1]
    unfold gbF
    by_cases e : W 6 (8 * i + k) = p
    · rw [if_pos e, if_pos (by simpa using e)]
    · rw [if_neg e, if_neg (by simpa using e)]
  · intro r
    unfold B_X8_goesBy_L2
    rw [aIx_k hi (by decide), h.2.2.2.1 i hi, if_pos (nI_le (Nat.le_refl _) (by omega))]
