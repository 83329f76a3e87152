/-! DEEDS OF BODIES, both ways -/
def trT (q Q : Nat) : List Int32 := if q = 2 then 30 :: 10 :: ldT Q else if q = 3 ∨ q = 5 then 41 :: 30 :: 10 :: ldT Q else if q = 7 then 80 :: ((10 :: ldT Q) ++ rdT Q Q) else 10 :: ldT Q
def trVv (q Q : Nat) (b x : Int32) : Int32 := if q = 2 then -(ldV Q b x * 2) else if q = 3 ∨ q = 5 then -(ldV Q b (x + 1) * 2) else if q = 7 then ldV Q b x * 2 + rdV Q Q b 2 else ldV Q b x * 2
def tlT (q Q : Nat) : List Int32 := if q = 4 then 50 :: 2 :: (trT Q Q ++ rdT Q Q) else if q = 5 then 61 :: 2 :: (trT Q Q ++ rdT Q Q) else 2 :: (trT Q Q ++ rdT Q Q)
def tlV (q Q : Nat) (b x : Int32) : Int32 := if q = 4 then (trVv Q Q b x - rdV Q Q b 1) ^^^ 5 else if q = 5 then (trVv Q Q b x - rdV Q Q b 1) + 1 else trVv Q Q b x - rdV Q Q b 1
theorem rdT_len (q Q : Nat) : (rdT q Q).length ≤ 6 := by
  have := ldT_len Q
  unfold rdT
  split
  · simp
    omega
  · split <;> simp
theorem trT_len (q Q : Nat) : (trT q Q).length ≤ 11 := by
  have := ldT_len Q
  have := rdT_len Q Q
  unfold trT
  split
  · simp
    omega
  · split
    · simp
      omega
    · split
      · simp
        omega
      · simp
        omega
theorem C_tr {N Q : Nat} (hQ : Q < 8) (b : Int32) : ∀ x : Int32, ∀ q, q < 8 → ∀ d c, c ≤ 10 → CR b (nI Q) (R_X0_treads N (d + 5) 0 (nI q) x (nI c)) (trT q Q) (trVv q Q b x) := by
  have hlq := ldT_len Q
  have hrq := rdT_len Q Q
  have r0 : ∀ (x : Int32) d c, c ≤ 20 → CR b (nI Q) (R_X0_treads N (d + 1) 0 (nI 0) x (nI c)) (10 :: ldT Q) (ldV Q b x * 2) := fun x d c hc =>
    (CR.bg 10 ((F_ld (N := N) hQ b x (c := c + 1) (by omega)).mp (fun v => v * 2)) (by omega)).cg (fun σ _ _ => by
      show G_X0_treads N _ (nI 0) x (nI c) σ = _
      unfold G_X0_treads
      rw [if_pos (cle hc (by decide)), nI_add1]
      rfl)
  have up : ∀ (x : Int32) (q p : Nat) T v, (∀ self c σ, c ≤ 40 → G_X0_treads N self (nI q) x (nI c) σ = clx (self 0 (nI p) x (nI c + (1 : Int32)) σ) (fun v2 σ3 => some (v2, σ3))) → ∀ d c, c + 1 ≤ 40 → CR b (nI Q) (R_X0_treads N d 0 (nI p) x (nI (c + 1))) T v → CR b (nI Q) (R_X0_treads N (d + 1) 0 (nI q) x (nI c)) T v := fun x q p T v e d c hc h =>
    (h.mp id).cg (fun σ _ _ => by
      show G_X0_treads N _ (nI q) x (nI c) σ = _
      rw [e _ c σ (by omega), nI_add1]
      rfl)
  have u1 : ∀ (x : Int32) self c σ, c ≤ 40 → G_X0_treads N self (nI 1) x (nI c) σ = clx (self 0 (nI 0) x (nI c + (1 : Int32)) σ) (fun v2 σ3 => some (v2, σ3)) := fun x self c σ hc => by
    unfold G_X0_treads
    rw [if_pos (cle hc (Nat.le_refl _))]
    rfl
  have u4 : ∀ (x : Int32) self c σ, c ≤ 40 → G_X0_treads N self (nI 4) x (nI c) σ = clx (self 0 (nI 1) x (nI c + (1 : Int32)) σ) (fun v2 σ3 => some (v2, σ3)) := fun x self c σ hc => by
    unfold G_X0_treads
    rw [if_pos (cle hc (Nat.le_refl _))]
    rfl
  have u5 : ∀ (x : Int32) self c σ, c ≤ 40 → G_X0_treads N self (nI 5) x (nI c) σ = clx (self 0 (nI 3) x (nI c + (1 : Int32)) σ) (fun v2 σ3 => some (v2, σ3)) := fun x self c σ hc => by
    unfold G_X0_treads
    rw [if_pos (cle hc (Nat.le_refl _))]
    rfl
  have u6 : ∀ (x : Int32) self c σ, c ≤ 40 → G_X0_treads N self (nI 6) x (nI c) σ = clx (self 0 (nI 0) x (nI c + (1 : Int32)) σ) (fun v2 σ3 => some (v2, σ3)) := fun x self c σ hc => by
    unfold G_X0_treads
    rw [if_pos (cle hc (Nat.le_refl _))]
    rfl
  have r1 : ∀ (x : Int32) d c, c ≤ 19 → CR b (nI Q) (R_X0_treads N (d + 2) 0 (nI 1) x (nI c)) (10 :: ldT Q) (ldV Q b x * 2) := fun x d c hc => up x 1 0 _ _ (u1 x) (d + 1) c (by omega) (r0 x d (c + 1) (by omega))
  have r6 : ∀ (x : Int32) d c, c ≤ 19 → CR b (nI Q) (R_X0_treads N (d + 2) 0 (nI 6) x (nI c)) (10 :: ldT Q) (ldV Q b x * 2) := fun x d c hc => up x 6 0 _ _ (u6 x) (d + 1) c (by omega) (r0 x d (c + 1) (by omega))
  have r4 : ∀ (x : Int32) d c, c ≤ 18 → CR b (nI Q) (R_X0_treads N (d + 3) 0 (nI 4) x (nI c)) (10 :: ldT Q) (ldV Q b x * 2) := fun x d c hc => up x 4 1 _ _ (u4 x) (d + 2) c (by omega) (r1 x d (c + 1) (by omega))
  have r2 : ∀ (x : Int32) d c, c ≤ 19 → CR b (nI Q) (R_X0_treads N (d + 2) 0 (nI 2) x (nI c)) (30 :: 10 :: ldT Q) (-(ldV Q b x * 2)) := fun x d c hc =>
    (CR.bg 30 ((r0 x d (c + 1) (by omega)).mp (fun v => -v)) (by rw [List.length_cons]; omega)).cg (fun σ _ _ => by
      show G_X0_treads N _ (nI 2) x (nI c) σ = _
      unfold G_X0_treads
      rw [if_pos (cle hc (by decide)), nI_add1]
      rfl)
  have r3 : ∀ (x : Int32) d c, c ≤ 18 → CR b (nI Q) (R_X0_treads N (d + 3) 0 (nI 3) x (nI c)) (41 :: 30 :: 10 :: ldT Q) (-(ldV Q b (x + 1) * 2)) := fun x d c hc =>
    (CR.bg 41 ((r2 (x + 1) d (c + 1) (by omega)).mp id) (by rw [List.length_cons, List.length_cons]; omega)).cg (fun σ _ _ => by
      show G_X0_treads N _ (nI 3) x (nI c) σ = _
      unfold G_X0_treads
      rw [if_pos (cle hc (by decide)), nI_add1]
      rfl)
  have r5 : ∀ (x : Int32) d c, c ≤ 17 → CR b (nI Q) (R_X0_treads N (d + 4) 0 (nI 5) x (nI c)) (41 :: 30 :: 10 :: ldT Q) (-(ldV Q b (x + 1) * 2)) := fun x d c hc => up x 5 3 _ _ (u5 x) (d + 3) c (by omega) (r3 x d (c + 1) (by omega))
  have r7 : ∀ (x : Int32) d c, c ≤ 17 → CR b (nI Q) (R_X0_treads N (d + 3) 0 (nI 7) x (nI c)) (80 :: ((10 :: ldT Q) ++ rdT Q Q)) (ldV Q b x * 2 + rdV Q Q b 2) := fun x d c hc =>
    (CR.bg 80 ((r6 x d (c + 1) (by omega)).sq (fun v w => v + w) (F_rd (N := N) hQ b 2 (c := c + 1) (by omega)) (by rw [List.length_cons]; omega)) (by rw [List.length_append, List.length_cons]; omega)).cg (fun σ _ _ => by
      show G_X0_treads N _ (nI 7) x (nI c) σ = _
      unfold G_X0_treads
      rw [if_pos (cle hc (by decide)), nI_add1]
      rfl)
  intro x q hq d c hc
  match q, hq with
  | 0, _ => exact r0 x (d + 4) c (by omega)
  | 1, _ => exact r1 x (d + 3) c (by omega)
  | 2, _ => exact r2 x (d + 3) c (by omega)
  | 3, _ => exact r3 x (d + 2) c (by omega)
  | 4, _ => exact r4 x (d + 2) c (by omega)
  | 5, _ => exact r5 x (d + 1) c (by omega)
  | 6, _ => exact r6 x (d + 3) c (by omega)
  | 7, _ => exact r7 x (d + 2) c (by omega)
theorem F_tr {N Q : Nat} (hQ : Q < 8) (b x : Int32) {c : Nat} (hc : c ≤ 10) : CR b (nI Q) (fun σ => F_X0_treads N (siI σ 8 5) x (nI c) σ) (trT Q Q) (trVv Q Q b x) := (C_tr hQ b x Q hQ 59 c hc).cg (fun σ _ h => by
  rw [h]
  rfl)
theorem C_tl {N Q : Nat} (hQ : Q < 8) (b x : Int32) : ∀ q, q < 8 → ∀ d c, c ≤ 3 → CR b (nI Q) (R_X0_tells N (d + 5) 0 (nI q) x (nI c)) (tlT q Q) (tlV q Q b x) := by
  have hlq := trT_len Q Q
  have hrq := rdT_len Q Q
  have r0 : ∀ d c, c ≤ 9 → CR b (nI Q) (R_X0_tells N (d + 1) 0 (nI 0) x (nI c)) (2 :: (trT Q Q ++ rdT Q Q)) (trVv Q Q b x - rdV Q Q b 1) := fun d c hc =>
    (CR.bg 2 ((F_tr (N := N) hQ b x (c := c + 1) (by omega)).sq (fun v w => v - w) (F_rd (N := N) hQ b 1 (c := c + 1) (by omega)) (by omega)) (by rw [List.length_append]; omega)).cg (fun σ _ _ => by
      show G_X0_tells N _ (nI 0) x (nI c) σ = _
      unfold G_X0_tells
      rw [if_pos (cle hc (by decide)), nI_add1]
      rfl)
  have up : ∀ (q p : Nat) T v, (∀ self c σ, c ≤ 40 → G_X0_tells N self (nI q) x (nI c) σ = clx (self 0 (nI p) x (nI c + (1 : Int32)) σ) (fun v2 σ3 => some (v2, σ3))) → ∀ d c, c + 1 ≤ 40 → CR b (nI Q) (R_X0_tells N d 0 (nI p) x (nI (c + 1))) T v → CR b (nI Q) (R_X0_tells N (d + 1) 0 (nI q) x (nI c)) T v := fun q p T v e d c hc h =>
    (h.mp id).cg (fun σ _ _ => by
      show G_X0_tells N _ (nI q) x (nI c) σ = _
      rw [e _ c σ (by omega), nI_add1]
      rfl)
  have u1 : ∀ self c σ, c ≤ 40 → G_X0_tells N self (nI 1) x (nI c) σ = clx (self 0 (nI 0) x (nI c + (1 : Int32)) σ) (fun v2 σ3 => some (v2, σ3)) := fun self c σ hc => by
    unfold G_X0_tells
    rw [if_pos (cle hc (Nat.le_refl _))]
    rfl
  have u2 : ∀ self c σ, c ≤ 40 → G_X0_tells N self (nI 2) x (nI c) σ = clx (self 0 (nI 0) x (nI c + (1 : Int32)) σ) (fun v2 σ3 => some (v2, σ3)) := fun self c σ hc => by
    unfold G_X0_tells
    rw [if_pos (cle hc (Nat.le_refl _))]
    rfl
  have u3 : ∀ self c σ, c ≤ 40 → G_X0_tells N self (nI 3) x (nI c) σ = clx (self 0 (nI 2) x (nI c + (1 : Int32)) σ) (fun v2 σ3 => some (v2, σ3)) := fun self c σ hc => by
    unfold G_X0_tells
    rw [if_pos (cle hc (Nat.le_refl _))]
    rfl
  have u6 : ∀ self c σ, c ≤ 40 → G_X0_tells N self (nI 6) x (nI c) σ = clx (self 0 (nI 0) x (nI c + (1 : Int32)) σ) (fun v2 σ3 => some (v2, σ3)) := fun self c σ hc => by
    unfold G_X0_tells
    rw [if_pos (cle hc (Nat.le_refl _))]
    rfl
  have u7 : ∀ self c σ, c ≤ 40 → G_X0_tells N self (nI 7) x (nI c) σ = clx (self 0 (nI 6) x (nI c + (1 : Int32)) σ) (fun v2 σ3 => some (v2, σ3)) := fun self c σ hc => by
    unfold G_X0_tells
    rw [if_pos (cle hc (Nat.le_refl _))]
    rfl
  have r1 := fun d c hc => up 1 0 _ _ u1 (d + 1) c (show c + 1 ≤ 40 from Nat.le_trans hc (by decide)) (r0 d (c + 1) (show c + 1 ≤ 9 from hc))
  have r2 := fun d c hc => up 2 0 _ _ u2 (d + 1) c (show c + 1 ≤ 40 from Nat.le_trans hc (by decide)) (r0 d (c + 1) (show c + 1 ≤ 9 from hc))
  have r6 := fun d c hc => up 6 0 _ _ u6 (d + 1) c (show c + 1 ≤ 40 from Nat.le_trans hc (by decide)) (r0 d (c + 1) (show c + 1 ≤ 9 from hc))
  have r3 : ∀ d c, c ≤ 7 → _ := fun d c hc => up 3 2 _ _ u3 (d + 2) c (show c + 1 ≤ 40 by omega) (r2 d (c + 1) (show c + 1 + 1 ≤ 9 by omega))
  have r7 : ∀ d c, c ≤ 7 → _ := fun d c hc => up 7 6 _ _ u7 (d + 2) c (show c + 1 ≤ 40 by omega) (r6 d (c + 1) (show c + 1 + 1 ≤ 9 by omega))
  have r4 : ∀ d c, c ≤ 7 → CR b (nI Q) (R_X0_tells N (d + 3) 0 (nI 4) x (nI c)) (50 :: 2 :: (trT Q Q ++ rdT Q Q)) ((trVv Q Q b x - rdV Q Q b 1) ^^^ 5) := fun d c hc =>
    (CR.bg 50 ((r1 d (c + 1) (by omega)).mp (fun v => v ^^^ 5)) (by rw [List.length_cons, List.length_append]; omega)).cg (fun σ _ _ => by
      show G_X0_tells N _ (nI 4) x (nI c) σ = _
      unfold G_X0_tells
      rw [if_pos (cle hc (by decide)), nI_add1]
      rfl)
  have r5 : ∀ d c, c ≤ 6 → CR b (nI Q) (R_X0_tells N (d + 4) 0 (nI 5) x (nI c)) (61 :: 2 :: (trT Q Q ++ rdT Q Q)) ((trVv Q Q b x - rdV Q Q b 1) + 1) := fun d c hc =>
    (CR.bg 61 ((r3 d (c + 1) (by omega)).mp (fun v => v + 1)) (by rw [List.length_cons, List.length_append]; omega)).cg (fun σ _ _ => by
      show G_X0_tells N _ (nI 5) x (nI c) σ = _
      unfold G_X0_tells
      rw [if_pos (cle hc (by decide)), nI_add1]
      rfl)
  intro q hq d c hc
  match q, hq with
  | 0, _ => exact r0 (d + 4) c (by omega)
  | 1, _ => exact r1 (d + 3) c (by omega)
  | 2, _ => exact r2 (d + 3) c (by omega)
  | 3, _ => exact r3 (d + 2) c (by omega)
  | 4, _ => exact r4 (d + 2) c (by omega)
  | 5, _ => exact r5 (d + 1) c (by omega)
  | 6, _ => exact r6 (d + 3) c (by omega)
  | 7, _ => exact r7 (d + 2) c (by omega)
theorem F_tl {N Q : Nat} (hQ : Q < 8) (b x : Int32) {c : Nat} (hc : c ≤ 3) : CR b (nI Q) (fun σ => F_X0_tells N (siI σ 8 5) x (nI c) σ) (tlT Q Q) (tlV Q Q b x) := (C_tl hQ b x Q hQ 59 c hc).cg (fun σ _ h => by
  rw [h]
  rfl)
