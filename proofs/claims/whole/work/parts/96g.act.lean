/-! DEEDS OF BODIES -/
def CT (L : List Int32) (σ : Sx) : Prop := siI σ 8 2 = nI L.length ∧ ∀ j, j < L.length → j < 24 → siI σ 102 j = L.getD j 0
def MT (L : List Int32) (σ : Sx) : Prop := siI σ 103 51 = nI L.length ∧ ∀ j, j < L.length → j < 24 → siI σ 134 j = L.getD j 0
def rgTc (i j : Nat) : Prop := i = 102 ∨ (i = 8 ∧ j = 2)
def rgTm (i j : Nat) : Prop := i = 134 ∨ (i = 103 ∧ j = 51)
theorem getD_snoc {L : List Int32} {x : Int32} {j : Nat} : (L ++ [x]).getD j 0 = if j = L.length then x else L.getD j 0 := by
  by_cases h : j = L.length
  · rw [if_pos h, h]
    simp [List.getD]
  · rw [if_neg h]
    rcases Nat.lt_or_ge j L.length with q | q
    · simp [List.getD, List.getElem?_append_left q]
    · simp [List.getD, List.getElem?_eq_none (show (L ++ [x]).length ≤ j by rw [List.length_append, List.length_singleton]; omega), List.getElem?_eq_none q]
theorem C_begin {L : List Int32} {σ : Sx} (x : Int32) (h : CT L σ) (hl : L.length ≤ 60) : ∃ σ2, F_X0_begin x σ = some ((), σ2) ∧ Kp rgTc σ σ2 ∧ CT (L ++ [x]) σ2 := by
  obtain ⟨h1, h2⟩ := h
  have hlen : (L ++ [x]).length = L.length + 1 := by rw [List.length_append, List.length_singleton]
  unfold F_X0_begin
  rw [nmx_s, h1, show (24 : Int32) = nI 24 from rfl, ite_le (by decide) (by omega)]
  by_cases e : 24 ≤ L.length
  · rw [if_pos e]
    refine ⟨upI σ 8 2 (nI (L.length + 1)), by dsimp only; rw [h1, pIx_s, nI_add1], Kp.rf.I (Or.inr ⟨rfl, rfl⟩), by rw [uI_s, hlen], fun j q1 q2 => ?_⟩
    rw [uI_i (by decide), getD_snoc, if_neg (by omega)]
    exact h2 j (by omega) q2
  · rw [if_neg e, sIx_k (by omega) (by decide)]
    refine ⟨upI (upI σ 102 L.length x) 8 2 (nI (L.length + 1)), by dsimp only; rw [uI_i (by decide), h1, pIx_s, nI_add1], (Kp.rf.I (Or.inl rfl)).I (Or.inr ⟨rfl, rfl⟩), by rw [uI_s, hlen], fun j q1 q2 => ?_⟩
    rw [uI_i (by decide), getD_snoc]
    by_cases ej : j = L.length
    · rw [if_pos ej, ej, uI_s]
    · rw [if_neg ej, uI_j ej]
      exact h2 j (by omega) q2
theorem M_ran {L : List Int32} {σ : Sx} (x : Int32) (h : MT L σ) (hl : L.length ≤ 60) : ∃ σ2, F_X10_ran x σ = some ((), σ2) ∧ Kp rgTm σ σ2 ∧ MT (L ++ [x]) σ2 := by
  obtain ⟨h1, h2⟩ := h
  have hlen : (L ++ [x]).length = L.length + 1 := by rw [List.length_append, List.length_singleton]
  unfold F_X10_ran
  rw [nmx_s, h1, show (24 : Int32) = nI 24 from rfl, ite_le (by decide) (by omega)]
  by_cases e : 24 ≤ L.length
  · rw [if_pos e]
    refine ⟨upI σ 103 51 (nI (L.length + 1)), by dsimp only; rw [h1, pIx_s, nI_add1], Kp.rf.I (Or.inr ⟨rfl, rfl⟩), by rw [uI_s, hlen], fun j q1 q2 => ?_⟩
    rw [uI_i (by decide), getD_snoc, if_neg (by omega)]
    exact h2 j (by omega) q2
  · rw [if_neg e, sIx_k (by omega) (by decide)]
    refine ⟨upI (upI σ 134 L.length x) 103 51 (nI (L.length + 1)), by dsimp only; rw [uI_i (by decide), h1, pIx_s, nI_add1], (Kp.rf.I (Or.inl rfl)).I (Or.inr ⟨rfl, rfl⟩), by rw [uI_s, hlen], fun j q1 q2 => ?_⟩
    rw [uI_i (by decide), getD_snoc]
    by_cases ej : j = L.length
    · rw [if_pos ej, ej, uI_s]
    · rw [if_neg ej, uI_j ej]
      exact h2 j (by omega) q2
/-- what runs and what comes of it -/
def CR (b Q : Int32) (F : Sx → Option (Int32 × Sx)) (T : List Int32) (v : Int32) : Prop := T.length ≤ 20 ∧ ∀ L σ, CT L σ → L.length + T.length ≤ 50 → siI σ 8 4 = b → siI σ 8 5 = Q → ∃ σ2, F σ = some (v, σ2) ∧ Kp rgTc σ σ2 ∧ CT (L ++ T) σ2
def MR (a : Nat) (Q : Int32) (F : Sx → Option (Int32 × Sx)) (T : List Int32) (v : Int32) : Prop := T.length ≤ 20 ∧ ∀ L σ, MT L σ → L.length + T.length ≤ 50 → siI σ 133 a = Q → ∃ σ2, F σ = some (v, σ2) ∧ Kp rgTm σ σ2 ∧ MT (L ++ T) σ2
theorem CR.cg {b Q : Int32} {F F2 : Sx → Option (Int32 × Sx)} {T : List Int32} {v : Int32} (h : CR b Q F T v) (e : ∀ σ, siI σ 8 4 = b → siI σ 8 5 = Q → F2 σ = F σ) : CR b Q F2 T v := ⟨h.1, fun L σ h1 h2 h3 h4 => by
  rw [e σ h3 h4]
  exact h.2 L σ h1 h2 h3 h4⟩
theorem MR.cg {a : Nat} {Q : Int32} {F F2 : Sx → Option (Int32 × Sx)} {T : List Int32} {v : Int32} (h : MR a Q F T v) (e : ∀ σ, siI σ 133 a = Q → F2 σ = F σ) : MR a Q F2 T v := ⟨h.1, fun L σ h1 h2 h3 => by
  rw [e σ h3]
  exact h.2 L σ h1 h2 h3⟩
theorem CR.ret {b Q : Int32} (v : Int32) {f : Sx → Int32} (hf : ∀ σ, siI σ 8 4 = b → siI σ 8 5 = Q → f σ = v) : CR b Q (fun σ => some (f σ, σ)) [] v := ⟨by decide, fun L σ h1 _ h3 h4 => ⟨σ, by dsimp only; rw [hf σ h3 h4], Kp.rf, by rw [List.append_nil]; exact h1⟩⟩
theorem MR.ret {a : Nat} {Q : Int32} (v : Int32) : MR a Q (fun σ => some (v, σ)) [] v := ⟨by decide, fun L σ h1 _ _ => ⟨σ, rfl, Kp.rf, by rw [List.append_nil]; exact h1⟩⟩
theorem CR.bg {b Q : Int32} {F : Sx → Option (Int32 × Sx)} {T : List Int32} {v : Int32} (x : Int32) (h : CR b Q F T v) (hl : T.length ≤ 19) : CR b Q (fun σ => clx (F_X0_begin x σ) (fun _ σ1 => F σ1)) (x :: T) v := ⟨by rw [List.length_cons]; omega, fun L σ h1 h2 h3 h4 => by
  rw [List.length_cons] at h2
  obtain ⟨σ1, e1, e2, e3⟩ := C_begin x h1 (by omega)
  obtain ⟨σ2, f1, f2, f3⟩ := h.2 (L ++ [x]) σ1 e3 (by rw [List.length_append, List.length_singleton]; omega) (by rw [(e2 8 4 (by unfold rgTc; omega)).1]; exact h3) (by rw [(e2 8 5 (by unfold rgTc; omega)).1]; exact h4)
  refine ⟨σ2, by dsimp only; rw [e1, clx_s, f1], e2.tr f2, ?_⟩
  rw [List.append_assoc, List.singleton_append] at f3
  exact f3⟩
theorem MR.bg {a : Nat} {Q : Int32} {F : Sx → Option (Int32 × Sx)} {T : List Int32} {v : Int32} (x : Int32) (h : MR a Q F T v) (hl : T.length ≤ 19) : MR a Q (fun σ => clx (F_X10_ran x σ) (fun _ σ1 => F σ1)) (x :: T) v := ⟨by rw [List.length_cons]; omega, fun L σ h1 h2 h3 => by
  rw [List.length_cons] at h2
  obtain ⟨σ1, e1, e2, e3⟩ := M_ran x h1 (by omega)
  obtain ⟨σ2, f1, f2, f3⟩ := h.2 (L ++ [x]) σ1 e3 (by rw [List.length_append, List.length_singleton]; omega) (by rw [(e2 133 a (by unfold rgTm; omega)).1]; exact h3)
  refine ⟨σ2, by dsimp only; rw [e1, clx_s, f1], e2.tr f2, ?_⟩
  rw [List.append_assoc, List.singleton_append] at f3
  exact f3⟩
theorem CR.mp {b Q : Int32} {F : Sx → Option (Int32 × Sx)} {T : List Int32} {v : Int32} (g : Int32 → Int32) (h : CR b Q F T v) : CR b Q (fun σ => clx (F σ) (fun v1 σ1 => some (g v1, σ1))) T (g v) := ⟨h.1, fun L σ h1 h2 h3 h4 => by
  obtain ⟨σ2, f1, f2, f3⟩ := h.2 L σ h1 h2 h3 h4
  exact ⟨σ2, by dsimp only; rw [f1, clx_s], f2, f3⟩⟩
theorem MR.mp {a : Nat} {Q : Int32} {F : Sx → Option (Int32 × Sx)} {T : List Int32} {v : Int32} (g : Int32 → Int32) (h : MR a Q F T v) : MR a Q (fun σ => clx (F σ) (fun v1 σ1 => some (g v1, σ1))) T (g v) := ⟨h.1, fun L σ h1 h2 h3 => by
  obtain ⟨σ2, f1, f2, f3⟩ := h.2 L σ h1 h2 h3
  exact ⟨σ2, by dsimp only; rw [f1, clx_s], f2, f3⟩⟩
theorem CR.sq {b Q : Int32} {F F2 : Sx → Option (Int32 × Sx)} {T T2 : List Int32} {v v2 : Int32} (g : Int32 → Int32 → Int32) (h : CR b Q F T v) (h' : CR b Q F2 T2 v2) (hl : T.length + T2.length ≤ 20) : CR b Q (fun σ => clx (F σ) (fun x1 σ1 => clx (F2 σ1) (fun x2 σ2 => some (g x1 x2, σ2)))) (T ++ T2) (g v v2) := ⟨by rw [List.length_append]; omega, fun L σ h1 h2 h3 h4 => by
  rw [List.length_append] at h2
  obtain ⟨σ1, e1, e2, e3⟩ := h.2 L σ h1 (by omega) h3 h4
  obtain ⟨σ2, f1, f2, f3⟩ := h'.2 (L ++ T) σ1 e3 (by rw [List.length_append]; omega) (by rw [(e2 8 4 (by unfold rgTc; omega)).1]; exact h3) (by rw [(e2 8 5 (by unfold rgTc; omega)).1]; exact h4)
  refine ⟨σ2, by dsimp only; rw [e1, clx_s, f1, clx_s], e2.tr f2, ?_⟩
  rw [List.append_assoc] at f3
  exact f3⟩
theorem MR.sq {a : Nat} {Q : Int32} {F F2 : Sx → Option (Int32 × Sx)} {T T2 : List Int32} {v v2 : Int32} (g : Int32 → Int32 → Int32) (h : MR a Q F T v) (h' : MR a Q F2 T2 v2) (hl : T.length + T2.length ≤ 20) : MR a Q (fun σ => clx (F σ) (fun x1 σ1 => clx (F2 σ1) (fun x2 σ2 => some (g x1 x2, σ2)))) (T ++ T2) (g v v2) := ⟨by rw [List.length_append]; omega, fun L σ h1 h2 h3 => by
  rw [List.length_append] at h2
  obtain ⟨σ1, e1, e2, e3⟩ := h.2 L σ h1 (by omega) h3
  obtain ⟨σ2, f1, f2, f3⟩ := h'.2 (L ++ T) σ1 e3 (by rw [List.length_append]; omega) (by rw [(e2 133 a (by unfold rgTm; omega)).1]; exact h3)
  refine ⟨σ2, by dsimp only; rw [e1, clx_s, f1, clx_s], e2.tr f2, ?_⟩
  rw [List.append_assoc] at f3
  exact f3⟩
def ldT (q : Nat) : List Int32 := if q = 1 ∨ q = 4 then [20, 1] else if q = 6 then [70, 1] else if q = 7 then [81, 70, 1] else [1]
def ldV (q : Nat) (b x : Int32) : Int32 := if q = 1 ∨ q = 4 then x + b + 3 else if q = 6 then (x + b) * 2 else if q = 7 then (x + b) * 2 - 1 else x + b
def rdT (q Q : Nat) : List Int32 := if q = 5 then [60, 40, 11] ++ ldT Q else if q = 3 then [40, 11] else [11]
def rdV (q Q : Nat) (b x : Int32) : Int32 := if q = 5 then (x ^^^ b) * 3 - ldV Q b 2 else if q = 3 then (x ^^^ b) * 3 else x ^^^ b
theorem cle {c m : Nat} (h : c ≤ m) (hm : m ≤ 40) : nI c ≤ (40 : Int32) := nI_le (b := 40) (by omega) (by decide)
theorem C_ld {N : Nat} (b Q x : Int32) : ∀ q, q < 8 → ∀ d c, c ≤ 30 → CR b Q (R_X0_leads N (d + 5) 0 (nI q) x (nI c)) (ldT q) (ldV q b x) := by
  have r0 : ∀ d c, c ≤ 40 → CR b Q (R_X0_leads N (d + 1) 0 (nI 0) x (nI c)) [1] (x + b) := fun d c hc =>
    (CR.bg 1 (CR.ret (b := b) (Q := Q) (x + b) (f := fun σ => x + siI σ 8 4) (fun σ h _ => by rw [h])) (by decide)).cg (fun σ _ _ => by
      show G_X0_leads N _ (nI 0) x (nI c) σ = _
      unfold G_X0_leads
      rw [if_pos (cle hc (Nat.le_refl _))]
      rfl)
  have up : ∀ (q p : Nat) T v, (∀ self c σ, c ≤ 40 → G_X0_leads N self (nI q) x (nI c) σ = clx (self 0 (nI p) x (nI c + (1 : Int32)) σ) (fun v2 σ3 => some (v2, σ3))) → ∀ d c, c + 1 ≤ 40 → CR b Q (R_X0_leads N d 0 (nI p) x (nI (c + 1))) T v → CR b Q (R_X0_leads N (d + 1) 0 (nI q) x (nI c)) T v := fun q p T v e d c hc h =>
    (h.mp id).cg (fun σ _ _ => by
      show G_X0_leads N _ (nI q) x (nI c) σ = _
      rw [e _ c σ (by omega), nI_add1]
      rfl)
  have u2 : ∀ self c σ, c ≤ 40 → G_X0_leads N self (nI 2) x (nI c) σ = clx (self 0 (nI 0) x (nI c + (1 : Int32)) σ) (fun v2 σ3 => some (v2, σ3)) := fun self c σ hc => by
    unfold G_X0_leads
    rw [if_pos (cle hc (Nat.le_refl _))]
    rfl
  have u3 : ∀ self c σ, c ≤ 40 → G_X0_leads N self (nI 3) x (nI c) σ = clx (self 0 (nI 2) x (nI c + (1 : Int32)) σ) (fun v2 σ3 => some (v2, σ3)) := fun self c σ hc => by
    unfold G_X0_leads
    rw [if_pos (cle hc (Nat.le_refl _))]
    rfl
  have u4 : ∀ self c σ, c ≤ 40 → G_X0_leads N self (nI 4) x (nI c) σ = clx (self 0 (nI 1) x (nI c + (1 : Int32)) σ) (fun v2 σ3 => some (v2, σ3)) := fun self c σ hc => by
    unfold G_X0_leads
    rw [if_pos (cle hc (Nat.le_refl _))]
    rfl
  have u5 : ∀ self c σ, c ≤ 40 → G_X0_leads N self (nI 5) x (nI c) σ = clx (self 0 (nI 3) x (nI c + (1 : Int32)) σ) (fun v2 σ3 => some (v2, σ3)) := fun self c σ hc => by
    unfold G_X0_leads
    rw [if_pos (cle hc (Nat.le_refl _))]
    rfl
  have r1 : ∀ d c, c ≤ 39 → CR b Q (R_X0_leads N (d + 2) 0 (nI 1) x (nI c)) [20, 1] (x + b + 3) := fun d c hc =>
    (CR.bg 20 ((r0 d (c + 1) (by omega)).mp (fun v => v + 3)) (by decide)).cg (fun σ _ _ => by
      show G_X0_leads N _ (nI 1) x (nI c) σ = _
      unfold G_X0_leads
      rw [if_pos (cle hc (by decide)), nI_add1]
      rfl)
  have r6 : ∀ d c, c ≤ 39 → CR b Q (R_X0_leads N (d + 2) 0 (nI 6) x (nI c)) [70, 1] ((x + b) * 2) := fun d c hc =>
    (CR.bg 70 ((r0 d (c + 1) (by omega)).mp (fun v => v * 2)) (by decide)).cg (fun σ _ _ => by
      show G_X0_leads N _ (nI 6) x (nI c) σ = _
      unfold G_X0_leads
      rw [if_pos (cle hc (by decide)), nI_add1]
      rfl)
  have r7 : ∀ d c, c ≤ 38 → CR b Q (R_X0_leads N (d + 3) 0 (nI 7) x (nI c)) [81, 70, 1] ((x + b) * 2 - 1) := fun d c hc =>
    (CR.bg 81 ((r6 d (c + 1) (by omega)).mp (fun v => v - 1)) (by decide)).cg (fun σ _ _ => by
      show G_X0_leads N _ (nI 7) x (nI c) σ = _
      unfold G_X0_leads
      rw [if_pos (cle hc (by decide)), nI_add1]
      rfl)
  have r2 : ∀ d c, c ≤ 38 → CR b Q (R_X0_leads N (d + 2) 0 (nI 2) x (nI c)) [1] (x + b) := fun d c hc => up 2 0 _ _ u2 (d + 1) c (by omega) (r0 d (c + 1) (by omega))
  have r3 : ∀ d c, c ≤ 37 → CR b Q (R_X0_leads N (d + 3) 0 (nI 3) x (nI c)) [1] (x + b) := fun d c hc => up 3 2 _ _ u3 (d + 2) c (by omega) (r2 d (c + 1) (by omega))
  have r4 : ∀ d c, c ≤ 37 → CR b Q (R_X0_leads N (d + 3) 0 (nI 4) x (nI c)) [20, 1] (x + b + 3) := fun d c hc => up 4 1 _ _ u4 (d + 2) c (by omega) (r1 d (c + 1) (by omega))
  have r5 : ∀ d c, c ≤ 36 → CR b Q (R_X0_leads N (d + 4) 0 (nI 5) x (nI c)) [1] (x + b) := fun d c hc => up 5 3 _ _ u5 (d + 3) c (by omega) (r3 d (c + 1) (by omega))
  intro q hq d c hc
  match q, hq with
  | 0, _ => exact r0 (d + 4) c (by omega)
  | 1, _ => exact r1 (d + 3) c (by omega)
  | 2, _ => exact r2 (d + 3) c (by omega)
  | 3, _ => exact r3 (d + 2) c (by omega)
  | 4, _ => exact r4 (d + 2) c (by omega)
  | 5, _ => exact r5 (d + 1) c (by omega)
  | 6, _ => exact r6 (d + 3) c (by omega)
  | 7, _ => exact r7 (d + 2) c (by omega)
theorem F_ld {N Q : Nat} (hQ : Q < 8) (b x : Int32) {c : Nat} (hc : c ≤ 30) : CR b (nI Q) (fun σ => F_X0_leads N (siI σ 8 5) x (nI c) σ) (ldT Q) (ldV Q b x) := (C_ld b (nI Q) x Q hQ 59 c hc).cg (fun σ _ h => by
  rw [h]
  rfl)
theorem ldT_len (q : Nat) : (ldT q).length ≤ 3 := by
  unfold ldT
  split
  · decide
  · split
    · decide
    · split <;> decide
theorem C_rd {N Q : Nat} (hQ : Q < 8) (b x : Int32) : ∀ q, q < 8 → ∀ d c, c ≤ 20 → CR b (nI Q) (R_X0_reads N (d + 5) 0 (nI q) x (nI c)) (rdT q Q) (rdV q Q b x) := by
  have r0 : ∀ d c, c ≤ 40 → CR b (nI Q) (R_X0_reads N (d + 1) 0 (nI 0) x (nI c)) [11] (x ^^^ b) := fun d c hc =>
    (CR.bg 11 (CR.ret (b := b) (Q := nI Q) (x ^^^ b) (f := fun σ => x ^^^ siI σ 8 4) (fun σ h _ => by rw [h])) (by decide)).cg (fun σ _ _ => by
      show G_X0_reads N _ (nI 0) x (nI c) σ = _
      unfold G_X0_reads
      rw [if_pos (cle hc (Nat.le_refl _))]
      rfl)
  have up : ∀ (q p : Nat) T v, (∀ self c σ, c ≤ 40 → G_X0_reads N self (nI q) x (nI c) σ = clx (self 0 (nI p) x (nI c + (1 : Int32)) σ) (fun v2 σ3 => some (v2, σ3))) → ∀ d c, c + 1 ≤ 40 → CR b (nI Q) (R_X0_reads N d 0 (nI p) x (nI (c + 1))) T v → CR b (nI Q) (R_X0_reads N (d + 1) 0 (nI q) x (nI c)) T v := fun q p T v e d c hc h =>
    (h.mp id).cg (fun σ _ _ => by
      show G_X0_reads N _ (nI q) x (nI c) σ = _
      rw [e _ c σ (by omega), nI_add1]
      rfl)
  have u1 : ∀ self c σ, c ≤ 40 → G_X0_reads N self (nI 1) x (nI c) σ = clx (self 0 (nI 0) x (nI c + (1 : Int32)) σ) (fun v2 σ3 => some (v2, σ3)) := fun self c σ hc => by
    unfold G_X0_reads
    rw [if_pos (cle hc (Nat.le_refl _))]
    rfl
  have u2 : ∀ self c σ, c ≤ 40 → G_X0_reads N self (nI 2) x (nI c) σ = clx (self 0 (nI 0) x (nI c + (1 : Int32)) σ) (fun v2 σ3 => some (v2, σ3)) := fun self c σ hc => by
    unfold G_X0_reads
    rw [if_pos (cle hc (Nat.le_refl _))]
    rfl
  have u4 : ∀ self c σ, c ≤ 40 → G_X0_reads N self (nI 4) x (nI c) σ = clx (self 0 (nI 1) x (nI c + (1 : Int32)) σ) (fun v2 σ3 => some (v2, σ3)) := fun self c σ hc => by
    unfold G_X0_reads
    rw [if_pos (cle hc (Nat.le_refl _))]
    rfl
  have u6 : ∀ self c σ, c ≤ 40 → G_X0_reads N self (nI 6) x (nI c) σ = clx (self 0 (nI 0) x (nI c + (1 : Int32)) σ) (fun v2 σ3 => some (v2, σ3)) := fun self c σ hc => by
    unfold G_X0_reads
    rw [if_pos (cle hc (Nat.le_refl _))]
    rfl
  have u7 : ∀ self c σ, c ≤ 40 → G_X0_reads N self (nI 7) x (nI c) σ = clx (self 0 (nI 6) x (nI c + (1 : Int32)) σ) (fun v2 σ3 => some (v2, σ3)) := fun self c σ hc => by
    unfold G_X0_reads
    rw [if_pos (cle hc (Nat.le_refl _))]
    rfl
  have r1 : ∀ d c, c ≤ 38 → CR b (nI Q) (R_X0_reads N (d + 2) 0 (nI 1) x (nI c)) [11] (x ^^^ b) := fun d c hc => up 1 0 _ _ u1 (d + 1) c (by omega) (r0 d (c + 1) (by omega))
  have r2 : ∀ d c, c ≤ 38 → CR b (nI Q) (R_X0_reads N (d + 2) 0 (nI 2) x (nI c)) [11] (x ^^^ b) := fun d c hc => up 2 0 _ _ u2 (d + 1) c (by omega) (r0 d (c + 1) (by omega))
  have r6 : ∀ d c, c ≤ 38 → CR b (nI Q) (R_X0_reads N (d + 2) 0 (nI 6) x (nI c)) [11] (x ^^^ b) := fun d c hc => up 6 0 _ _ u6 (d + 1) c (by omega) (r0 d (c + 1) (by omega))
  have r4 : ∀ d c, c ≤ 37 → CR b (nI Q) (R_X0_reads N (d + 3) 0 (nI 4) x (nI c)) [11] (x ^^^ b) := fun d c hc => up 4 1 _ _ u4 (d + 2) c (by omega) (r1 d (c + 1) (by omega))
  have r7 : ∀ d c, c ≤ 37 → CR b (nI Q) (R_X0_reads N (d + 3) 0 (nI 7) x (nI c)) [11] (x ^^^ b) := fun d c hc => up 7 6 _ _ u7 (d + 2) c (by omega) (r6 d (c + 1) (by omega))
  have r3 : ∀ d c, c ≤ 37 → CR b (nI Q) (R_X0_reads N (d + 3) 0 (nI 3) x (nI c)) [40, 11] ((x ^^^ b) * 3) := fun d c hc =>
    (CR.bg 40 ((r2 d (c + 1) (by omega)).mp (fun v => v * 3)) (by decide)).cg (fun σ _ _ => by
      show G_X0_reads N _ (nI 3) x (nI c) σ = _
      unfold G_X0_reads
      rw [if_pos (cle hc (by decide)), nI_add1]
      rfl)
  have r5 : ∀ d c, c ≤ 28 → CR b (nI Q) (R_X0_reads N (d + 4) 0 (nI 5) x (nI c)) (60 :: ([40, 11] ++ ldT Q)) ((x ^^^ b) * 3 - ldV Q b 2) := fun d c hc =>
    (CR.bg 60 ((r3 d (c + 1) (by omega)).sq (fun v w => v - w) (F_ld (N := N) hQ b 2 (c := c + 1) (by omega)) (by have := ldT_len Q; simp; omega)) (by have := ldT_len Q; simp; omega)).cg (fun σ _ _ => by
      show G_X0_reads N _ (nI 5) x (nI c) σ = _
      unfold G_X0_reads
      rw [if_pos (cle hc (by decide)), nI_add1]
      rfl)
  intro q hq d c hc
  match q, hq with
  | 0, _ => exact r0 (d + 4) c (by omega)
  | 1, _ => exact r1 (d + 3) c (by omega)
  | 2, _ => exact r2 (d + 3) c (by omega)
  | 3, _ => exact r3 (d + 2) c (by omega)
  | 4, _ => exact r4 (d + 2) c (by omega)
  | 5, _ => exact r5 (d + 1) c (by omega)
  | 6, _ => exact r6 (d + 3) c (by omega)
  | 7, _ => exact r7 (d + 2) c (by omega)
theorem F_rd {N Q : Nat} (hQ : Q < 8) (b x : Int32) {c : Nat} (hc : c ≤ 20) : CR b (nI Q) (fun σ => F_X0_reads N (siI σ 8 5) x (nI c) σ) (rdT Q Q) (rdV Q Q b x) := (C_rd hQ b x Q hQ 59 c hc).cg (fun σ _ h => by
  rw [h]
  rfl)
