/-! THE WHOLE: what each call leaves as it was -/
theorem ot_e {i j : Nat} (q : eeR i j) : otR i j := by
  unfold eeR at q
  rcases q with ⟨rfl, rfl⟩ | rfl | rfl | ⟨rfl, rfl⟩ | rfl | rfl
  all_goals simp [otR]
theorem ot_p {i j : Nat} (q : tpR i j) : otR i j := by
  unfold tpR at q
  rcases q with ⟨rfl, rfl⟩ | rfl | ⟨rfl, rfl⟩ | rfl
  all_goals simp [otR]
theorem ot_t {i j : Nat} (q : rgTc i j ∨ rgTm i j) : otR i j := by
  unfold rgTc rgTm at q
  rcases q with (rfl | ⟨rfl, rfl⟩) | (rfl | ⟨rfl, rfl⟩)
  all_goals simp [otR]
theorem ot_s {i j : Nat} (q : rsR i j) : otR i j := by
  unfold rsR at q
  unfold otR
  rcases q with ⟨rfl, rfl⟩ | rfl | q | ⟨rfl, rfl⟩ | rfl | q
  · simp
  · simp
  · exact Or.inr (Or.inr (Or.inr (Or.inr (Or.inr (Or.inr (Or.inr (Or.inr (Or.inr (Or.inr (Or.inr (Or.inl q)))))))))))
  · simp
  · simp
  · exact Or.inr (Or.inr (Or.inr (Or.inr (Or.inr (Or.inr (Or.inr (Or.inr (Or.inr (Or.inr (Or.inr (Or.inr (Or.inr (Or.inr (Or.inr (Or.inr (Or.inr q))))))))))))))))
def RelA (N : Nat) (σ : Sx) : Prop := ReW N σ ∧ ReE σ ∧ ReP σ ∧ ReT σ ∧ RelS σ
theorem ReW.kp {N : Nat} {σ σ2 : Sx} {reg : Nat → Nat → Prop} (h : ReW N σ) (k : Kp reg σ σ2) (d : ∀ i j, (rwR i j ∨ dyR i j) → ¬ reg i j) : ReW N σ2 := by
  obtain ⟨W, G, b, h⟩ := h
  exact ⟨W, G, b, h.kp k d⟩
theorem ReE.kp {σ σ2 : Sx} {reg : Nat → Nat → Prop} (h : ReE σ) (k : Kp reg σ σ2) (d : ∀ i j, eeR i j → ¬ reg i j) : ReE σ2 := h.of (fun i j q => (k i j (d i j q)).1)
theorem ReP.kp {σ σ2 : Sx} {reg : Nat → Nat → Prop} (h : ReP σ) (k : Kp reg σ σ2) (d : ∀ i j, tpR i j → ¬ reg i j) : ReP σ2 := h.of (fun i j q => (k i j (d i j q)).1)
theorem ReT.kp {σ σ2 : Sx} {reg : Nat → Nat → Prop} (h : ReT σ) (k : Kp reg σ σ2) (d : ∀ i j, (rgTc i j ∨ rgTm i j) → ¬ reg i j) : ReT σ2 := h.of (fun i j q => (k i j (d i j q)).1)
theorem RelS.kq {σ σ2 : Sx} {reg : Nat → Nat → Prop} (h : RelS σ) (k : Kp reg σ σ2) (d : ∀ i j, rsR i j → ¬ reg i j) : RelS σ2 := h.of (fun i j q => k i j (d i j q))
theorem asA {N : Nat} {σ : Sx} {A : Option (Int32 × Sx)} {B : Sx → Option (Int32 × Sx)} (hR : RelA N σ) (h : StI (ReW N) rgA σ A B) : OpI (RelA N) A B := by
  obtain ⟨r, σ1, σ2, h1, h2, h3, k⟩ := h
  refine ⟨r, σ1, σ2, h1, h2, h3, hR.2.1.kp k ?_, hR.2.2.1.kp k ?_, hR.2.2.2.1.kp k ?_, hR.2.2.2.2.kq k ?_⟩
  · exact fun i j q z => z (ot_e q)
  · exact fun i j q z => z (ot_p q)
  · exact fun i j q z => z (ot_t q)
  · exact fun i j q z => z (ot_s q)
theorem asWE {N : Nat} {σ : Sx} {A : Option (Int32 × Sx)} {B : Sx → Option (Int32 × Sx)} (hR : RelA N σ) (h : StI (ReWE N) rgP σ A B) : OpI (RelA N) A B := by
  obtain ⟨r, σ1, σ2, h1, h2, h3, k⟩ := h
  refine ⟨r, σ1, σ2, h1, h2, h3.1, h3.2, hR.2.2.1.kp k ?_, hR.2.2.2.1.kp k ?_, hR.2.2.2.2.kq k ?_⟩
  · intro i j q z
    rcases z with z | z
    · exact z (ot_p q)
    · unfold tpR at q
      unfold eeR at z
      omega
  · intro i j q z
    rcases z with z | z
    · exact z (ot_t q)
    · unfold rgTc rgTm at q
      unfold eeR at z
      omega
  · intro i j q z
    rcases z with z | z
    · exact z (ot_s q)
    · unfold rsR at q
      unfold eeR at z
      omega
theorem asE {N : Nat} {σ : Sx} {A : Option (Int32 × Sx)} {B : Sx → Option (Int32 × Sx)} (hR : RelA N σ) (h : StI ReE eeR σ A B) : OpI (RelA N) A B := by
  obtain ⟨r, σ1, σ2, h1, h2, h3, k⟩ := h
  refine ⟨r, σ1, σ2, h1, h2, hR.1.kp k ?_, h3, hR.2.2.1.kp k ?_, hR.2.2.2.1.kp k ?_, hR.2.2.2.2.kq k ?_⟩
  · exact fun i j q z => by
      unfold rwR cwR mwR lcR lmR ccR dyR at q
      unfold eeR at z
      omega
  · exact fun i j q z => by
      unfold tpR at q
      unfold eeR at z
      omega
  · exact fun i j q z => by
      unfold rgTc rgTm at q
      unfold eeR at z
      omega
  · exact fun i j q z => by
      unfold rsR at q
      unfold eeR at z
      omega
theorem frS {N : Nat} {σ σ2 : Sx} (hR : RelA N σ) (h3 : RelS σ2) (k : Kp regS σ σ2) : RelA N σ2 := by
  refine ⟨hR.1.kp k ?_, hR.2.1.kp k ?_, hR.2.2.1.kp k ?_, hR.2.2.2.1.kp k ?_, h3⟩
  · exact fun i j q z => by
      unfold rwR cwR mwR lcR lmR ccR dyR at q
      unfold regS at z
      omega
  · exact fun i j q z => by
      unfold eeR at q
      unfold regS at z
      omega
  · exact fun i j q z => by
      unfold tpR at q
      unfold regS at z
      omega
  · exact fun i j q z => by
      unfold rgTc rgTm at q
      unfold regS at z
      omega
theorem asS {N : Nat} {σ : Sx} {A : Option (Int32 × Sx)} {B : Sx → Option (Int32 × Sx)} (hR : RelA N σ) (h : StI RelS regS σ A B) : OpI (RelA N) A B := by
  obtain ⟨r, σ1, σ2, h1, h2, h3, k⟩ := h
  exact ⟨r, σ1, σ2, h1, h2, frS hR h3 k⟩
theorem asSL {N : Nat} {σ : Sx} {A : Option (Int64 × Sx)} {B : Sx → Option (Int64 × Sx)} (hR : RelA N σ) (h : StL RelS regS σ A B) : OpL (RelA N) A B := by
  obtain ⟨r, σ1, σ2, h1, h2, h3, k⟩ := h
  exact ⟨r, σ1, σ2, h1, h2, frS hR h3 k⟩
theorem asT {N : Nat} {σ : Sx} {A : Option (Int32 × Sx)} {B : Sx → Option (Int32 × Sx)} (hR : RelA N σ) (h : StI ReT rgTt σ A B) : OpI (RelA N) A B := by
  obtain ⟨r, σ1, σ2, h1, h2, h3, k⟩ := h
  refine ⟨r, σ1, σ2, h1, h2, hR.1.kp k ?_, hR.2.1.kp k ?_, hR.2.2.1.kp k ?_, h3, hR.2.2.2.2.kq k ?_⟩
  · exact fun i j q z => by
      unfold rwR cwR mwR lcR lmR ccR dyR at q
      unfold rgTt rgTc rgTm at z
      omega
  · exact fun i j q z => by
      unfold eeR at q
      unfold rgTt rgTc rgTm at z
      omega
  · exact fun i j q z => by
      unfold tpR at q
      unfold rgTt rgTc rgTm at z
      omega
  · exact fun i j q z => by
      unfold rsR at q
      unfold rgTt rgTc rgTm at z
      omega
theorem asP {N : Nat} {σ : Sx} {A : Option (Int32 × Sx)} {B : Sx → Option (Int32 × Sx)} (hR : RelA N σ) (h : StI ReP tpR σ A B) : OpI (RelA N) A B := by
  obtain ⟨r, σ1, σ2, h1, h2, h3, k⟩ := h
  refine ⟨r, σ1, σ2, h1, h2, hR.1.kp k ?_, hR.2.1.kp k ?_, h3, hR.2.2.2.1.kp k ?_, hR.2.2.2.2.kq k ?_⟩
  · exact fun i j q z => by
      unfold rwR cwR mwR lcR lmR ccR dyR at q
      unfold tpR at z
      omega
  · exact fun i j q z => by
      unfold eeR at q
      unfold tpR at z
      omega
  · exact fun i j q z => by
      unfold rgTc rgTm at q
      unfold tpR at z
      omega
  · exact fun i j q z => by
      unfold rsR at q
      unfold tpR at z
      omega
theorem asLw {N : Nat} {σ : Sx} {A : Option (Int32 × Sx)} {B : Sx → Option (Int32 × Sx)} (hR : RelA N σ) (h : StI (fun s => ReW N s ∧ ReP s) rgLw σ A B) : OpI (RelA N) A B := by
  obtain ⟨r, σ1, σ2, h1, h2, h3, k⟩ := h
  refine ⟨r, σ1, σ2, h1, h2, h3.1, hR.2.1.kp k ?_, h3.2, hR.2.2.2.1.kp k ?_, hR.2.2.2.2.kq k ?_⟩
  · exact fun i j q z => by
      unfold eeR at q
      unfold rgLw at z
      omega
  · exact fun i j q z => by
      unfold rgTc rgTm at q
      unfold rgLw at z
      omega
  · exact fun i j q z => by
      unfold rsR at q
      unfold rgLw at z
      omega
