/-- all but the cells of a region stays -/
def Kp (reg : Nat → Nat → Prop) (σ σ2 : Sx) : Prop := ∀ i j, ¬ reg i j → siI σ2 i j = siI σ i j ∧ siL σ2 i j = siL σ i j
theorem Kp.rf {reg : Nat → Nat → Prop} {σ : Sx} : Kp reg σ σ := fun _ _ _ => ⟨rfl, rfl⟩
theorem Kp.tr {reg : Nat → Nat → Prop} {σ σ2 σ3 : Sx} (h : Kp reg σ σ2) (k : Kp reg σ2 σ3) : Kp reg σ σ3 := fun i j hr => ⟨(k i j hr).1.trans (h i j hr).1, (k i j hr).2.trans (h i j hr).2⟩
theorem Kp.I {reg : Nat → Nat → Prop} {σ σ2 : Sx} {a b : Nat} {v : Int32} (h : Kp reg σ σ2) (hr : reg a b) : Kp reg σ (upI σ2 a b v) := fun i j hn => by
  have : ¬ (i = a ∧ j = b) := fun ⟨e1, e2⟩ => hn (e1 ▸ e2 ▸ hr)
  exact ⟨by rw [uI, if_neg this]; exact (h i j hn).1, (h i j hn).2⟩
theorem Kp.L {reg : Nat → Nat → Prop} {σ σ2 : Sx} {a b : Nat} {v : Int64} (h : Kp reg σ σ2) (hr : reg a b) : Kp reg σ (upL σ2 a b v) := fun i j hn => by
  have : ¬ (i = a ∧ j = b) := fun ⟨e1, e2⟩ => hn (e1 ▸ e2 ▸ hr)
  exact ⟨(h i j hn).1, by rw [uL, if_neg this]; exact (h i j hn).2⟩
/-- a row of longs becomes another -/
def roL (σ : Sx) (i : Nat) (f : Nat → Int64) : Sx := (σ.1, fun a => if a = i then f else σ.2 a)
theorem roL_L (σ : Sx) (i : Nat) (f : Nat → Int64) (a b : Nat) : siL (roL σ i f) a b = if a = i then f b else siL σ a b := by
  unfold siL roL
  by_cases h : a = i <;> simp [h]
theorem roL_I (σ : Sx) (i : Nat) (f : Nat → Int64) (a b : Nat) : siI (roL σ i f) a b = siI σ a b := rfl
theorem roL_up {σ : Sx} {i k : Nat} {f g : Nat → Int64} {v : Int64} (h : ∀ j, g j = if j = k then v else f j) : upL (roL σ i f) i k v = roL σ i g := by
  unfold upL roL
  refine Prod.ext rfl ?_
  funext a b
  by_cases h1 : a = i
  · subst h1
    simp [h b]
  · simp [h1]
theorem roL_self {σ : Sx} {i : Nat} {f : Nat → Int64} (h : ∀ j, f j = siL σ i j) : roL σ i f = σ := by
  unfold roL
  refine Prod.ext rfl ?_
  funext a
  by_cases h1 : a = i
  · subst h1
    show (if a = a then f else σ.2 a) = σ.2 a
    rw [if_pos rfl]
    funext b
    exact h b
  · show (if a = i then f else σ.2 a) = σ.2 a
    rw [if_neg h1]
theorem ofN (n : Nat) : Int32.ofNat n = nI n := rfl
theorem Kp.roL {reg : Nat → Nat → Prop} {σ σ2 : Sx} {a : Nat} {f : Nat → Int64} (h : Kp reg σ σ2) (hr : ∀ b, reg a b) : Kp reg σ (roL σ2 a f) := fun i j hn => by
  have : ¬ i = a := fun e => hn (e ▸ hr j)
  exact ⟨(h i j hn).1, by rw [roL_L, if_neg this]; exact (h i j hn).2⟩
theorem lpx1_s {α : Type} (B : (Int32 → Sx → Option α) → Int32 → Sx → Option α) (n : Nat) (x : Int32) (σ : Sx) : lpx1 B (n + 1) x σ = B (lpx1 B n) x σ := rfl
theorem lpx2_s {α : Type} (B : (Int32 → Int32 → Sx → Option α) → Int32 → Int32 → Sx → Option α) (n : Nat) (x y : Int32) (σ : Sx) : lpx2 B (n + 1) x y σ = B (lpx2 B n) x y σ := rfl
theorem lpx3_s {α : Type} (B : (Int32 → Int32 → Int32 → Sx → Option α) → Int32 → Int32 → Int32 → Sx → Option α) (n : Nat) (x y z : Int32) (σ : Sx) : lpx3 B (n + 1) x y z σ = B (lpx3 B n) x y z σ := rfl
/-- Arrays.fill over longs -/
theorem fillL {N i0 n0 : Nat} {v : Int64} (hn : n0 < 2 ^ 31) (hN : n0 < N) (σ : Sx) : F_J7_fill_d0a16 N i0 n0 v σ = some ((), roL σ i0 (fun j => if j < n0 then v else siL σ i0 j)) := by
  have key : ∀ (d n i : Nat), i + d = n0 → d < n → lpx1 (B_J7_fill_d0a16_L6 N i0 n0 v) n (nI i) (roL σ i0 (fun j => if j < i then v else siL σ i0 j)) = some ((), roL σ i0 (fun j => if j < n0 then v else siL σ i0 j)) := by
    intro d
    induction d with
    | zero =>
      intro n i h1 h2
      obtain ⟨n, rfl⟩ : ∃ k, n = k + 1 := ⟨n - 1, by omega⟩
      have : i = n0 := by omega
      subst this
      rw [lpx1_s, B_J7_fill_d0a16_L6, ofN, if_pos (nI_le (Nat.le_refl _) hn)]
    | succ d ih =>
      intro n i h1 h2
      obtain ⟨n, rfl⟩ : ∃ k, n = k + 1 := ⟨n - 1, by omega⟩
      rw [lpx1_s, B_J7_fill_d0a16_L6, ofN, if_neg (nI_ge (show i < n0 by omega) hn), sLx_k (by omega) hn, nI_add1]
      rw [roL_up (g := fun j => if j < i + 1 then v else siL σ i0 j) (fun j => by
        by_cases h : j = i
        · subst h
          simp
        · by_cases h2 : j < i
          · simp [h, h2, Nat.lt_succ_of_lt h2]
          · simp [h, h2, show ¬ j < i + 1 by omega])]
      exact ih n (i + 1) (by omega) (by omega)
  have := key n0 N 0 (by omega) hN
  rw [roL_self (fun j => by simp)] at this
  exact this
def regS (i j : Nat) : Prop := (i = 8 ∧ j = 0) ∨ i = 101 ∨ (10 ≤ i ∧ i < 22) ∨ (i = 103 ∧ j = 49) ∨ i = 133 ∨ (135 ≤ i ∧ i ≤ 138)
def StI (Rl : Sx → Prop) (reg : Nat → Nat → Prop) (σ : Sx) (A : Option (Int32 × Sx)) (B : Sx → Option (Int32 × Sx)) : Prop := ∃ r σ1 σ2, A = some (r, σ1) ∧ B σ1 = some (r, σ2) ∧ Rl σ2 ∧ Kp reg σ σ2
def StL (Rl : Sx → Prop) (reg : Nat → Nat → Prop) (σ : Sx) (A : Option (Int64 × Sx)) (B : Sx → Option (Int64 × Sx)) : Prop := ∃ r σ1 σ2, A = some (r, σ1) ∧ B σ1 = some (r, σ2) ∧ Rl σ2 ∧ Kp reg σ σ2
/-- a shelf k is laid anew, the others stay -/
theorem RelS_shelf {σ σ2 : Sx} {k : Nat} (nb : Nat) (hk : k < 6) (h : RelS σ) (hnb : siI σ 8 0 = nI nb) (hnb2 : nb < 2 ^ 31) (hb : ∀ i j, (i = 8 ∧ j = 0) ∨ i = 101 ∨ (i = 103 ∧ j = 49) ∨ i = 133 → siI σ2 i j = siI σ i j) (ho : ∀ q, q < 6 → q ≠ k → siI σ2 135 q = siI σ 135 q ∧ siI σ2 136 q = siI σ 136 q ∧ (∀ j, siI σ2 (10 + q) j = siI σ (10 + q) j) ∧ (∀ j, siL σ2 (16 + q) j = siL σ (16 + q) j) ∧ ∀ j, j < 60 → siL σ2 137 (60 * q + j) = siL σ 137 (60 * q + j)) (hs : ShR σ2 nb k) : RelS σ2 := by
  obtain ⟨nb', h0, h1, h2, h3, h4⟩ := h
  have : nb' = nb := (nI_eq (by omega) hnb2).mp (h1.symm.trans hnb)
  subst this
  refine ⟨nb', h0, by rw [hb _ _ (Or.inl ⟨rfl, rfl⟩)]; exact h1, by rw [hb _ _ (Or.inr (Or.inr (Or.inl ⟨rfl, rfl⟩)))]; exact h2, fun j hj => ?_, fun q hq => ?_⟩
  · obtain ⟨a, g1, g2, g3⟩ := h3 j hj
    exact ⟨a, g1, by rw [hb _ _ (Or.inr (Or.inl rfl))]; exact g2, by rw [hb _ _ (Or.inr (Or.inr (Or.inr rfl)))]; exact g3⟩
  · by_cases hqk : q = k
    · subst hqk
      exact hs
    · obtain ⟨o1, o2, o3, o4, o5⟩ := ho q hq hqk
      rcases h4 q hq with ⟨g1, g2⟩ | ⟨b, g0, g1, g2, g3⟩ | ⟨t, z, g1, g2, g3, g4, g5, g6, g7⟩
      · exact Or.inl ⟨o1.trans g1, (o3 0).trans g2⟩
      · exact Or.inr (Or.inl ⟨b, g0, o1.trans g1, (o3 0).trans g2, by rw [o3, hb _ _ (Or.inr (Or.inr (Or.inr rfl)))]; exact g3⟩)
      · exact Or.inr (Or.inr ⟨t, z, g1, g2, o1.trans g3, (o3 0).trans g4, (o3 1).trans g5, o2.trans g6, fun j hj => by rw [o4, o5 j hj]; exact g7 j hj⟩)
