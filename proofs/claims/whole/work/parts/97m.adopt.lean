/-! THE TWO READERS OF A LAW: the law in force -/
/-- the lines as they lie in the class, and in the reference -/
def cC (Ls : List Ln) (σ : Sx) : Prop := siI σ 2 6 = nI (cdL Ls).length ∧ ∀ j, j < (cdL Ls).length → siI σ 81 j = (cdL Ls).getD j 0
def cM (Ls : List Ln) (σ : Sx) : Prop := siI σ 118 0 = nI Ls.length ∧ (∀ j, j < (spL Ls).length → siI σ 116 j = nI ((spL Ls).getD j (0, 0)).1 ∧ siI σ 117 j = nI ((spL Ls).getD j (0, 0)).2) ∧ mkL 0 Ls σ
theorem cC.of {Ls : List Ln} {σ σ2 : Sx} (h : cC Ls σ) (e : ∀ i j, lcR i j → siI σ2 i j = siI σ i j) : cC Ls σ2 := by
  refine ⟨?_, fun j hj => ?_⟩
  · rw [e 2 6 (by unfold lcR; omega)]
    exact h.1
  · rw [e 81 j (by unfold lcR; omega)]
    exact h.2 j hj
def okTk (t : Tk) : Prop := (t.1 = 1 ∧ t.2 < 10000) ∨ (t.1 = 2 ∧ t.2 < 6) ∨ t.1 = 3 ∨ t.1 = 4 ∨ isOp t.1
theorem Ex.tok {E : List Tk} {v : (Nat → Int32) → Int32} (h : Ex E v) : ∀ t, t ∈ E → okTk t := by
  refine h (fun E _ => ∀ t, t ∈ E → okTk t) ?_ ?_ ?_ ?_ ?_
  · intro x hx t ht
    rw [List.mem_singleton] at ht
    subst ht
    exact Or.inl ⟨rfl, hx⟩
  · intro x hx t ht
    rw [List.mem_singleton] at ht
    subst ht
    exact Or.inr (Or.inl ⟨rfl, hx⟩)
  · intro E _ ih t ht
    rcases List.mem_append.mp ht with ht | ht
    · exact ih t ht
    · rw [List.mem_singleton] at ht
      subst ht
      exact Or.inr (Or.inr (Or.inl rfl))
  · intro E _ ih t ht
    rcases List.mem_append.mp ht with ht | ht
    · exact ih t ht
    · rw [List.mem_singleton] at ht
      subst ht
      exact Or.inr (Or.inr (Or.inr (Or.inl rfl)))
  · intro o E1 _ E2 _ ho i1 i2 t ht
    rcases List.mem_append.mp ht with ht | ht
    · rcases List.mem_append.mp ht with ht | ht
      · exact i1 t ht
      · exact i2 t ht
    · rw [List.mem_singleton] at ht
      subst ht
      exact Or.inr (Or.inr (Or.inr (Or.inr ho)))
theorem okTk.lt {t : Tk} (h : okTk t) : t.1 < 128 := by
  unfold okTk isOp at h
  omega
theorem spL_tok {Ls : List Ln} (h : ∀ l, l ∈ Ls → okL l) : ∀ t, t ∈ spL Ls → okTk t := by
  intro t ht
  unfold spL at ht
  obtain ⟨l, hl, ht⟩ := List.mem_flatMap.mp ht
  obtain ⟨h1, v2, h2⟩ := h l hl
  rcases List.mem_append.mp ht with ht | ht
  · rcases h1 with h1 | ⟨v, h1⟩
    · rw [h1] at ht
      cases ht
    · exact h1.tok t ht
  · exact h2.tok t ht
theorem spL_at {Ls : List Ln} (h : ∀ l, l ∈ Ls → okL l) {j : Nat} (hj : j < (spL Ls).length) : ((spL Ls).getD j (0, 0)).1 < 128 := by
  refine (spL_tok h _ ?_).lt
  have e : (spL Ls).getD j (0, 0) = (spL Ls)[j] := by simp [List.getD, hj]
  rw [e]
  exact List.getElem_mem hj
theorem spL_take (Ls : List Ln) {i : Nat} (hi : i < Ls.length) : (spL (Ls.take i)).length + ((Ls.getD i ([], [])).1.length + (Ls.getD i ([], [])).2.length) ≤ (spL Ls).length := by
  have e : Ls = Ls.take i ++ (Ls.getD i ([], []) :: Ls.drop (i + 1)) := by
    have e2 : Ls.getD i ([], []) = Ls[i] := by simp [List.getD, hi]
    rw [e2, ← List.drop_eq_getElem_cons hi, List.take_append_drop]
  have e3 : (spL Ls).length = (spL (Ls.take i ++ (Ls.getD i ([], []) :: Ls.drop (i + 1)))).length := by rw [← e]
  rw [e3]
  unfold spL
  rw [List.flatMap_append, List.flatMap_cons, List.length_append, List.length_append, List.length_append]
  omega
def rgAo (i j : Nat) : Prop := (i = 2 ∧ (j = 0 ∨ j = 2 ∨ j = 4 ∨ j = 6)) ∨ i = 80 ∨ i = 81
def rgAb (i j : Nat) : Prop := (i = 2 ∧ (j = 0 ∨ j = 2 ∨ j = 4)) ∨ i = 80
def rgRo (i j : Nat) : Prop := (i = 103 ∧ 16 ≤ j ∧ j ≤ 20) ∨ (116 ≤ i ∧ i ≤ 120)
def rgRb (i j : Nat) : Prop := (i = 103 ∧ 16 ≤ j ∧ j ≤ 20) ∨ (116 ≤ i ∧ i ≤ 117 ∧ 130 ≤ j) ∨ (i = 118 ∧ j = 1) ∨ (119 ≤ i ∧ i ≤ 120 ∧ 61 ≤ j)
theorem Kp.pl {σ σ2 : Sx} (k : Kp rgPl σ σ2) : Kp rgRb σ σ2 := k.le (fun i j q => by unfold rgPl rgPm at q; unfold rgRb; omega)
theorem Kp.bo {σ σ2 : Sx} (k : Kp rgRb σ σ2) : Kp rgRo σ σ2 := k.le (fun i j q => by unfold rgRb at q; unfold rgRo; omega)
theorem Kp.pc {σ σ2 : Sx} (k : Kp rgPc σ σ2) : Kp rgAb σ σ2 := k.le (fun i j q => by unfold rgPc at q; unfold rgAb; omega)
theorem Kp.ab {σ σ2 : Sx} (k : Kp rgAb σ σ2) : Kp rgAo σ σ2 := k.le (fun i j q => by unfold rgAb at q; unfold rgAo; omega)
theorem C_bgn {n : Nat} {B : Nat → Nat} {σ : Sx} (h : TTc n B σ) : SC n B 0 [] (upI (upI σ 2 2 (nI 0)) 2 4 (nI 0)) ∧ Kp rgAb σ (upI (upI σ 2 2 (nI 0)) 2 4 (nI 0)) := by
  have k : Kp rgPc σ (upI (upI σ 2 2 (nI 0)) 2 4 (nI 0)) := (Kp.rf.I (by unfold rgPc; omega)).I (by unfold rgPc; omega)
  refine ⟨⟨h.kp k, ?_, uI_s, fun j hj => absurd hj (Nat.not_lt_zero _)⟩, k.pc⟩
  rw [uI_j (by decide), uI_s]
theorem cpI {σ : Sx} {a c na nc n : Nat} {α : Type} (K : Sx → Option α) (h1 : n ≤ na) (h2 : n ≤ nc) (hn : n < 2 ^ 31) : ∃ σ2, cIx a na (nI 0) c nc (nI 0) (nI n) σ K = K σ2 ∧ Kp (fun i _ => i = c) σ σ2 ∧ ∀ j, j < n → siI σ2 c j = siI σ a j := by
  have e0 : (nI 0).toNatClampNeg = 0 := rfl
  have el : (nI n).toNatClampNeg = n := nI_clamp hn
  unfold cIx
  rw [e0, el, if_pos ⟨nI_pos (by decide), nI_pos (by decide), nI_pos hn, by omega, by omega⟩]
  refine ⟨_, rfl, fun i j q => ⟨?_, rfl⟩, fun j hj => ?_⟩
  · show (if i = c then _ else σ.1 i) j = siI σ i j
    rw [if_neg q]
    rfl
  · show (if c = c then va_cpy (siI σ a) (siI σ c) 0 0 n else σ.1 c) j = _
    rw [if_pos rfl, pk_cpy_in (Nat.zero_le _) (by omega), Nat.zero_add, Nat.sub_zero]
theorem C_adopt_ok {n : Nat} {B : Nat → Nat} {N : Nat} {Ks : List Ln} {σ : Sx} (hn : n ≤ 120) (h : TTc n B σ) (hl : (cdL Ks).length ≤ n + 1) (ht : ∀ D σ, SC n B 0 D σ → D.length ≤ 0 → ∃ σ', F_X4_text N σ = some (1, σ') ∧ Kp rgPc σ σ' ∧ SC n B n (D ++ cdL Ks) σ') : ∃ σ', F_X4_adopt N σ = some (-1, σ') ∧ Kp rgAo σ σ' ∧ siI σ' 2 0 = nI 0 ∧ cC Ks σ' := by
  obtain ⟨s1, k1⟩ := C_bgn h
  obtain ⟨σ3, t1, t2, t3⟩ := ht [] _ s1 (Nat.le_refl _)
  rw [List.nil_append] at t3
  obtain ⟨σ4, c1, c2, c3⟩ := cpI (σ := upI σ3 2 0 (nI 0)) (a := 80) (c := 81) (na := 121) (nc := 121) (n := (cdL Ks).length) (fun σ5 => pIx 2 6 (siI σ5 2 4) σ5 (fun σ6 => some ((-1 : Int32), σ6))) (by omega) (by omega) (by omega)
  unfold F_X4_adopt
  rw [pIx_s, pIx_s, show (0 : Int32) = nI 0 from rfl, t1, clx_s, pIx_s, if_neg (show ¬ (1 : Int32) = nI 0 by decide), uI_j (by decide), t3.2.2.1, c1, pIx_s]
  have k3 : Kp rgAo σ (upI σ3 2 0 (nI 0)) := (k1.tr t2.pc).ab.I (by unfold rgAo; omega)
  refine ⟨_, rfl, (k3.tr (c2.le (fun i j q => by unfold rgAo; omega))).I (by unfold rgAo; omega), ?_, ?_, fun j hj => ?_⟩
  · rw [uI_j (by decide), (c2 2 0 (by decide)).1, uI_s]
  · rw [uI_s, (c2 2 4 (by decide)).1, uI_j (by decide)]
    exact t3.2.2.1
  · rw [uI_i (by decide), c3 j hj, uI_i (by decide)]
    exact t3.2.2.2 j hj
theorem C_adopt_ba {n : Nat} {B : Nat → Nat} {N p' : Nat} {σ : Sx} (h : TTc n B σ) (ht : ∀ D σ, SC n B 0 D σ → D.length ≤ 0 → ∃ σ', F_X4_text N σ = some (0, σ') ∧ Kp rgPc σ σ' ∧ siI σ' 2 2 = nI p') : ∃ σ', F_X4_adopt N σ = some (nI p', σ') ∧ Kp rgAb σ σ' ∧ siI σ' 2 0 = nI 0 := by
  obtain ⟨s1, k1⟩ := C_bgn h
  obtain ⟨σ3, t1, t2, t3⟩ := ht [] _ s1 (Nat.le_refl _)
  unfold F_X4_adopt
  rw [pIx_s, pIx_s, show (0 : Int32) = nI 0 from rfl, t1, clx_s, pIx_s, if_pos (show (0 : Int32) = nI 0 from rfl), uI_j (by decide), t3]
  exact ⟨_, rfl, (k1.tr t2.pc).I (by unfold rgAb; omega), uI_s⟩
