/-! THE LAW IN FORCE: whether it names the lead -/
def nmL (Ls : List Ln) : Bool := (cdL Ls).any (fun c => decide (c = nI 10108))
theorem any_at {L : List Int32} {p : Int32 → Bool} : L.any p = true ↔ ∃ j, j < L.length ∧ p (L.getD j 0) = true := by
  rw [List.any_eq_true]
  constructor
  · rintro ⟨x, hx, hp⟩
    obtain ⟨j, hj, rfl⟩ := List.mem_iff_getElem.mp hx
    refine ⟨j, hj, ?_⟩
    have e : L.getD j 0 = L[j] := by simp [List.getD, hj]
    rw [e]
    exact hp
  · rintro ⟨j, hj, hp⟩
    have e : L.getD j 0 = L[j] := by simp [List.getD, hj]
    rw [e] at hp
    exact ⟨_, List.getElem_mem hj, hp⟩
theorem C_names {N : Nat} {Ls : List Ln} {σ : Sx} (hN : 130 < N) (hl : (cdL Ls).length ≤ 121) (h : cC Ls σ) : F_X4_namesLead N σ = some (b2i (nmL Ls), σ) := by
  unfold F_X4_namesLead
  refine lp1U (Q := fun o => o = some (b2i (nmL Ls), σ)) (cdL Ls).length (fun k σ2 => σ2 = σ ∧ ∀ j, j < k → (cdL Ls).getD j 0 ≠ nI 10108) ?_ (i := 0) (Nat.zero_le _) (by omega) ⟨rfl, fun j hj => absurd hj (Nat.not_lt_zero _)⟩
  rintro r k σ2 hk ⟨rfl, hj⟩
  unfold B_X4_namesLead_L2
  rw [h.1, ite_le (by omega) (by omega)]
  by_cases hlt : (cdL Ls).length ≤ k
  · left
    rw [if_pos hlt]
    have : nmL Ls = false := by
      cases e : nmL Ls
      · rfl
      · obtain ⟨j, j1, j2⟩ := any_at.mp e
        exact absurd (of_decide_eq_true j2) (hj j (by omega))
    rw [this]
    rfl
  · rw [if_neg hlt, aIx_k (by omega) (by decide), h.2 k (by omega), show (10108 : Int32) = nI 10108 from rfl]
    by_cases e : (cdL Ls).getD k 0 = nI 10108
    · left
      rw [if_pos e]
      have : nmL Ls = true := any_at.mpr ⟨k, by omega, decide_eq_true e⟩
      rw [this]
      rfl
    · right
      rw [if_neg e, nI_add1]
      exact ⟨by omega, _, ⟨rfl, fun j hj2 => by
        by_cases ej : j = k
        · subst ej
          exact e
        · exact hj j (by omega)⟩, rfl⟩
theorem Ex.nol {E : List Tk} {v : (Nat → Int32) → Int32} (h : Ex E v) : (2, 3) ∉ E → ∀ e e' : Nat → Int32, (∀ i, i ≠ 3 → e i = e' i) → v e = v e' := by
  refine h (fun E v => (2, 3) ∉ E → ∀ e e' : Nat → Int32, (∀ i, i ≠ 3 → e i = e' i) → v e = v e') ?_ ?_ ?_ ?_ ?_
  · intro x _ _ e e' _
    rfl
  · intro i _ hn e e' he
    refine he i (fun z => hn ?_)
    rw [z]
    exact List.mem_singleton.mpr rfl
  · intro E v ih hn e e' he
    dsimp only
    rw [ih (fun z => hn (List.mem_append.mpr (Or.inl z))) e e' he]
  · intro E v ih hn e e' he
    dsimp only
    rw [ih (fun z => hn (List.mem_append.mpr (Or.inl z))) e e' he]
  · intro o E1 v1 E2 v2 _ i1 i2 hn e e' he
    dsimp only
    rw [i1 (fun z => hn (List.mem_append.mpr (Or.inl (List.mem_append.mpr (Or.inl z))))) e e' he, i2 (fun z => hn (List.mem_append.mpr (Or.inl (List.mem_append.mpr (Or.inr z))))) e e' he]
theorem map_mem {E : List Tk} (h : (2, 3) ∈ E) : nI 10108 ∈ E.map tC := List.mem_map.mpr ⟨(2, 3), h, rfl⟩
theorem nmL_cons {l : Ln} {Ls : List Ln} (h : nmL (l :: Ls) = false) : (2, 3) ∉ l.1 ∧ (2, 3) ∉ l.2 ∧ nmL Ls = false := by
  have key : ∀ c, c ∈ cdL (l :: Ls) → c ≠ nI 10108 := fun c hc e => by
    have : nmL (l :: Ls) = true := List.any_eq_true.mpr ⟨c, hc, decide_eq_true e⟩
    rw [h] at this
    cases this
  rw [cdL_cons] at key
  have k1 : ∀ c, c ∈ cLn l → c ≠ nI 10108 := fun c hc => key c (List.mem_append.mpr (Or.inl hc))
  refine ⟨fun z => ?_, fun z => ?_, ?_⟩
  · refine k1 _ ?_ rfl
    unfold cLn
    rw [if_neg (fun q => by rw [q] at z; cases z)]
    exact List.mem_append.mpr (Or.inl (List.mem_append.mpr (Or.inl (map_mem z))))
  · refine k1 _ ?_ rfl
    unfold cLn
    exact List.mem_append.mpr (Or.inr (List.mem_append.mpr (Or.inl (map_mem z))))
  · cases e : nmL Ls
    · rfl
    · obtain ⟨c, hc, hd⟩ := List.any_eq_true.mp e
      exact absurd (of_decide_eq_true hd) (key c (List.mem_append.mpr (Or.inr hc)))
theorem evL_nol : ∀ (Ls : List Ln), (∀ l, l ∈ Ls → okL l) → nmL Ls = false → ∀ e e' : Nat → Int32, (∀ i, i ≠ 3 → e i = e' i) → evL Ls e = evL Ls e' := by
  intro Ls
  induction Ls with
  | nil => intro _ _ e e' _; rfl
  | cons l Ls ih =>
    intro hK hn e e' he
    obtain ⟨n1, n2, n3⟩ := nmL_cons hn
    obtain ⟨o1, o2⟩ := hK l List.mem_cons_self
    have i3 := ih (fun l2 q => hK l2 (List.mem_cons_of_mem _ q)) n3 e e' he
    have i2 := (vlE_ok o2).nol n2 e e' he
    rw [evL, evL]
    by_cases h1 : l.1 = []
    · rw [if_pos h1, if_pos h1]
      exact i2
    · have i1 := (vlE_ok (o1.resolve_left h1)).nol n1 e e' he
      rw [if_neg h1, if_neg h1, i1, i2, i3]
theorem LN_of {N : Nat} {Ls : List Ln} {σ : Sx} (hN : 130 < N) (hK : ∀ l, l ∈ Ls → okL l) (hl : (cdL Ls).length ≤ 121) (h : cC Ls σ) : LN N (nmL Ls) (GL Ls) σ := ⟨fun σ1 q => C_names hN hl (h.of q), fun hb s k l l2 w m _ _ => evL_nol Ls hK hb _ _ (fun i hi => by
  unfold envL
  rw [if_neg hi, if_neg hi])⟩
