/-! THE WHOLE: a fresh object -/
def W00 : Wd := fun a _ => if a = 7 then 5 else 0
theorem okW0 : okW W00 := by
  refine ⟨Nat.zero_le _, fun w hw => absurd hw (Nat.not_lt_zero _), fun w _ => rfl, fun i _ => ⟨fun h => absurd h (Nat.not_lt_zero _), fun _ => rfl⟩, fun i _ k hk => absurd hk (Nat.not_lt_zero _), fun p q _ _ _ => ⟨show 1 ≤ 5 by decide, show 5 ≤ 30 by decide⟩⟩
theorem s0_at (i : Nat) : (fun j => siI s0 i j) = s0I i := rfl
theorem cW0 : cW W00 s0 := by
  refine ⟨rfl, fun w hw => absurd hw (Nat.not_lt_zero _), fun w _ => rfl, fun i hi => ?_, fun i _ k hk => absurd hk (Nat.not_lt_zero _), fun p q hp hq _ => ?_⟩
  · rfl
  · have : ∀ p, p < 8 → ∀ q, q < 8 → siI s0 (27 + p) q = nI 5 := by decide +kernel
    exact this p hp q hq
theorem mW0 : mW W00 s0 := by
  refine ⟨rfl, fun w hw => absurd hw (Nat.not_lt_zero _), fun i _ h => absurd h (Nat.not_lt_zero _), fun i _ k hk => absurd hk (Nat.not_lt_zero _), fun p q hp hq hpq => ?_⟩
  have : ∀ p, p < 8 → ∀ q, q < 8 → p ≠ q → siI s0 110 (8 * p + q) = nI 5 := by decide +kernel
  exact this p hp q hq hpq
/-- the law of a fresh object: n -/
def K00 : List Ln := [([], [(2, 0)])]
theorem okK0 : ∀ l, l ∈ K00 → okL l := fun l hl => by
  unfold K00 at hl
  rw [List.mem_singleton] at hl
  subst hl
  exact ⟨Or.inl rfl, _, Ex.nam (by decide)⟩
theorem cC0 : cC K00 s0 := by
  refine ⟨rfl, fun j hj => ?_⟩
  have : ∀ j, j < 2 → siI s0 81 j = (cdL K00).getD j 0 := by decide +kernel
  exact this j hj
theorem Ex.one {i : Nat} {E : List Tk} {v : (Nat → Int32) → Int32} (h : Ex E v) : E = [(2, i)] → ∀ e, v e = e i := by
  refine h (fun E v => E = [(2, i)] → ∀ e, v e = e i) ?_ ?_ ?_ ?_ ?_
  · intro x _ q e
    simp at q
  · intro x _ q e
    simp at q
    rw [q]
  · intro E v _ q e
    have := congrArg List.getLast? q
    simp at this
  · intro E v _ q e
    have := congrArg List.getLast? q
    simp at this
  · intro o E1 v1 E2 v2 ho _ _ q e
    have := congrArg List.getLast? q
    simp at this
    unfold isOp at ho
    omega
theorem G0 (s k l w m : Nat) : GL K00 s k l w m = nI (pcN s) := by
  have h : Ex [(2, 0)] (vlE [(2, 0)]) := vlE_ok ⟨_, Ex.nam (by decide)⟩
  show evL K00 (envL s k l w m) = _
  unfold K00
  rw [evL, if_pos rfl]
  show vlE [(2, 0)] (envL s k l w m) = _
  rw [h.one rfl]
  rfl
theorem rel0 {N : Nat} (hN : 130 < N) : RelA N s0 := by
  refine ⟨⟨W00, GL K00, nmL K00, okW0, cW0, mW0, LC_of hN okK0 (by decide) cC0, fun σ1 q => Or.inl ⟨?_, fun s k l w m _ => G0 s k l w m⟩, LN_of hN okK0 (by decide) cC0, Or.inl rfl, rfl, rfl, ⟨0, 0, by decide, rfl, rfl, rfl, rfl, fun j hj => absurd hj (Nat.not_lt_zero _)⟩⟩, ⟨?_, fun j _ => rfl, rfl, Or.inl rfl⟩, ⟨0, Nat.zero_le _, rfl, rfl, fun j hj => absurd hj (Nat.not_lt_zero _)⟩, ⟨[], by decide, ⟨rfl, fun j hj => absurd hj (Nat.not_lt_zero _)⟩, rfl, fun j hj => absurd hj (Nat.not_lt_zero _)⟩, ⟨0, by decide, rfl, rfl, fun j hj => absurd hj (Nat.not_lt_zero _), fun k hk => Or.inl ?_⟩⟩
  · rw [q 103 28 (by unfold lmR; omega)]
    rfl
  · have : ∀ j, j < 4 → siI s0 94 j = siI s0 131 j := by decide +kernel
    exact this
  · have : ∀ k, k < 6 → siI s0 135 k = -1 ∧ siI s0 (10 + k) 0 = -1 := by decide +kernel
    exact this k hk
