/-! THE TWO READERS OF A LAW: figures -/
def dv (n : Nat) (B : Nat → Nat) (p : Nat) : Nat → Nat
  | 0 => 0
  | k + 1 => 10 * dv n B p k + (sy n B (p + k) - 48)
/-- how many figures are read -/
def fgN (n : Nat) (B : Nat → Nat) (p : Nat) : Nat := fsN 4 (fun j => decide (dgS (sy n B (p + j)) = 0))
set_option maxRecDepth 100000 in
theorem dg_facts : ∀ s, s < 129 → (dgS s = 0 ∧ ¬ (48 ≤ s ∧ s ≤ 57)) ∨ (dgS s = 1 ∧ 48 ≤ s ∧ s ≤ 57 ∧ nmS s = 0 ∧ nmV s < 0) := by decide
theorem fgN_dg {n : Nat} {B : Nat → Nat} {p k : Nat} (h : k < fgN n B p) : dgS (sy n B (p + k)) = 1 := by
  rcases dg_facts _ (sy_lt n B (p + k)) with ⟨q, -⟩ | ⟨q, -⟩
  · exfalso
    have := fsN_lt (n := 4) (f := fun j => decide (dgS (sy n B (p + j)) = 0)) h
    simp [q] at this
  · exact q
theorem dv_lt {n : Nat} {B : Nat → Nat} {p : Nat} : ∀ k, k ≤ fgN n B p → dv n B p k < 10 ^ k := by
  intro k
  induction k with
  | zero => intro _; exact Nat.one_pos
  | succ k ih =>
    intro h
    have h1 := ih (by omega)
    have h2 := fgN_dg (n := n) (B := B) (p := p) (k := k) (by omega)
    rcases dg_facts _ (sy_lt n B (p + k)) with ⟨q, -⟩ | ⟨q, q1, q2, -⟩
    · rw [q] at h2
      exact absurd h2 (by decide)
    · rw [dv, Nat.pow_succ]
      omega
theorem fgN_4 (n : Nat) (B : Nat → Nat) (p : Nat) : fgN n B p ≤ 4 := fsN_le 4 _
theorem fgN_end {n : Nat} {B : Nat → Nat} {p : Nat} (h : fgN n B p < 4) : dgS (sy n B (p + fgN n B p)) = 0 := by
  have := fsN_at (n := 4) (f := fun j => decide (dgS (sy n B (p + j)) = 0)) h
  exact of_decide_eq_true this
theorem fgN_in {n : Nat} {B : Nat → Nat} {p : Nat} (hp : p ≤ n) : p + fgN n B p ≤ n := by
  rcases Nat.eq_zero_or_pos (fgN n B p) with h | h
  · omega
  · have := fgN_dg (n := n) (B := B) (p := p) (k := fgN n B p - 1) (by omega)
    have h2 := (dg_rk _ (sy_lt n B _) this).2.2.2.2
    have := sy_in h2
    omega
theorem dv_step {n : Nat} {B : Nat → Nat} {p k : Nat} (h : k < fgN n B p) : 48 ≤ 10 * dv n B p k + sy n B (p + k) ∧ 10 * dv n B p k + sy n B (p + k) - 48 = dv n B p (k + 1) ∧ sy n B (p + k) < 128 := by
  have h2 := fgN_dg h
  rcases dg_facts _ (sy_lt n B (p + k)) with ⟨q, -⟩ | ⟨q, q1, q2, -⟩
  · rw [q] at h2
    exact absurd h2 (by decide)
  · rw [dv]
    omega
theorem C_num {n : Nat} {B : Nat → Nat} {N p : Nat} {D : List Int32} {σ : Sx} (hn : n ≤ 120) (hN : 130 < N) (hB : ∀ j, j < n → B j < 256) (h : SC n B p D σ) (hp : p ≤ n) (hl : D.length < 121) : ∃ σ', F_X4_number N σ = some ((), σ') ∧ Kp rgPc σ σ' ∧ SC n B (p + fgN n B p) (D ++ [nI (dv n B p (fgN n B p))]) σ' := by
  have h4 := fgN_4 n B p
  have hin := fgN_in (n := n) (B := B) hp
  unfold F_X4_number
  rw [nmx_s]
  refine lp2U (Q := fun o => ∃ σ', o = some ((), σ') ∧ Kp rgPc σ σ' ∧ SC n B (p + fgN n B p) (D ++ [nI (dv n B p (fgN n B p))]) σ') 4 (fun k x σx => k ≤ fgN n B p ∧ x = nI (dv n B p k) ∧ Kp rgPc σ σx ∧ SC n B (p + k) D σx) ?_ (i := 0) (Nat.zero_le _) (by omega) ⟨Nat.zero_le _, rfl, Kp.rf, h⟩
  rintro r k x σx hk ⟨hkm, rfl, kx, sx⟩
  have stop : k = fgN n B p → ∃ σ', (fun (x1 : Int32) (σ1 : Sx) => clx (F_X4_emit x1 σ1) (fun _ σ2 => some ((), σ2))) (nI (dv n B p k)) σx = some ((), σ') ∧ Kp rgPc σ σ' ∧ SC n B (p + fgN n B p) (D ++ [nI (dv n B p (fgN n B p))]) σ' := fun e => by
    subst e
    obtain ⟨σ9, g1, g2, g3⟩ := C_emit (nI (dv n B p (fgN n B p))) sx hl
    exact ⟨σ9, by dsimp only; rw [g1, clx_s], kx.tr g2, g3⟩
  unfold B_X4_number_L4
  rw [show (4 : Int32) = nI 4 from rfl, ite_le (by decide) (by omega)]
  by_cases q4 : 4 ≤ k
  · left
    rw [if_pos q4]
    exact stop (by omega)
  · rw [if_neg q4, C_next hn sx.1 sx.2.1 (by omega), clx_s, C_dg (Vs_C hB (p + k)), clx_s]
    by_cases qm : k < fgN n B p
    · right
      obtain ⟨t1, t2, t3⟩ := dv_step qm
      have hch : chC n B (p + k) = nI (sy n B (p + k)) := by
        rcases Vs_C hB (p + k) with ⟨-, z⟩ | ⟨z, -⟩
        · exact z
        · omega
      obtain ⟨c1, c2⟩ := C_at (p2 := p + (k + 1)) sx
      rw [fgN_dg qm, if10, C_next hn sx.1 sx.2.1 (by omega), clx_s, nmx_s, sx.2.1, hch, mul10R, nI_add, nI_add1, pIx_s, nI_add1, show (48 : Int32) = nI 48 from rfl, pk_sub (by omega)]
      exact ⟨by omega, _, _, ⟨by omega, by rw [Nat.mul_comm, t2], kx.tr c2, c1⟩, rfl⟩
    · left
      have e : k = fgN n B p := by omega
      rw [show dgS (sy n B (p + k)) = 0 by rw [e]; exact fgN_end (by omega), if_pos rfl]
      exact stop e
theorem M_fig {n : Nat} {B : Nat → Nat} {N p q : Nat} {L : List Tk} {σ : Sx} (hn : n ≤ 120) (hN : 130 < N) (hB : ∀ j, j < n → B j < 256) (h : SM n B p q L σ) (hp : p ≤ n) : ∃ σ1, Kp rgPm σ σ1 ∧ SM n B (p + fgN n B p) q L σ1 ∧ F_X10_figure N σ = (if fgN n B p = 0 ∨ dgS (sy n B (p + fgN n B p)) = 1 then clx (F_X10_faulty σ1) (fun _ σ5 => clx (F_X10_addStep (nI 1) (nI (dv n B p (fgN n B p))) σ5) (fun _ σ3 => some ((), σ3))) else clx (F_X10_addStep (nI 1) (nI (dv n B p (fgN n B p))) σ1) (fun _ σ3 => some ((), σ3))) := by
  have h4 := fgN_4 n B p
  have hin := fgN_in (n := n) (B := B) hp
  unfold F_X10_figure
  rw [nmx_s]
  refine lp2U (Q := fun o => ∃ σ1, Kp rgPm σ σ1 ∧ SM n B (p + fgN n B p) q L σ1 ∧ o = (if fgN n B p = 0 ∨ dgS (sy n B (p + fgN n B p)) = 1 then clx (F_X10_faulty σ1) (fun _ σ5 => clx (F_X10_addStep (nI 1) (nI (dv n B p (fgN n B p))) σ5) (fun _ σ3 => some ((), σ3))) else clx (F_X10_addStep (nI 1) (nI (dv n B p (fgN n B p))) σ1) (fun _ σ3 => some ((), σ3)))) 4 (fun k x σx => k ≤ fgN n B p ∧ x = nI (dv n B p k) ∧ Kp rgPm σ σx ∧ SM n B (p + k) q L σx) ?_ (i := 0) (Nat.zero_le _) (by omega) ⟨Nat.zero_le _, rfl, Kp.rf, h⟩
  rintro r k x σx hk ⟨hkm, rfl, kx, sx⟩
  have stop : k = fgN n B p → ∃ σ1, Kp rgPm σ σ1 ∧ SM n B (p + fgN n B p) q L σ1 ∧ (if nI k = 0 then clx (F_X10_faulty σx) (fun _ σ5 => clx (F_X10_addStep (1 : Int32) (nI (dv n B p k)) σ5) (fun _ σ3 => some ((), σ3))) else clx (F_X10_looksOn σx) (fun v1 σ6 => clx (F_X10_in v1 (48 : Int32) (57 : Int32) σ6) (fun v2 σ7 => (if v2 = 0 then clx (F_X10_addStep (1 : Int32) (nI (dv n B p k)) σ7) (fun _ σ3 => some ((), σ3)) else clx (F_X10_faulty σ7) (fun _ σ5 => clx (F_X10_addStep (1 : Int32) (nI (dv n B p k)) σ5) (fun _ σ3 => some ((), σ3))))))) = (if fgN n B p = 0 ∨ dgS (sy n B (p + fgN n B p)) = 1 then clx (F_X10_faulty σ1) (fun _ σ5 => clx (F_X10_addStep (nI 1) (nI (dv n B p (fgN n B p))) σ5) (fun _ σ3 => some ((), σ3))) else clx (F_X10_addStep (nI 1) (nI (dv n B p (fgN n B p))) σ1) (fun _ σ3 => some ((), σ3))) := fun e => by
    subst e
    refine ⟨σx, kx, sx, ?_⟩
    rw [ite_eq0 (by omega)]
    by_cases z : fgN n B p = 0
    · rw [if_pos z, if_pos (Or.inl z)]
      rfl
    · rw [if_neg z, M_looks hn sx.1 sx.2.1 (by omega), clx_s, M_dg (Vs_M hB _), clx_s]
      rcases dg_facts _ (sy_lt n B (p + fgN n B p)) with ⟨w, -⟩ | ⟨w, -⟩
      · rw [w, if_pos rfl, if_neg (fun z2 => z2.elim z (by decide))]
        rfl
      · rw [w, if10, if_pos (Or.inr rfl)]
        rfl
  unfold B_X10_figure_L4
  rw [show (4 : Int32) = nI 4 from rfl, ite_le (by decide) (by omega)]
  by_cases q4 : 4 ≤ k
  · left
    rw [if_pos q4]
    exact stop (by omega)
  · rw [if_neg q4, M_looks hn sx.1 sx.2.1 (by omega), clx_s, M_dg (Vs_M hB (p + k)), clx_s]
    by_cases qm : k < fgN n B p
    · right
      obtain ⟨t1, t2, t3⟩ := dv_step qm
      have hch : chM n B (p + k) = nI (sy n B (p + k)) := by
        rcases Vs_M hB (p + k) with ⟨-, z⟩ | ⟨z, -⟩
        · exact z
        · omega
      obtain ⟨c1, c2⟩ := M_at (p2 := p + (k + 1)) sx
      rw [fgN_dg qm, if10, M_looks hn sx.1 sx.2.1 (by omega), clx_s, nmx_s, sx.2.1, hch, mul10L, nI_add, nI_add1, pIx_s, nI_add1, show (48 : Int32) = nI 48 from rfl, pk_sub (by omega)]
      exact ⟨by omega, _, _, ⟨by omega, by rw [t2], kx.tr c2, c1⟩, rfl⟩
    · left
      have e : k = fgN n B p := by omega
      rw [show dgS (sy n B (p + k)) = 0 by rw [e]; exact fgN_end (by omega), if_pos rfl]
      exact stop e
