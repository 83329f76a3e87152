/-! THE TWO READERS OF A LAW: one line -/
def rgPl (i j : Nat) : Prop := rgPm i j ∨ (i = 118 ∧ j = 1) ∨ (119 ≤ i ∧ i ≤ 120 ∧ 61 ≤ j)
def rgPk (i j : Nat) : Prop := (i = 118 ∧ j = 1) ∨ (119 ≤ i ∧ i ≤ 120 ∧ 61 ≤ j)
theorem SM.kp {n : Nat} {B : Nat → Nat} {p q : Nat} {L : List Tk} {σ σ2 : Sx} (h : SM n B p q L σ) (k : Kp rgPk σ σ2) : SM n B p q L σ2 := by
  obtain ⟨⟨h0, h1⟩, h2, h3, h4, h5, h6⟩ := h
  refine ⟨⟨?_, fun j hj => ?_⟩, ?_, ?_, ?_, ?_, fun j hj => ?_⟩
  · rw [(k 103 16 (by unfold rgPk; omega)).1]
    exact h0
  · rw [(k 115 j (by unfold rgPk; omega)).1]
    exact h1 j hj
  · rw [(k 103 17 (by unfold rgPk; omega)).1]
    exact h2
  · rw [(k 103 18 (by unfold rgPk; omega)).1]
    exact h3
  · rw [(k 103 19 (by unfold rgPk; omega)).1]
    exact h4
  · rw [(k 103 20 (by unfold rgPk; omega)).1]
    exact h5
  · rw [(k 116 _ (by unfold rgPk; omega)).1, (k 117 _ (by unfold rgPk; omega)).1]
    exact h6 j hj
theorem SF.kp {n : Nat} {B : Nat → Nat} {p kk : Nat} {σ σ2 : Sx} (h : SF n B p kk σ) (k : Kp rgPk σ σ2) : SF n B p kk σ2 := by
  obtain ⟨⟨h0, h1⟩, h2, h3, h4⟩ := h
  refine ⟨⟨?_, fun j hj => ?_⟩, ?_, ?_, ?_⟩
  · rw [(k 103 16 (by unfold rgPk; omega)).1]
    exact h0
  · rw [(k 115 j (by unfold rgPk; omega)).1]
    exact h1 j hj
  · rw [(k 103 17 (by unfold rgPk; omega)).1]
    exact h2
  · rw [(k 103 18 (by unfold rgPk; omega)).1]
    exact h3
  · rw [(k 103 20 (by unfold rgPk; omega)).1]
    exact h4
theorem Kp.pm {σ σ2 : Sx} (k : Kp rgPm σ σ2) : Kp rgPl σ σ2 := k.le (fun _ _ q => Or.inl q)
theorem Kp.pk {σ σ2 : Sx} (k : Kp rgPk σ σ2) : Kp rgPl σ σ2 := k.le (fun _ _ q => Or.inr q)
/-- the M reader between lines -/
def SX (n : Nat) (B : Nat → Nat) (p : Nat) (Ls : List Ln) (σ : Sx) : Prop := SM n B p 0 (spL Ls) σ ∧ siI σ 118 1 = nI Ls.length ∧ mkL 61 Ls σ
theorem Vs.c63 {v : Int32} {s : Nat} (h : Vs v s) : v = (63 : Int32) ↔ s = 63 := h.ne (c := 63) (by decide)
theorem Vs.c59 {v : Int32} {s : Nat} (h : Vs v s) : v = (59 : Int32) ↔ s = 59 := h.ne (c := 59) (by decide)
/-- the end of a line in the M reader -/
def endM (v2 : Int32) (σ3 : Sx) : Option (Unit × Sx) := sIx 120 122 v2 (vp_nar .short (siI σ3 103 20).toInt16.toInt32) σ3 (fun σ4 => aIx 118 2 (1 : Int32) σ4 (fun v3 => sIx 118 2 (1 : Int32) (v3 + (1 : Int32)) σ4 (fun σ5 => some ((), σ5))))
theorem endM_e {c k : Nat} {σ : Sx} (hc : c < 61) (h : siI σ 103 20 = nI k) (hk : k < 256) (h118 : siI σ 118 1 = nI c) : endM (nI (61 + c)) σ = some ((), upI (upI σ 120 (61 + c) (nI k)) 118 1 (nI (c + 1))) := by
  unfold endM
  rw [h, nar_s, t16 k hk, sIx_k (by omega) (by decide), aIx_1 (by decide) (by decide), uI_i (by decide), h118, nI_add1]
  exact sIx_k (k := 1) (by decide) (by decide)
theorem line_M {N c : Nat} {σ : Sx} (h118 : siI σ 118 1 = nI c) (hc : c < 61) {k : Nat} (h : siI σ 103 20 = nI k) (hk : k < 256) : F_X10_line N σ = clx (F_X10_either N (upI σ 119 (61 + c) (nI k))) (fun _ σ2 => (if 0 ≤ (siI σ2 103 18) then endM (nI (61 + c)) σ2 else clx (F_X10_looksOn σ2) (fun v4 σ6 => (if v4 = (63 : Int32) then pIx 103 17 ((siI σ6 103 17) + (1 : Int32)) σ6 (fun σ7 => sIx 119 122 (nI (61 + c)) (vp_nar .short (siI σ7 103 20).toInt16.toInt32) σ7 (fun σ8 => clx (F_X10_either N σ8) (fun _ σ9 => endM (nI (61 + c)) σ9))) else endM (nI (61 + c)) σ6)))) := by
  unfold F_X10_line
  rw [aIx_1 (by decide) (by decide), h118, nmx_s, show (61 : Int32) = nI 61 from rfl, nI_add, h, nar_s, t16 k hk, sIx_k (by omega) (by decide)]
  rfl
