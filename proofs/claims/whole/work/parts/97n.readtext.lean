/-! THE TWO READERS OF A LAW: the reference's lines in force -/
def jT (N : Nat) (σ10 : Sx) : Option (Int32 × Sx) := aIx 118 2 (1 : Int32) σ10 (fun v1 => sIx 118 2 (0 : Int32) v1 σ10 (fun σ11 => lpx1 (B_X10_readText_L177 N (0 : Int32)) N (0 : Int32) σ11))
def jE (N : Nat) (σ8 : Sx) : Option (Int32 × Sx) := pIx 103 16 (0 : Int32) σ8 (fun σ9 => (if (siI σ9 103 18) < 0 then lpx1 (B_X10_readText_L105 N (0 : Int32) (jT N)) N (0 : Int32) σ9 else some ((siI σ9 103 18), σ9)))
def jR (N : Nat) (σ7 : Sx) : Option (Int32 × Sx) := (if 0 ≤ (siI σ7 103 18) then jE N σ7 else (if (siI σ7 103 16) ≤ (siI σ7 103 17) then jE N σ7 else clx (F_X10_faulty σ7) (fun _ σ18 => jE N σ18)))
theorem read_M (N : Nat) (σ : Sx) : F_X10_readText N (0 : Int32) σ = pIx 103 17 (0 : Int32) σ (fun σ1 => pIx 103 18 (-1 : Int32) σ1 (fun σ2 => pIx 103 19 (0 : Int32) σ2 (fun σ3 => pIx 103 20 (0 : Int32) σ3 (fun σ4 => sIx 118 2 (1 : Int32) (0 : Int32) σ4 (fun σ5 => lnM N N (jR N) σ5))))) := rfl
theorem M_bgn {n : Nat} {B : Nat → Nat} {N : Nat} {σ : Sx} (h : TTm n B σ) : ∃ σ5, F_X10_readText N (0 : Int32) σ = lnM N N (jR N) σ5 ∧ Kp rgRb σ σ5 ∧ SX n B 0 [] σ5 := by
  have k1 : Kp rgPm σ (upI (upI (upI (upI σ 103 17 (nI 0)) 103 18 (-1 : Int32)) 103 19 (nI 0)) 103 20 (nI 0)) := (((Kp.rf.I (by unfold rgPm; omega)).I (by unfold rgPm; omega)).I (by unfold rgPm; omega)).I (by unfold rgPm; omega)
  have k2 : Kp rgPk (upI (upI (upI (upI σ 103 17 (nI 0)) 103 18 (-1 : Int32)) 103 19 (nI 0)) 103 20 (nI 0)) (upI (upI (upI (upI (upI σ 103 17 (nI 0)) 103 18 (-1 : Int32)) 103 19 (nI 0)) 103 20 (nI 0)) 118 1 (nI 0)) := Kp.rf.I (by unfold rgPk; omega)
  refine ⟨upI (upI (upI (upI (upI σ 103 17 (nI 0)) 103 18 (-1 : Int32)) 103 19 (nI 0)) 103 20 (nI 0)) 118 1 (nI 0), ?_, (k1.pm.tr k2.pk).pl, SM.kp ⟨h.kp k1, ?_, ?_, ?_, uI_s, fun j hj => absurd hj (Nat.not_lt_zero _)⟩ k2, uI_s, fun i hi => absurd hi (Nat.not_lt_zero _)⟩
  · rw [read_M, pIx_s, pIx_s, pIx_s, pIx_s]
    exact sIx_k (k := 1) (by decide) (by decide)
  · rw [uI_j (by decide), uI_j (by decide), uI_j (by decide), uI_s]
  · rw [uI_j (by decide), uI_j (by decide), uI_s]
  · rw [uI_j (by decide), uI_s]
theorem M_read_ba {n : Nat} {B : Nat → Nat} {N p' : Nat} {σ : Sx} (hn : n ≤ 120) (hp' : p' ≤ n) (h : SFl n B p' σ ∨ (p' < n ∧ ∃ Ls', SX n B p' Ls' σ)) : ∃ σ', jR N σ = some (nI p', σ') ∧ Kp rgRb σ σ' ∧ siI σ' 103 16 = nI 0 := by
  have fin : ∀ σ2 : Sx, siI σ2 103 18 = nI p' → jE N σ2 = some (nI p', upI σ2 103 16 (nI 0)) := fun σ2 q => by
    unfold jE
    rw [pIx_s, uI_j (by decide), q, if_neg (nI_pos (by omega))]
    rfl
  rcases h with ⟨h1, h2⟩ | ⟨hlt, Ls, h⟩
  · refine ⟨_, ?_, Kp.rf.I (by unfold rgRb; omega), uI_s⟩
    unfold jR
    rw [h2, if_pos (nI_pos' (by omega)), fin σ h2]
  · obtain ⟨σ2, f1, f2, f3⟩ := M_fault h.1
    refine ⟨upI σ2 103 16 (nI 0), ?_, f2.pm.pl.I (by unfold rgRb; omega), uI_s⟩
    unfold jR
    rw [h.1.2.2.1, if_neg (by decide), h.1.1.1, h.1.2.1, ite_le (by omega) (by omega), if_neg (by omega), f1, clx_s, fin σ2 f3.2.2.1]
theorem nar_n {k : Nat} (h : k < 256) : vp_nar .short (nI k) = nI k := by
  show (nI k).toInt16.toInt32 = nI k
  exact t16 k h
theorem nar_bn {k : Nat} (h : k < 128) : vp_nar .byte (nI k) = nI k := by
  rw [nar_b]
  exact t8 k h
theorem M_read_ok {n : Nat} {B : Nat → Nat} {N : Nat} {Ks : List Ln} {σ : Sx} (hn : n ≤ 120) (hN : 130 < N) (hK : ∀ l, l ∈ Ks → okL l) (hl : (spL Ks).length ≤ n) (h2 : 2 * Ks.length ≤ n + 1) (h : SX n B n Ks σ) : ∃ σ', jR N σ = some (-1, σ') ∧ Kp rgRo σ σ' ∧ siI σ' 103 16 = nI 0 ∧ cM Ks σ' := by
  have hsp : (spL Ks).length < 128 := by omega
  generalize hσ1 : upI σ 103 16 (nI 0) = σ1
  have k1 : Kp rgRb σ σ1 := by
    rw [← hσ1]
    exact Kp.rf.I (by unfold rgRb; omega)
  have h16 : siI σ1 103 16 = nI 0 := by
    rw [← hσ1, uI_s]
  have g : ∀ i j, ¬ i = 103 → siI σ1 i j = siI σ i j := fun i j q => by
    rw [← hσ1, uI_i q]
  have ej : jR N σ = lpx1 (B_X10_readText_L105 N (0 : Int32) (jT N)) N (nI 0) σ1 := by
    unfold jR
    rw [h.1.2.2.1, if_neg (by decide), h.1.1.1, h.1.2.1, if_pos (nI_le (Nat.le_refl _) (by omega))]
    unfold jE
    rw [pIx_s, uI_j (by decide), h.1.2.2.1, if_pos (by decide), show (0 : Int32) = nI 0 from rfl, hσ1]
  rw [ej]
  have h20 : siI σ1 103 20 = nI (spL Ks).length := by
    rw [← hσ1, uI_j (by decide)]
    exact h.1.2.2.2.2.1
  refine lp1U (Q := fun o => ∃ σ', o = some (-1, σ') ∧ Kp rgRo σ σ' ∧ siI σ' 103 16 = nI 0 ∧ cM Ks σ') (spL Ks).length (fun k σ2 => Kp (fun i j => 116 ≤ i ∧ i ≤ 117 ∧ j < 130) σ1 σ2 ∧ ∀ j, j < k → siI σ2 116 j = nI ((spL Ks).getD j (0, 0)).1 ∧ siI σ2 117 j = nI ((spL Ks).getD j (0, 0)).2) ?_ (i := 0) (Nat.zero_le _) (by omega) ⟨Kp.rf, fun j hj => absurd hj (Nat.not_lt_zero _)⟩
  rintro r k σ2 hk ⟨hk2, hj⟩
  unfold B_X10_readText_L105
  rw [(hk2 103 20 (by omega)).1, h20, ite_le (by omega) (by omega)]
  by_cases hlt : (spL Ks).length ≤ k
  · left
    have : k = (spL Ks).length := by omega
    subst this
    rw [if_pos hlt]
    unfold jT
    have e118 : siI σ2 118 1 = nI Ks.length := by
      rw [(hk2 118 1 (by omega)).1, g 118 1 (by decide)]
      exact h.2.1
    rw [aIx_1 (by decide) (by decide), e118, sIx_0 (by decide) (by decide)]
    generalize hσ3 : upI σ2 118 0 (nI Ks.length) = σ3
    have k3 : Kp rgRo σ σ3 := by
      rw [← hσ3]
      exact (k1.bo.tr (hk2.le (fun i j q => by unfold rgRo; omega))).I (by unfold rgRo; omega)
    have g3 : ∀ i j, ¬ i = 118 → siI σ3 i j = siI σ2 i j := fun i j q => by
      rw [← hσ3, uI_i q]
    have m3 : mkL 61 Ks σ3 := h.2.2.of (fun i hi => ⟨by rw [g3 119 _ (by decide), (hk2 119 _ (by omega)).1, g 119 _ (by decide)], by rw [g3 120 _ (by decide), (hk2 120 _ (by omega)).1, g 120 _ (by decide)]⟩)
    have e3 : siI σ3 118 0 = nI Ks.length := by
      rw [← hσ3, uI_s]
    refine lp1U (Q := fun o => ∃ σ', o = some (-1, σ') ∧ Kp rgRo σ σ' ∧ siI σ' 103 16 = nI 0 ∧ cM Ks σ') Ks.length (fun k σ4 => Kp (fun i j => 119 ≤ i ∧ i ≤ 120 ∧ j < 61) σ3 σ4 ∧ ∀ i, i < k → siI σ4 119 (0 + i) = nI ((spL (Ks.take i)).length + (Ks.getD i ([], [])).1.length) ∧ siI σ4 120 (0 + i) = nI ((spL (Ks.take i)).length + ((Ks.getD i ([], [])).1.length + (Ks.getD i ([], [])).2.length))) ?_ (i := 0) (Nat.zero_le _) (by omega) ⟨Kp.rf, fun j hj => absurd hj (Nat.not_lt_zero _)⟩
    rintro r4 k σ4 hk4 ⟨hk5, hj4⟩
    unfold B_X10_readText_L177
    rw [aIx_0 (by decide) (by decide), (hk5 118 0 (by omega)).1, e3, ite_le (by omega) (by omega)]
    by_cases hlt4 : Ks.length ≤ k
    · left
      have : k = Ks.length := by omega
      subst this
      rw [if_pos hlt4]
      refine ⟨σ4, rfl, k3.tr (hk5.le (fun i j q => by unfold rgRo; omega)), ?_, ?_, fun j q => ?_, hj4⟩
      · rw [(hk5 103 16 (by omega)).1, g3 103 16 (by decide), (hk2 103 16 (by omega)).1]
        exact h16
      · rw [(hk5 118 0 (by omega)).1]
        exact e3
      · rw [(hk5 116 j (by omega)).1, (hk5 117 j (by omega)).1, g3 116 j (by decide), g3 117 j (by decide)]
        exact hj j q
    · right
      refine ⟨by omega, ?_⟩
      have hk6 : k < Ks.length := by omega
      have hb := spL_take Ks hk6
      obtain ⟨m1, m2⟩ := m3 k hk6
      have f1 : siI σ4 119 (61 + k) = nI ((spL (Ks.take k)).length + (Ks.getD k ([], [])).1.length) := by
        rw [(hk5 119 _ (by omega)).1]
        exact m1
      have f2 : siI σ4 120 (61 + k) = nI ((spL (Ks.take k)).length + ((Ks.getD k ([], [])).1.length + (Ks.getD k ([], [])).2.length)) := by
        rw [(hk5 120 _ (by omega)).1]
        exact m2
      have z : (61 : Int32) * (0 : Int32) + nI k = nI k := by
        rw [show (61 : Int32) * (0 : Int32) = nI 0 from rfl, nI_add, Nat.zero_add]
      rw [if_neg hlt4, z, show (61 : Int32) = nI 61 from rfl, nI_add, aIx_k (by omega) (by decide), f1, nar_n (by omega), sIx_k (by omega) (by decide), aIx_k (by omega) (by decide), uI_i (by decide), f2, nar_n (by omega), sIx_k (by omega) (by decide), nI_add1]
      refine ⟨_, ⟨(hk5.I (by omega)).I (by omega), fun i hi => ?_⟩, rfl⟩
      rw [uI_i (i := 120) (a := 119) (by decide)]
      by_cases e : i = k
      · subst e
        rw [Nat.zero_add, uI_s, uI_s]
        exact ⟨rfl, rfl⟩
      · rw [uI_j (by omega), uI_j (by omega), uI_i (i := 119) (a := 120) (by decide)]
        exact hj4 i (by omega)
  · right
    refine ⟨by omega, ?_⟩
    have hk6 : k < (spL Ks).length := by omega
    obtain ⟨m1, m2⟩ := h.1.2.2.2.2.2 k hk6
    have f1 : siI σ2 116 (130 + k) = nI ((spL Ks).getD k (0, 0)).1 := by
      rw [(hk2 116 _ (by omega)).1, g 116 _ (by decide)]
      exact m1
    have f2 : siI σ2 117 (130 + k) = nI ((spL Ks).getD k (0, 0)).2 := by
      rw [(hk2 117 _ (by omega)).1, g 117 _ (by decide)]
      exact m2
    have z : (130 : Int32) * (0 : Int32) + nI k = nI k := by
      rw [show (130 : Int32) * (0 : Int32) = nI 0 from rfl, nI_add, Nat.zero_add]
    rw [if_neg hlt, z, show (130 : Int32) = nI 130 from rfl, nI_add, aIx_k (by omega) (by decide), f1, nar_bn (spL_at hK hk6), sIx_k (by omega) (by decide), aIx_k (by omega) (by decide), uI_i (by decide), f2, sIx_k (by omega) (by decide), nI_add1]
    refine ⟨_, ⟨(hk2.I (by omega)).I (by omega), fun i hi => ?_⟩, rfl⟩
    rw [uI_i (i := 117) (a := 116) (by decide)]
    by_cases e : i = k
    · subst e
      rw [uI_s, uI_s]
      exact ⟨rfl, rfl⟩
    · rw [uI_j e, uI_j e, uI_i (i := 116) (a := 117) (by decide)]
      exact hj i (by omega)
