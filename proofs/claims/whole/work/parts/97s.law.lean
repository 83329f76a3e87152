/-! LAW -/
def rgLw (i j : Nat) : Prop := (i = 2 ∧ (j = 0 ∨ j = 2 ∨ j = 4 ∨ j = 6)) ∨ i = 80 ∨ i = 81 ∨ (i = 3 ∧ j = 2) ∨ (i = 103 ∧ 16 ≤ j ∧ j ≤ 20) ∨ (i = 103 ∧ j = 28) ∨ (116 ≤ i ∧ i ≤ 120)
theorem s_law {N : Nat} (hN : 1024 < N) {σ : Sx} (hw : ReW N σ) (hp : ReP σ) : StI (fun s => ReW N s ∧ ReP s) rgLw σ (F_X9_law N σ) (F_X10_law N) := by
  obtain ⟨W, G, b, h⟩ := hw
  obtain ⟨n, hn, p1, p2, p3⟩ := id hp
  obtain ⟨B, hB⟩ : ∃ B : Nat → Nat, ∀ j, j < n → B j < 256 ∧ siI σ 79 j = nI (B j) ∧ siI σ 115 j = (nI (B j)).toInt8.toInt32 := by
    refine ⟨fun j => (siI σ 79 j).toNatClampNeg, fun j hj => ?_⟩
    obtain ⟨c, c1, c2, c3⟩ := p3 j hj
    have e : (siI σ 79 j).toNatClampNeg = c := by rw [c2, nI_clamp (by omega)]
    dsimp only
    rw [e]
    exact ⟨c1, c2, c3⟩
  have tc : TTc n B σ := ⟨p1, fun j hj => (hB j hj).2.1⟩
  have tm : TTm n B σ := ⟨p2, fun j hj => (hB j hj).2.2⟩
  have hP : ∀ σ2 : Sx, siI σ2 2 0 = nI 0 → siI σ2 103 16 = nI 0 → ReP σ2 := fun σ2 q1 q2 => ⟨0, Nat.zero_le _, q1, q2, fun j hj => absurd hj (Nat.not_lt_zero _)⟩
  have main : ∀ (σ2 : Sx) (G2 : Gt) (b2 : Bool), Kp rgLw σ σ2 → LC N G2 σ2 → LM N G2 σ2 → LN N b2 G2 σ2 → dys N G2 W σ2 → ReW N σ2 := fun σ2 G2 b2 k q1 q2 q3 q4 => by
    obtain ⟨h1, h2, h3, -, -, -, -, h8, h9, h10⟩ := h
    refine ⟨W, G2, b2, h1, h2.of (fun i j q => (k i j (by unfold cwR at q; unfold rgLw; omega)).1), h3.of (fun i j q => (k i j (by unfold mwR at q; unfold rgLw; omega)).1), q1, q2, q3, q4, ?_, ?_, h10.of (fun i j q => (k i j (by unfold ccR at q; unfold rgLw; omega)).1)⟩
    · rw [(k 103 32 (by unfold rgLw; omega)).1]
      exact h8
    · rw [(k 103 34 (by unfold rgLw; omega)).1]
      exact h9
  rcases TT_all hn (show 130 < N by omega) (fun j hj => (hB j hj).1) (jR N) n 0 0 N N (by omega) (Nat.zero_le _) (by omega) (by omega) (by omega) with ⟨Ks, k1, k2, k3, k4, k5, k6⟩ | ⟨p', b1, b2, b3⟩
  · obtain ⟨σ1, c1, c2, c3, c4⟩ := C_adopt_ok (N := N) (Ks := Ks) hn tc (by omega) (fun D σ hD hl => k5 D σ hD hl)
    have kc : Kp rgLw σ (upI σ1 3 2 1) := (c2.le (fun i j q => by unfold rgAo at q; unfold rgLw; omega)).I (by unfold rgLw; omega)
    have tm2 : TTm n B (upI σ1 3 2 1) := ⟨by rw [uI_i (by decide), (c2 103 16 (by unfold rgAo; omega)).1]; exact tm.1, fun j hj => by rw [uI_i (by decide), (c2 115 j (by unfold rgAo; omega)).1]; exact tm.2 j hj⟩
    obtain ⟨σ5, d1, d2, d3⟩ := M_bgn (N := N) tm2
    obtain ⟨σ6, e1, e2, e3⟩ := k6 [] σ5 d3 (Nat.le_refl _) (Nat.le_refl _)
    rw [List.nil_append] at e3
    obtain ⟨σ7, f1, f2, f3, f4⟩ := M_read_ok (N := N) hn (by omega) k1 (by omega) (by omega) e3
    have km : Kp rgRo (upI σ1 3 2 1) σ7 := (d2.tr e2.pl).bo.tr f2
    have kk : Kp rgLw σ (upI σ7 103 28 1) := (kc.tr (km.le (fun i j q => by unfold rgRo at q; unfold rgLw; omega))).I (by unfold rgLw; omega)
    have hcC : cC Ks (upI σ7 103 28 1) := c4.of (fun i j q => by
      rw [uI_i (by unfold lcR at q; omega), (km i j (by unfold lcR at q; unfold rgRo; omega)).1, uI_i (by unfold lcR at q; omega)])
    have hcM : cM Ks (upI σ7 103 28 1) := ⟨by rw [uI_i (by decide)]; exact f4.1, fun j hj => by rw [uI_i (by decide), uI_i (by decide)]; exact f4.2.1 j hj, f4.2.2.of (fun i hi => ⟨uI_i (by decide), uI_i (by decide)⟩)⟩
    refine ⟨1, upI σ1 3 2 1, upI σ7 103 28 1, ?_, ?_, ⟨main _ (GL Ks) (nmL Ks) kk (LC_of (by omega) k1 (by omega) hcC) (LM_of (by omega) k1 (by omega) (by omega) uI_s hcM) (LN_of (by omega) k1 (by omega) hcC) (Or.inl ?_), hP _ ?_ ?_⟩, kk⟩
    · unfold F_X9_law
      rw [c1, clx_s, if_pos (by decide)]
      rfl
    · unfold F_X10_law
      rw [d1, e1, f1, clx_s, if_pos (by decide)]
      rfl
    · rw [uI_i (by decide), (km 3 2 (by unfold rgRo; omega)).1, uI_s]
    · rw [uI_i (by decide), (km 2 0 (by unfold rgRo; omega)).1, uI_i (by decide)]
      exact c3
    · rw [uI_j (by decide)]
      exact f3
  · obtain ⟨σ1, c1, c2, c3⟩ := C_adopt_ba (N := N) (p' := p') tc (fun D σ hD hl => b2 D σ hD hl)
    have kc : Kp rgLw σ σ1 := c2.le (fun i j q => by unfold rgAb at q; unfold rgLw; omega)
    have tm2 : TTm n B σ1 := ⟨by rw [(c2 103 16 (by unfold rgAb; omega)).1]; exact tm.1, fun j hj => by rw [(c2 115 j (by unfold rgAb; omega)).1]; exact tm.2 j hj⟩
    obtain ⟨σ5, d1, d2, d3⟩ := M_bgn (N := N) tm2
    obtain ⟨σ6, e1, e2, e3⟩ := b3 [] σ5 d3 (Nat.le_refl _) (Nat.le_refl _)
    obtain ⟨σ7, f1, f2, f3⟩ := M_read_ba (N := N) hn b1 e3
    have km : Kp rgRb σ1 σ7 := (d2.tr e2.pl).tr f2
    have kk : Kp rgLw σ σ7 := kc.tr (km.le (fun i j q => by unfold rgRb at q; unfold rgLw; omega))
    have kl : ∀ i j, (lcR i j ∨ lmR i j ∨ dyR i j ∨ cwR i j) → siI σ7 i j = siI σ i j := fun i j q => by
      rw [(km i j (by unfold lcR lmR dyR cwR at q; unfold rgRb; omega)).1, (c2 i j (by unfold lcR lmR dyR cwR at q; unfold rgAb; omega)).1]
    refine ⟨(-100 : Int32) - nI p', σ1, σ7, ?_, ?_, ⟨main _ G b kk (h.2.2.2.1.of (fun i j q => kl i j (Or.inl q))) (h.2.2.2.2.1.of (fun i j q => kl i j (Or.inr (Or.inl q)))) (h.2.2.2.2.2.1.of (fun i j q => kl i j (Or.inl q))) (h.2.2.2.2.2.2.1.of (fun i j q => kl i j (by rcases q with q | q | q; exact Or.inr (Or.inr (Or.inr q)); exact Or.inl q; exact Or.inr (Or.inr (Or.inl q))))), hP _ ?_ f3⟩, kk⟩
    · unfold F_X9_law
      rw [c1, clx_s, if_neg (nI_pos (by omega))]
    · unfold F_X10_law
      rw [d1, e1, f1, clx_s, if_neg (nI_pos (by omega))]
    · rw [(km 2 0 (by unfold rgRb; omega)).1]
      exact c3
