/-! THE REFERENCE: sights, days that hold -/
def lmR (i j : Nat) : Prop := (i = 103 ∧ j = 28) ∨ (116 ≤ i ∧ i ≤ 117 ∧ j < 130) ∨ (i = 118 ∧ j = 0) ∨ (119 ≤ i ∧ i ≤ 120 ∧ j < 61)
def LM (N : Nat) (G : Gt) (σ : Sx) : Prop := ∀ σ1 : Sx, (∀ i j, lmR i j → siI σ1 i j = siI σ i j) →
  (siI σ1 103 28 = 0 ∧ ∀ s k l w m, okS s k l w m → G s k l w m = nI (pcN s)) ∨
  (siI σ1 103 28 = 1 ∧ ∀ s k l w m, okS s k l w m → siI σ1 121 0 = nI (pcN s) → siI σ1 121 1 = nI s → siI σ1 121 2 = nI k → siI σ1 121 3 = nI l → siI σ1 121 4 = nI w → siI σ1 121 5 = nI m → ∃ σ2, F_X10_gives N (0 : Int32) σ1 = some (G s k l w m, σ2) ∧ Kp (fun i _ => i = 122) σ1 σ2)
theorem LM.of {N : Nat} {G : Gt} {σ σ2 : Sx} (h : LM N G σ) (e : ∀ i j, lmR i j → siI σ2 i j = siI σ i j) : LM N G σ2 := fun σ1 q => h σ1 (fun i j r => (q i j r).trans (e i j r))
theorem LM.kp {N : Nat} {G : Gt} {σ σ2 : Sx} {reg : Nat → Nat → Prop} (h : LM N G σ) (k : Kp reg σ σ2) (d : ∀ i j, lmR i j → ¬ reg i j) : LM N G σ2 := h.of (fun i j hr => (k i j (d i j hr)).1)
theorem M_lawTakes {N : Nat} (hN : 32 < N) {G : Gt} {W : Wd} {σ : Sx} (ok : okW W) (h : mW W σ) (hl : LM N G σ) {w s : Nat} (hw : w < W 0 0) (hs : s < 32) : ∃ σ2, F_X10_lawTakes N (nI w) (nI s) σ = some (nI (tkw G W w s), σ2) ∧ Kp (fun i _ => i = 121 ∨ i = 122) σ σ2 := by
  have hn := ok.nw
  obtain ⟨hl1, hl2, -, hl4, hl5⟩ := ok.2.1 w hw
  have hS : okS s w (W 1 w) (W 4 w) (W 2 w) := ⟨hs, by omega, hl1, hl4, hl5, hl2⟩
  have hw5 : w < 5 := by omega
  have tail : ∀ (x : Int32) (σ2 : Sx), mW W σ2 → aIx 107 5 (nI w) σ2 (fun v2 => clx (F_X10_remainder x v2 σ2) (fun v3 σ3 => some (v3, σ3))) = some (nI (tkI x (W 4 w)), σ2) := fun x σ2 hm => by
    rw [aIx_k hw5 (by decide), (hm.2.1 w hw).2.2.2, M_remainder x (by omega) (by omega), clx_s]
  unfold F_X10_lawTakes
  rw [M_bitsOf hN hs, clx_s, nmx_s]
  rcases hl σ (fun _ _ _ => rfl) with ⟨g1, g2⟩ | ⟨g1, -⟩
  · rw [g1, if_pos rfl]
    dsimp only
    rw [tail _ σ h, ← g2 _ _ _ _ _ hS]
    exact ⟨σ, rfl, Kp.rf⟩
  · rw [g1, if_neg (by decide), M_bitsOf hN hs, clx_s, sIx_0 (by decide) (by decide), sIx_1 (by decide) (by decide), sIx_2 (by decide) (by decide), aIx_k hw5 (by decide), sIx_3 (by decide) (by decide), aIx_k hw5 (by decide), sIx_4 (by decide) (by decide), aIx_k hw5 (by decide), sIx_5 (by decide) (by decide)]
    have u : ∀ {σ1 : Sx} {i j : Nat} {v : Int32} {a b : Nat}, a ≠ i → siI (upI σ1 i j v) a b = siI σ1 a b := fun q => uI_i q
    rw [u (by decide), u (by decide), u (by decide), (h.2.1 w hw).1]
    rw [u (by decide), u (by decide), u (by decide), u (by decide), (h.2.1 w hw).2.2.2]
    rw [u (by decide), u (by decide), u (by decide), u (by decide), u (by decide), (h.2.1 w hw).2.1]
    generalize hσ : upI (upI (upI (upI (upI (upI σ 121 0 (nI (pcN s))) 121 1 (nI s)) 121 2 (nI w)) 121 3 (nI (W 1 w))) 121 4 (nI (W 4 w))) 121 5 (nI (W 2 w)) = σ6
    have hk : Kp (fun i _ => i = 121 ∨ i = 122) σ σ6 := by
      rw [← hσ]
      exact (((((Kp.rf.I (Or.inl rfl)).I (Or.inl rfl)).I (Or.inl rfl)).I (Or.inl rfl)).I (Or.inl rfl)).I (Or.inl rfl)
    have j : ∀ {σ1 : Sx} {i j : Nat} {v : Int32} {a b : Nat}, b ≠ j → siI (upI σ1 i j v) a b = siI σ1 a b := fun q => uI_j q
    rcases hl σ6 (fun i j q => (hk i j (by unfold lmR at q; omega)).1) with ⟨f1, -⟩ | ⟨-, f2⟩
    · rw [(hk 103 28 (by omega)).1, g1] at f1
      exact absurd f1 (by decide)
    · obtain ⟨σ7, e1, e2⟩ := f2 s w (W 1 w) (W 4 w) (W 2 w) hS
        (by rw [← hσ, j (by decide), j (by decide), j (by decide), j (by decide), j (by decide), uI_s])
        (by rw [← hσ, j (by decide), j (by decide), j (by decide), j (by decide), uI_s])
        (by rw [← hσ, j (by decide), j (by decide), j (by decide), uI_s])
        (by rw [← hσ, j (by decide), j (by decide), uI_s])
        (by rw [← hσ, j (by decide), uI_s])
        (by rw [← hσ, uI_s])
      have hk7 : Kp (fun i _ => i = 121 ∨ i = 122) σ σ7 := hk.tr (e2.le (fun i j q => Or.inr q))
      rw [e1, clx_s]
      dsimp only
      rw [tail _ σ7 (h.kp hk7 (fun i j q => by unfold mwR at q; omega))]
      exact ⟨σ7, rfl, hk7⟩
/-- what w sees, with false tracks and a flood -/
def TM (W : Wd) (fo fi di da db : Int32) (w i : Nat) : Bool := (trk W i (W 6 (32 * w)) (W 2 w) || decide (nI (i / 4) = fo ∧ nI (W 6 (32 * w)) = fi)) && !decide (nI (W 6 (32 * w)) = di ∧ ¬ nI (W 2 w) < da ∧ ¬ db < nI (W 2 w)) && !decide (i / 4 = w)
def rgS (i _j : Nat) : Prop := 121 ≤ i ∧ i ≤ 125
def mS (G : Gt) (W : Wd) (T : Nat → Nat → Bool) (σ : Sx) : Prop := (∀ w, w < W 0 0 → ∀ u, u < W 0 0 → ∀ v, v < W 4 u → siI σ 124 (20 * w + 4 * u + v) = b2i (T w (4 * u + v))) ∧ ∀ w, w < W 0 0 → ∀ s, s < 2 ^ W 0 0 → siI σ 125 (32 * w + s) = nI (tkw G W w s)
theorem mS.of {G : Gt} {W : Wd} {T : Nat → Nat → Bool} {σ σ2 : Sx} (h : mS G W T σ) (e : ∀ i j, (i = 124 ∨ i = 125) → siI σ2 i j = siI σ i j) : mS G W T σ2 :=
  ⟨fun w hw u hu v hv => by rw [e _ _ (Or.inl rfl)]; exact h.1 w hw u hu v hv, fun w hw s hs => by rw [e _ _ (Or.inr rfl)]; exact h.2 w hw s hs⟩
theorem b2i_nI (b : Bool) : b2i b = nI (if b = true then 1 else 0) := by
  cases b <;> rfl
theorem M_findSights {N : Nat} (hN : 32 < N) {G : Gt} {W : Wd} {σ : Sx} (ok : okW W) (h : mW W σ) (hl : LM N G σ) : ∃ σ2, F_X10_findSights N σ = some ((), σ2) ∧ Kp rgS σ σ2 ∧ mC W σ2 ∧ mS G W (TM W (siI σ 103 32) (siI σ 103 33) (siI σ 103 34) (siI σ 103 35) (siI σ 103 36)) σ2 := by
  have hn := ok.nw
  obtain ⟨σ1, a1, a2, a3⟩ := M_findMinutes (N := N) (by omega) ok h
  generalize hfo : siI σ 103 32 = fo
  generalize hfi : siI σ 103 33 = fi
  generalize hdi : siI σ 103 34 = di
  generalize hda : siI σ 103 35 = da
  generalize hdb : siI σ 103 36 = db
  have fr : ∀ {σ2 : Sx}, Kp rgS σ σ2 → mW W σ2 ∧ LM N G σ2 ∧ siI σ2 103 32 = fo ∧ siI σ2 103 33 = fi ∧ siI σ2 103 34 = di ∧ siI σ2 103 35 = da ∧ siI σ2 103 36 = db := fun k => by
    refine ⟨h.kp k (fun i j q => by unfold mwR at q; unfold rgS; omega), hl.kp k (fun i j q => by unfold lmR at q; unfold rgS; omega), ?_, ?_, ?_, ?_, ?_⟩
    · rw [(k 103 32 (by unfold rgS; omega)).1, hfo]
    · rw [(k 103 33 (by unfold rgS; omega)).1, hfi]
    · rw [(k 103 34 (by unfold rgS; omega)).1, hdi]
    · rw [(k 103 35 (by unfold rgS; omega)).1, hda]
    · rw [(k 103 36 (by unfold rgS; omega)).1, hdb]
  unfold F_X10_findSights
  rw [a1, clx_s]
  refine lp1U (Q := fun o => ∃ σ2, o = some ((), σ2) ∧ Kp rgS σ σ2 ∧ mC W σ2 ∧ mS G W (TM W fo fi di da db) σ2) (W 0 0) (fun w σ2 => Kp rgS σ σ2 ∧ mC W σ2 ∧ (∀ w2, w2 < w → ∀ u, u < W 0 0 → ∀ v, v < W 4 u → siI σ2 124 (20 * w2 + 4 * u + v) = b2i (TM W fo fi di da db w2 (4 * u + v))) ∧ ∀ w2, w2 < w → ∀ s, s < 2 ^ W 0 0 → siI σ2 125 (32 * w2 + s) = nI (tkw G W w2 s)) ?_ (i := 0) (Nat.zero_le _) (by omega) ⟨a2.le (fun i j q => by unfold rgS; omega), a3, fun w2 q => absurd q (Nat.not_lt_zero _), fun w2 q => absurd q (Nat.not_lt_zero _)⟩
  rintro r w σ2 hw ⟨hk, hc, h124, h125⟩
  obtain ⟨hm, hlm, c32, c33, c34, c35, c36⟩ := fr hk
  unfold B_X10_findSights_L6
  rw [hm.1, ite_le (by omega) (by omega)]
  by_cases hlt : W 0 0 ≤ w
  · left
    rw [if_pos hlt]
    exact ⟨σ2, rfl, hk, hc, fun w2 q => h124 w2 (by omega), fun w2 q => h125 w2 (by omega)⟩
  right
  have hw2 : w < W 0 0 := by omega
  have hfp := first_plc ok hw2
  have hst := (ok.2.1 w hw2).2.1
  have hp0 : siI σ2 109 (32 * w) = nI (W 6 (32 * w)) := by
    have := hm.2.2.2.1 (4 * w) (by omega) 0 (first_len ok hw2)
    rw [show 8 * (4 * w) + 0 = 32 * w by omega] at this
    exact this
  refine ⟨hw2, ?_⟩
  rw [if_neg hlt, mul32L, aIx_k (show 32 * w < 160 by omega) (by decide), hp0, aIx_k (show w < 5 by omega) (by decide), (hm.2.1 w hw2).2.1, c34, c35, c36, nI_add1]
  obtain ⟨fl, hfl, hgo⟩ : ∃ fl : Bool, fl = decide (nI (W 6 (32 * w)) = di ∧ ¬ nI (W 2 w) < da ∧ ¬ db < nI (W 2 w)) ∧ ∀ J : Int32 → Sx → Option (Unit × Sx), nmx J (fun (j59 : Int32 → Sx → Option (Unit × Sx)) => nmx (fun (σ20 : Sx) => j59 (0 : Int32) σ20) (fun (j58 : Sx → Option (Unit × Sx)) => (if nI (W 6 (32 * w)) = di then clx (F_X10_in (nI (W 2 w)) da db σ2) (fun v6 σ21 => (if v6 = 0 then j58 σ21 else j59 (1 : Int32) σ21)) else j58 σ2))) = J (b2i fl) σ2 := by
    refine ⟨_, rfl, fun J => ?_⟩
    rw [nmx_s, nmx_s, M_in]
    by_cases e1 : nI (W 6 (32 * w)) = di
    · rw [if_pos e1, clx_s]
      by_cases e2 : nI (W 2 w) < da
      · simp [e1, e2, b2i]
      · by_cases e3 : db < nI (W 2 w)
        · simp [e1, e2, e3, b2i]
        · simp [e1, e2, e3, b2i]
    · simp [e1, b2i]
  rw [hgo, nmx_s]
  -- the others' ways
  refine lp1U (Q := fun o => ∃ σ', (Kp rgS σ σ' ∧ mC W σ' ∧ (∀ w2, w2 < w + 1 → ∀ u, u < W 0 0 → ∀ v, v < W 4 u → siI σ' 124 (20 * w2 + 4 * u + v) = b2i (TM W fo fi di da db w2 (4 * u + v))) ∧ ∀ w2, w2 < w + 1 → ∀ s, s < 2 ^ W 0 0 → siI σ' 125 (32 * w2 + s) = nI (tkw G W w2 s)) ∧ o = r (nI (w + 1)) σ') (W 0 0) (fun u σ3 => Kp rgS σ σ3 ∧ mC W σ3 ∧ (∀ w2, w2 < W 0 0 → ∀ u2, u2 < W 0 0 → (w2 < w ∨ (w2 = w ∧ u2 < u)) → ∀ v, v < W 4 u2 → siI σ3 124 (20 * w2 + 4 * u2 + v) = b2i (TM W fo fi di da db w2 (4 * u2 + v))) ∧ ∀ w2, w2 < w → ∀ s, s < 2 ^ W 0 0 → siI σ3 125 (32 * w2 + s) = nI (tkw G W w2 s)) ?_ (i := 0) (Nat.zero_le _) (by omega) ⟨hk, hc, fun w2 q1 u2 q2 q3 => h124 w2 (by omega) u2 q2, h125⟩
  rintro r3 u σ3 hu ⟨hk3, hc3, h124, h125⟩
  obtain ⟨hm3, hlm3, c32, c33, -⟩ := fr hk3
  unfold B_X10_findSights_L64
  rw [hm3.1, ite_le (by omega) (by omega)]
  by_cases hlu : W 0 0 ≤ u
  · left
    rw [if_pos hlu]
    dsimp only
    rw [nmx_s]
    have p2 : 2 ^ W 0 0 ≤ 32 := Nat.le_trans (Nat.pow_le_pow_right (by decide) hn) (by decide)
    -- the law's answers
    refine lp1U (Q := fun o => ∃ σ', (Kp rgS σ σ' ∧ mC W σ' ∧ (∀ w2, w2 < w + 1 → ∀ u, u < W 0 0 → ∀ v, v < W 4 u → siI σ' 124 (20 * w2 + 4 * u + v) = b2i (TM W fo fi di da db w2 (4 * u + v))) ∧ ∀ w2, w2 < w + 1 → ∀ s, s < 2 ^ W 0 0 → siI σ' 125 (32 * w2 + s) = nI (tkw G W w2 s)) ∧ o = r (nI (w + 1)) σ') 32 (fun s σ4 => Kp rgS σ σ4 ∧ mC W σ4 ∧ (∀ w2, w2 < w + 1 → ∀ u, u < W 0 0 → ∀ v, v < W 4 u → siI σ4 124 (20 * w2 + 4 * u + v) = b2i (TM W fo fi di da db w2 (4 * u + v))) ∧ ∀ w2, w2 < W 0 0 → ∀ s2, s2 < 2 ^ W 0 0 → (w2 < w ∨ (w2 = w ∧ s2 < s)) → siI σ4 125 (32 * w2 + s2) = nI (tkw G W w2 s2)) ?_ (i := 0) (Nat.zero_le _) (by omega) ⟨hk3, hc3, fun w2 q1 u2 q2 => h124 w2 (by omega) u2 q2 (by omega), fun w2 q1 s2 q2 q3 => h125 w2 (by omega) s2 q2⟩
    rintro r4 s σ4 hs ⟨hk4, hc4, h124, h125⟩
    obtain ⟨hm4, hlm4, -⟩ := fr hk4
    unfold B_X10_findSights_L178
    rw [show (32 : Int32) = nI 32 from rfl, ite_le (by decide) (by omega)]
    by_cases hls : 32 ≤ s
    · left
      rw [if_pos hls]
      exact ⟨σ4, ⟨hk4, hc4, h124, fun w2 q1 s2 q2 => h125 w2 (by omega) s2 q2 (by omega)⟩, rfl⟩
    right
    refine ⟨by omega, ?_⟩
    rw [if_neg hls, nmx_s, hm4.1, shl1 (by omega), ite_le (by omega) (by omega), show nI 32 * nI w = nI (32 * w) from pk_mul _ _, nI_add, nI_add1]
    by_cases hs2 : 2 ^ W 0 0 ≤ s
    · rw [if_pos hs2]
      dsimp only
      rw [sIx_k (show 32 * w + s < 160 by omega) (by decide)]
      refine ⟨_, ⟨hk4.I (by unfold rgS; omega), fun i hi k hk => by rw [uI_i (by decide)]; exact hc4 i hi k hk, fun w2 q1 u q2 v q3 => by rw [uI_i (by decide)]; exact h124 w2 q1 u q2 v q3, fun w2 q1 s2 q2 q3 => ?_⟩, rfl⟩
      rw [uI_j (by omega)]
      exact h125 w2 q1 s2 q2 (by omega)
    · obtain ⟨σ5, e1, e2⟩ := M_lawTakes hN ok hm4 hlm4 hw2 (show s < 32 by omega)
      rw [if_neg hs2, e1, clx_s]
      dsimp only
      rw [sIx_k (show 32 * w + s < 160 by omega) (by decide)]
      refine ⟨_, ⟨(hk4.tr (e2.le (fun i j q => by unfold rgS; omega))).I (by unfold rgS; omega), fun i hi k hk => by rw [uI_i (by decide), (e2 123 _ (by omega)).1]; exact hc4 i hi k hk, fun w2 q1 u q2 v q3 => by rw [uI_i (by decide), (e2 124 _ (by omega)).1]; exact h124 w2 q1 u q2 v q3, fun w2 q1 s2 q2 q3 => ?_⟩, rfl⟩
      by_cases e : 32 * w2 + s2 = 32 * w + s
      · rw [e, uI_s, show w2 = w by omega, show s2 = s by omega]
      · rw [uI_j e, (e2 125 _ (by omega)).1]
        exact h125 w2 q1 s2 q2 (by omega)
  right
  have hu2 : u < W 0 0 := by omega
  have h4u := ok.ways u
  refine ⟨hu2, ?_⟩
  rw [if_neg hlu, nmx_s, nI_add1]
  refine lp1U (Q := fun o => ∃ σ', (Kp rgS σ σ' ∧ mC W σ' ∧ (∀ w2, w2 < W 0 0 → ∀ u2, u2 < W 0 0 → (w2 < w ∨ (w2 = w ∧ u2 < u + 1)) → ∀ v, v < W 4 u2 → siI σ' 124 (20 * w2 + 4 * u2 + v) = b2i (TM W fo fi di da db w2 (4 * u2 + v))) ∧ ∀ w2, w2 < w → ∀ s, s < 2 ^ W 0 0 → siI σ' 125 (32 * w2 + s) = nI (tkw G W w2 s)) ∧ o = r3 (nI (u + 1)) σ') (W 4 u) (fun v σ4 => Kp rgS σ σ4 ∧ mC W σ4 ∧ (∀ w2, w2 < W 0 0 → ∀ u2, u2 < W 0 0 → ∀ v2, v2 < W 4 u2 → (w2 < w ∨ (w2 = w ∧ (u2 < u ∨ (u2 = u ∧ v2 < v)))) → siI σ4 124 (20 * w2 + 4 * u2 + v2) = b2i (TM W fo fi di da db w2 (4 * u2 + v2))) ∧ ∀ w2, w2 < w → ∀ s, s < 2 ^ W 0 0 → siI σ4 125 (32 * w2 + s) = nI (tkw G W w2 s)) ?_ (i := 0) (Nat.zero_le _) (by omega) ⟨hk3, hc3, fun w2 q1 u2 q2 v2 q3 q4 => h124 w2 q1 u2 q2 (by omega) v2 q3, h125⟩
  rintro r4 v σ4 hv ⟨hk4, hc4, h124, h125⟩
  obtain ⟨hm4, hlm4, c32, c33, -⟩ := fr hk4
  unfold B_X10_findSights_L76
  rw [aIx_k (show u < 5 by omega) (by decide), (hm4.2.1 u hu2).2.2.2, ite_le (by omega) (by omega)]
  by_cases hlv : W 4 u ≤ v
  · left
    rw [if_pos hlv]
    exact ⟨σ4, ⟨hk4, hc4, fun w2 q1 u2 q2 q3 v2 q4 => h124 w2 q1 u2 q2 v2 q4 (by
      by_cases e : u2 = u
      · subst e
        omega
      · omega), h125⟩, rfl⟩
  right
  have hv2 : v < W 4 u := by omega
  refine ⟨hv2, ?_⟩
  have e4 : (4 * u + v) / 4 = u := div4u (by omega)
  rw [if_neg hlv, M_hasTracks (by omega) ok hm4 hc4 hu2 hv2 (by omega) (by omega), clx_s, c32, c33]
  -- what is written
  have hval : ∀ K : Int32 → Option (Unit × Sx),
      (nmx (fun (y3 : Int32) (σ14 : Sx) => nmx (fun (y4 : Int32) (σ15 : Sx) => K y4) (fun (j162 : Int32 → Sx → Option (Unit × Sx)) => nmx (fun (σ17 : Sx) => j162 (0 : Int32) σ17) (fun (j161 : Sx → Option (Unit × Sx)) => (if y3 = 0 then j161 σ14 else (if b2i fl = 0 then (if nI u = nI w then j161 σ14 else j162 (1 : Int32) σ14) else j161 σ14))))) (fun (j123 : Int32 → Sx → Option (Unit × Sx)) => nmx (fun (σ18 : Sx) => j123 (1 : Int32) σ18) (fun (j118 : Sx → Option (Unit × Sx)) => (if b2i (trk W (4 * u + v) (W 6 (32 * w)) (W 2 w)) = 0 then nmx (fun (σ19 : Sx) => j123 (0 : Int32) σ19) (fun (j122 : Sx → Option (Unit × Sx)) => (if nI u = fo then (if nI (W 6 (32 * w)) = fi then j118 σ4 else j122 σ4) else j122 σ4)) else j118 σ4)))) = K (b2i (TM W fo fi di da db w (4 * u + v))) := by
    intro K
    simp only [nmx_s, if_b2i]
    unfold TM
    rw [e4, ← hfl, ite_eq (by omega) (by omega)]
    by_cases q1 : trk W (4 * u + v) (W 6 (32 * w)) (W 2 w) = true
    · by_cases q2 : fl = true
      · simp [q1, q2, b2i]
      · by_cases q3 : u = w
        · simp [q1, q2, q3, b2i]
        · simp [q1, q2, q3, b2i]
    · by_cases q4 : nI u = fo
      · by_cases q5 : nI (W 6 (32 * w)) = fi
        · by_cases q2 : fl = true
          · simp [q1, q2, q4, q5, b2i]
          · by_cases q3 : u = w
            · simp [q1, q2, q3, q5, b2i]
            · simp [q1, q2, q3, q4, q5, b2i]
        · simp [q1, q5, b2i]
      · simp [q1, q4, b2i]
  have hix : nI (20 * w + 4 * u + v) = ((20 : Int32) * nI w + (4 : Int32) * nI u) + nI v := by
    rw [mul20L, mul4L, nI_add, nI_add]
  refine ⟨upI σ4 124 (20 * w + 4 * u + v) (b2i (TM W fo fi di da db w (4 * u + v))), ⟨hk4.I (by unfold rgS; omega), fun i hi k hk => by rw [uI_i (by decide)]; exact hc4 i hi k hk, fun w2 q1 u2 q2 v2 q3 q4 => ?_, fun w2 q1 s q2 => by rw [uI_i (by decide)]; exact h125 w2 q1 s q2⟩, ?_⟩
  · have h4u2 := ok.ways u2
    by_cases e : 20 * w2 + 4 * u2 + v2 = 20 * w + 4 * u + v
    · have e1 : w2 = w ∧ u2 = u ∧ v2 = v := by omega
      obtain ⟨rfl, rfl, rfl⟩ := e1
      rw [uI_s]
    · rw [uI_j e]
      refine h124 w2 q1 u2 q2 v2 q3 ?_
      omega
  · refine (hval (fun y4 => sIx 124 100 ((((20 : Int32) * nI w) + ((4 : Int32) * nI u)) + nI v) y4 σ4 (fun σ16 => r4 (nI v + (1 : Int32)) σ16))).trans ?_
    rw [← hix, sIx_k (by omega) (by decide), nI_add1]
theorem M_takesOn {N : Nat} (hN : 8 < N) {G : Gt} {W : Wd} {T : Nat → Nat → Bool} {σ : Sx} (ok : okW W) (h : mW W σ) (hs : mS G W T σ) {d w : Nat} (hd : isDy W d) (hw : w < W 0 0) : F_X10_takesOn N (nI d) (nI w) σ = some (nI (tks G W T d w), σ) := by
  have hn := ok.nw
  have hd1 := hd.1
  have hsg := sgt_lt ok T d w
  unfold F_X10_takesOn
  rw [nmx_s]
  refine lp2A (σ := σ) (W 0 0) (fun k => nI (bst k (fun u => T w (4 * u + dg d u)))) _ ?_ ?_ (i := 0) (Nat.zero_le _) (by omega)
  · intro r k hk
    have hdk := hd.way ok hk
    have h4 := ok.ways k
    unfold B_X10_takesOn_L5
    rw [h.1, if_neg (nI_ge hk (by omega)), M_wayIn (by omega) (by omega), clx_s, mul20L, mul4L, nI_add, nI_add, aIx_k (by omega) (by decide), hs.1 w hw k hk _ hdk, nmx_s, nI_add1]
    by_cases e : T w (4 * k + dg d k) = true
    · rw [e, b2i_t, shl1 (by omega), orI, bst_s1 (f := fun u => T w (4 * u + dg d u)) e]
    · rw [show T w (4 * k + dg d k) = false by simpa using e, b2i_f, show jshl (0 : Int32) (nI k) = nI 0 from by rw [show (0 : Int32) = nI 0 from rfl, shlI (by omega) (by omega), Nat.zero_mul], orI, Nat.or_zero, bst_s0 (f := fun u => T w (4 * u + dg d u)) e]
  · intro r
    unfold B_X10_takesOn_L5
    rw [h.1, if_pos (nI_le (Nat.le_refl _) (by omega)), mul32L]
    dsimp only
    rw [nI_add, show bst (W 0 0) (fun u => T w (4 * u + dg d u)) = sgt (W 0 0) T d w from rfl, aIx_k (by omega) (by decide), hs.2 w hw _ hsg.1]
    rfl
theorem M_holdsOn {N : Nat} (hN : 8 < N) {G : Gt} {W : Wd} {T : Nat → Nat → Bool} {σ : Sx} (ok : okW W) (h : mW W σ) (hs : mS G W T σ) {d : Nat} (hd : d < 1024) : (isDy W d ∧ F_X10_holdsOn N (nI d) σ = some (b2i (hldB G W T d), σ)) ∨ (¬ isDy W d ∧ F_X10_holdsOn N (nI d) σ = some (0, σ)) := by
  have hn := ok.nw
  unfold F_X10_holdsOn
  rcases M_isDay (N := N) (by omega) ok h hd with ⟨e1, e2⟩ | ⟨e1, e2⟩
  · left
    refine ⟨e1, ?_⟩
    rw [e2, clx_s, if_neg (by decide)]
    rw [show lpx1 (B_X10_holdsOn_L12 N (nI d)) N (0 : Int32) σ = _ from lp1F (σ := σ) (W 0 0) (hldF G W T d) (fun _ => some ((0 : Int32), σ)) (some ((1 : Int32), σ)) ?_ ?_ (by omega)]
    · unfold hldB
      by_cases q : fsN (W 0 0) (hldF G W T d) < W 0 0
      · rw [if_pos q]
        simp [q, b2i]
      · rw [if_neg q]
        simp [q, b2i]
    · intro r k hk
      have ht := tkw_lt (G := G) (s := sgt (W 0 0) T d k) ok hk
      have h4 := ok.ways k
      have hdg := dg_lt d k
      unfold B_X10_holdsOn_L12
      rw [h.1, if_neg (nI_ge hk (by omega)), M_takesOn hN ok h hs e1 hk, clx_s, M_wayIn (by omega) (by omega), clx_s, ite_eq (by unfold tks; omega) (by omega), nI_add1]
      unfold hldF
      by_cases e : tks G W T d k = dg d k
      · rw [if_pos e, if_neg (by simp [e])]
      · rw [if_neg e, if_pos (by simp [e])]
    · intro r
      unfold B_X10_holdsOn_L12
      rw [h.1, if_pos (nI_le (Nat.le_refl _) (by omega))]
  · right
    refine ⟨e1, ?_⟩
    rw [e2, clx_s, if_pos rfl]
theorem M_besideOn {N : Nat} (hN : 8 < N) {G : Gt} {W : Wd} {T : Nat → Nat → Bool} {σ : Sx} (ok : okW W) (h : mW W σ) (hs : mS G W T σ) {d : Nat} (hd : isDy W d) : F_X10_besideOn N (nI d) σ = some (nI (cst G W T d), σ) := by
  have hn := ok.nw
  have hd1 := hd.1
  unfold F_X10_besideOn
  refine lp2A (σ := σ) (W 0 0) (fun k => nI (smN k (cstF G W T d))) _ ?_ ?_ (i := 0) (Nat.zero_le _) (by omega)
  · intro r k hk
    have ht := tkw_lt (G := G) (s := sgt (W 0 0) T d k) ok hk
    have h4 := ok.ways k
    have hdg := dg_lt d k
    unfold B_X10_besideOn_L4
    rw [h.1, if_neg (nI_ge hk (by omega)), M_takesOn hN ok h hs hd hk, clx_s, M_wayIn (by omega) (by omega), clx_s, nmx_s, ite_eq (by unfold tks; omega) (by omega), aIx_k (by omega) (by decide), (h.2.1 k hk).2.2.1, nI_add, nmx_s, nI_add1]
    show _ = r (nI (smN k (cstF G W T d) + cstF G W T d k)) _ _
    rw [show cstF G W T d k = if tks G W T d k = dg d k then 0 else W 3 k from rfl]
    by_cases e : tks G W T d k = dg d k
    · rw [if_pos e, if_pos e]
      rfl
    · rw [if_neg e, if_neg e]
  · intro r
    unfold B_X10_besideOn_L4
    rw [h.1, if_pos (nI_le (Nat.le_refl _) (by omega))]
    rfl
theorem M_nextOf {N : Nat} (hN : 8 < N) {G : Gt} {W : Wd} {T : Nat → Nat → Bool} {σ : Sx} (ok : okW W) (h : mW W σ) (hs : mS G W T σ) {d : Nat} (hd : isDy W d) : F_X10_nextOf N (nI d) σ = some (nI (nxt G W T d), σ) := by
  have hn := ok.nw
  unfold F_X10_nextOf
  refine lp2A (σ := σ) (W 0 0) (fun k => nI (nxN G W T d k)) _ ?_ ?_ (i := 0) (Nat.zero_le _) (by omega)
  · intro r k hk
    unfold B_X10_nextOf_L4
    rw [h.1, if_neg (nI_ge hk (by omega)), M_takesOn hN ok h hs hd hk, clx_s, nx_or ok hk, nmx_s, nI_add1]
  · intro r
    unfold B_X10_nextOf_L4
    rw [h.1, if_pos (nI_le (Nat.le_refl _) (by omega))]
    rfl
/-- the days that hold -/
def isDB (W : Wd) (d : Nat) : Bool := decide (¬ fsN 5 (dyF W d) < 5)
theorem isDB_iff {W : Wd} {d : Nat} (hd : d < 1024) : isDB W d = true ↔ isDy W d := by
  unfold isDB
  rw [decide_eq_true_eq]
  exact (isDy_iff hd).symm
def mlL (G : Gt) (W : Wd) (T : Nat → Nat → Bool) : List Nat := (List.range 1024).filter (fun d => isDB W d && hldB G W T d)
theorem ml_hl {G : Gt} {W : Wd} {T : Nat → Nat → Bool} (ok : okW W) : mlL G W T = (hlL G W T).map (nmN W (W 0 0)) := by
  refine asc_eq _ _ (List.pairwise_lt_range.filter _) ?_ (fun d => ?_)
  · rw [List.pairwise_map]
    refine List.Pairwise.filter _ ?_
    refine List.Pairwise.imp_of_mem (R := fun a b => a < b) (fun {a b} ha hb hab => ?_) List.pairwise_lt_range
    exact nmN_mono ok _ a b (Nat.le_refl _) hab (List.mem_range.mp hb)
  · unfold mlL hlL
    rw [List.mem_filter, List.mem_map]
    constructor
    · rintro ⟨h1, h2⟩
      have hd := List.mem_range.mp h1
      rw [Bool.and_eq_true] at h2
      obtain ⟨x, hx, rfl⟩ := day_nm ok ((isDB_iff hd).mp h2.1)
      exact ⟨x, List.mem_filter.mpr ⟨List.mem_range.mpr hx, h2.2⟩, rfl⟩
    · rintro ⟨x, hx, rfl⟩
      obtain ⟨h1, h2⟩ := List.mem_filter.mp hx
      have hd := nm_day ok (List.mem_range.mp h1)
      exact ⟨List.mem_range.mpr hd.1, by rw [Bool.and_eq_true]; exact ⟨(isDB_iff hd.1).mpr hd, h2⟩⟩
theorem hl_at {G : Gt} {W : Wd} {T : Nat → Nat → Bool} {h : Nat} (hh : h < (hlL G W T).length) : (hlL G W T).getD h 0 < szN W (W 0 0) := by
  have : (hlL G W T).getD h 0 ∈ hlL G W T := by
    have e : (hlL G W T).getD h 0 = (hlL G W T)[h] := by simp [List.getD, hh]
    rw [e]
    exact List.getElem_mem hh
  exact List.mem_range.mp (List.mem_filter.mp this).1
theorem ml_at {G : Gt} {W : Wd} {T : Nat → Nat → Bool} (ok : okW W) {h : Nat} (hh : h < (hlL G W T).length) : (mlL G W T).length = (hlL G W T).length ∧ (mlL G W T).getD h 0 = nmN W (W 0 0) ((hlL G W T).getD h 0) := by
  rw [ml_hl ok, List.length_map]
  refine ⟨rfl, ?_⟩
  simp [List.getD, hh]
theorem ml_len {G : Gt} {W : Wd} {T : Nat → Nat → Bool} (ok : okW W) : (mlL G W T).length = (hlL G W T).length := by
  rw [ml_hl ok, List.length_map]
def mH (G : Gt) (W : Wd) (T : Nat → Nat → Bool) (σ : Sx) : Prop := siI σ 103 38 = nI (mlL G W T).length ∧ lstI σ 126 (mlL G W T)
def rgF (i j : Nat) : Prop := (121 ≤ i ∧ i ≤ 126) ∨ (i = 103 ∧ j = 38)
theorem flt1 {p : Nat → Bool} {n : Nat} : (List.range (n + 1)).filter p = (List.range n).filter p ++ (if p n = true then [n] else []) := by
  rw [List.range_succ, List.filter_append]
  congr 1
  by_cases h : p n = true
  · rw [if_pos h]
    simp [h]
  · rw [if_neg h]
    simp [h]
theorem M_findHeld {N : Nat} (hN : 1024 < N) {G : Gt} {W : Wd} {σ : Sx} (ok : okW W) (h : mW W σ) (hl : LM N G σ) : ∃ σ2, F_X10_findHeld N σ = some ((), σ2) ∧ Kp rgF σ σ2 ∧ mC W σ2 ∧ mS G W (TM W (siI σ 103 32) (siI σ 103 33) (siI σ 103 34) (siI σ 103 35) (siI σ 103 36)) σ2 ∧ mH G W (TM W (siI σ 103 32) (siI σ 103 33) (siI σ 103 34) (siI σ 103 35) (siI σ 103 36)) σ2 := by
  obtain ⟨σ1, a1, a2, a3, a4⟩ := M_findSights (by omega) ok h hl
  generalize TM W (siI σ 103 32) (siI σ 103 33) (siI σ 103 34) (siI σ 103 35) (siI σ 103 36) = T at *
  unfold F_X10_findHeld
  rw [a1, clx_s, pIx_s]
  refine lp1U (Q := fun o => ∃ σ2, o = some ((), σ2) ∧ Kp rgF σ σ2 ∧ mC W σ2 ∧ mS G W T σ2 ∧ mH G W T σ2) 1024 (fun d σ2 => Kp rgF σ σ2 ∧ mC W σ2 ∧ mS G W T σ2 ∧ siI σ2 103 38 = nI ((List.range d).filter (fun d => isDB W d && hldB G W T d)).length ∧ lstI σ2 126 ((List.range d).filter (fun d => isDB W d && hldB G W T d))) ?_ (i := 0) (Nat.zero_le _) (by omega) ⟨(a2.le (fun i j q => by unfold rgS at q; unfold rgF; omega)).I (by unfold rgF; omega), fun i hi k hk => by rw [uI_i (by decide)]; exact a3 i hi k hk, a4.of (fun i j q => uI_i (by omega)), uI_s, fun k hk => absurd hk (Nat.not_lt_zero _)⟩
  rintro r d σ2 hd ⟨hk, hc, hs, h38, h126⟩
  have hm : mW W σ2 := h.kp hk (fun i j q => by unfold mwR at q; unfold rgF; omega)
  have hlen := flt_len (fun d => isDB W d && hldB G W T d) d
  unfold B_X10_findHeld_L11
  rw [show (1024 : Int32) = nI 1024 from rfl, ite_le (by decide) (by omega)]
  by_cases hlt : 1024 ≤ d
  · left
    rw [if_pos hlt]
    have : d = 1024 := by omega
    subst this
    exact ⟨σ2, rfl, hk, hc, hs, h38, h126⟩
  right
  refine ⟨by omega, ?_⟩
  rw [if_neg hlt, nI_add1]
  have hfl := flt1 (p := fun d => isDB W d && hldB G W T d) (n := d)
  have hkeep : ¬ (isDB W d && hldB G W T d) = true → ∃ σ', (Kp rgF σ σ' ∧ mC W σ' ∧ mS G W T σ' ∧ siI σ' 103 38 = nI ((List.range (d + 1)).filter (fun d => isDB W d && hldB G W T d)).length ∧ lstI σ' 126 ((List.range (d + 1)).filter (fun d => isDB W d && hldB G W T d))) ∧ r (nI (d + 1)) σ2 = r (nI (d + 1)) σ' := fun q => by
    rw [if_neg q, List.append_nil] at hfl
    exact ⟨σ2, ⟨hk, hc, hs, by rw [hfl]; exact h38, by rw [hfl]; exact h126⟩, rfl⟩
  rcases M_holdsOn (N := N) (by omega) ok hm hs (show d < 1024 by omega) with ⟨e1, e2⟩ | ⟨e1, e2⟩
  · rw [e2, clx_s, nmx_s, if_b2i]
    by_cases hp : hldB G W T d = true
    · rw [if_pos hp, h38, sIx_k (show _ < 1024 by omega) (by decide), pIx_s, uI_i (by decide), h38, nI_add1]
      rw [if_pos (by rw [(isDB_iff (show d < 1024 by omega)).mpr e1, hp]; rfl)] at hfl
      refine ⟨_, ⟨(hk.I (Or.inl (by omega))).I (Or.inr ⟨rfl, rfl⟩), fun i hi k hk => by rw [uI_i (by decide), uI_i (by decide)]; exact hc i hi k hk, hs.of (fun i j q => by rw [uI_i (by omega), uI_i (by omega)]), ?_, ?_⟩, rfl⟩
      · rw [uI_s, hfl, List.length_append, List.length_singleton]
      · rw [hfl]
        exact (h126.push d).of (fun j => uI_i (by decide))
    · rw [if_neg hp]
      exact hkeep (by simp [hp])
  · rw [e2, clx_s, nmx_s, if_pos rfl]
    refine hkeep (fun q => ?_)
    rw [Bool.and_eq_true] at q
    exact e1 ((isDB_iff (by omega)).mp q.1)
