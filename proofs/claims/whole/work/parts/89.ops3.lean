/-! follow -/
theorem php : ∀ (n : Nat) (f : Nat → Nat), (∀ i, i < n + 1 → f i < n) → ∃ i j, i < j ∧ j < n + 1 ∧ f i = f j := by
  intro n
  induction n with
  | zero => intro f h; exact absurd (h 0 (by omega)) (Nat.not_lt_zero _)
  | succ n ih =>
    intro f h
    by_cases q : ∃ i, i < n + 1 ∧ f i = f (n + 1)
    · obtain ⟨i, hi, e⟩ := q
      exact ⟨i, n + 1, hi, by omega, e⟩
    · have hne : ∀ i, i < n + 1 → f i ≠ f (n + 1) := fun i hi e => q ⟨i, hi, e⟩
      have hl := h (n + 1) (by omega)
      obtain ⟨i, j, h1, h2, h3⟩ := ih (fun i => if f i = n then f (n + 1) else f i) (fun i hi => by
        have h1 := h i (by omega)
        have h2 := hne i hi
        by_cases e : f i = n
        · rw [if_pos e]
          omega
        · rw [if_neg e]
          omega)
      refine ⟨i, j, h1, by omega, ?_⟩
      have ni := hne i (by omega)
      have nj := hne j h2
      by_cases e1 : f i = n
      · by_cases e2 : f j = n
        · omega
        · rw [if_pos e1, if_neg e2] at h3
          omega
      · by_cases e2 : f j = n
        · rw [if_neg e1, if_pos e2] at h3
          omega
        · rw [if_neg e1, if_neg e2] at h3
          exact h3
def sqN (f : Nat → Nat) (d : Nat) : Nat → Nat
  | 0 => d
  | n + 1 => f (sqN f d n)
def hitF (s : Nat → Nat) (k : Nat) : Bool := decide (fsN k (fun j => decide (s j = s k)) < k)
def hitN (s : Nat → Nat) : Nat := fsN 1025 (hitF s)
theorem hit_iff {s : Nat → Nat} {k : Nat} : hitF s k = true ↔ ∃ j, j < k ∧ s j = s k := by
  unfold hitF
  rw [decide_eq_true_eq, fsN_iff]
  constructor
  · rintro ⟨j, hj, e⟩
    exact ⟨j, hj, by simpa using e⟩
  · rintro ⟨j, hj, e⟩
    exact ⟨j, hj, by simpa using e⟩
theorem hitN_lt {s : Nat → Nat} (h : ∀ k, s k < 1024) : hitN s < 1025 := by
  obtain ⟨i, j, h1, h2, h3⟩ := php 1024 s (fun i _ => h i)
  exact fsN_iff.mpr ⟨j, h2, hit_iff.mpr ⟨i, h1, h3⟩⟩
/-- what is marked behind k steps -/
def mkd (s : Nat → Nat) (k : Nat) (σ : Sx) (c : Nat) : Prop := (∀ j, j < k → siI σ c (s j) = nI j) ∧ ∀ v, v < 1024 → (∀ j, j < k → s j ≠ v) → siI σ c v = -1
theorem mkd.step {s : Nat → Nat} {k c : Nat} {σ : Sx} (h : mkd s k σ c) (hn : ∀ j, j < k → s j ≠ s k) : mkd s (k + 1) (upI σ c (s k) (nI k)) c := by
  refine ⟨fun j hj => ?_, fun v hv hq => ?_⟩
  · by_cases e : j = k
    · rw [e, uI_s]
    · rw [uI_j (hn j (by omega))]
      exact h.1 j (by omega)
  · rw [uI_j (Ne.symm (hq k (by omega)))]
    exact h.2 v hv (fun j hj => hq j (by omega))
theorem mkd.of {s : Nat → Nat} {k c : Nat} {σ σ2 : Sx} (h : mkd s k σ c) (e : ∀ j, siI σ2 c j = siI σ c j) : mkd s k σ2 c := ⟨fun j hj => by rw [e]; exact h.1 j hj, fun v hv q => by rw [e]; exact h.2 v hv q⟩
theorem s_follow {N : Nat} (hN : 1100 < N) (a0 a1 : Int32) {σ : Sx} (h : ReW N σ) : StI (ReW N) rgA σ (F_X9_follow N a0 a1 σ) (F_X10_follow N a0 a1) := by
  obtain ⟨W, G, b, h⟩ := h
  obtain ⟨ok, hc, hm⟩ := h.of3
  have hn := ok.nw
  rcases two_day (N := N) (by omega) ok hc.2.2.1 hm a0 with ⟨e1, e2⟩ | ⟨d, hd, rfl, e1, e2⟩
  · exact ⟨-1, σ, σ, by rw [F_X9_follow, e1]; rfl, by rw [F_X10_follow, e2]; rfl, ⟨W, G, b, h⟩, Kp.rf⟩
  rcases in_m (n := 2) (by decide) a1 σ with ⟨q1, q2⟩ | ⟨what, hwh, rfl, q1⟩
  · refine ⟨-1, σ, σ, ?_, by rw [F_X10_follow, e2, clx_s, if10, show (2 : Int32) = nI 2 from rfl, q1]; rfl, ⟨W, G, b, h⟩, Kp.rf⟩
    rw [F_X9_follow, e1, clx_s, if10]
    rcases q2 with q2 | ⟨q2, q3⟩
    · rw [if_pos q2]
    · rw [if_neg q2, if_neg (show ¬ a1 ≤ (2 : Int32) from Int32.not_le.mpr q3)]
  have q1' : ∀ σx, F_X10_in (nI what) (0 : Int32) (2 : Int32) σx = some (1, σx) := fun σx => by
    rw [M_in, if_neg (nI_pos (by omega)), if_neg (show ¬ (2 : Int32) < nI what from nI_nlt (a := 2) hwh (by decide))]
  have hd1 := hd.1
  obtain ⟨σ1, s1, s2, h1, hr, h0⟩ := h.stale0 (by omega)
  generalize hs : sqN (nxt G W (T0 W)) d = s
  have hs0 : s 0 = d := by rw [← hs]; rfl
  have hsS : ∀ k, s (k + 1) = nxt G W (T0 W) (s k) := fun k => by rw [← hs]; rfl
  have hday : ∀ k, isDy W (s k) := fun k => by
    cases k with
    | zero => rw [hs0]; exact hd
    | succ k => rw [hsS]; exact nxt_day ok
  have hlt : ∀ k, s k < 1024 := fun k => (hday k).1
  have hK := hitN_lt hlt
  generalize hKK : hitN s = K at *
  obtain ⟨z, hz, hze⟩ : ∃ z, z < K ∧ s z = s K := by
    have := fsN_at (n := 1025) (f := hitF s) (by rw [← hKK] at hK; exact hK)
    rw [show fsN 1025 (hitF s) = K from hKK] at this
    exact hit_iff.mp this
  have hno : ∀ k, k < K → ∀ j, j < k → s j ≠ s k := fun k hk j hj e => by
    have : hitF s k = false := fsN_lt (n := 1025) (by rw [show fsN 1025 (hitF s) = K from hKK]; exact hk)
    rw [hit_iff.mpr ⟨j, hj, e⟩] at this
    cases this
  generalize hR : (if what = 0 then nI K else if what = 1 then nI K - nI z else nI (s K)) = R
  -- the first one
  obtain ⟨σ2, c1, c2, c3⟩ : ∃ σ2, F_X2_followed N (nI d) (nI what) σ1 = some (R, σ2) ∧ Kp (fun i j => rgW i j ∨ i = 89) σ1 σ2 ∧ cK G W σ2 := by
    obtain ⟨σa, f1, f2, f3⟩ := fillI (N := N) (i := 89) (n := 1024) (v := -1) (by decide) (by omega) σ1
    unfold F_X2_followed
    rw [f1, clx_s, nmx_s]
    refine lp2U (Q := fun o => ∃ σ2, o = some (R, σ2) ∧ Kp (fun i j => rgW i j ∨ i = 89) σ1 σ2 ∧ cK G W σ2) K (fun k x σx => x = nI (s k) ∧ Kp (fun i j => rgW i j ∨ i = 89) σ1 σx ∧ cRd N G W σx ∧ mkd s k σx 89) ?_ (i := 0) (Nat.zero_le _) (by omega) ⟨by rw [hs0], f2.le (fun i j q => Or.inr q.1), hr.kp f2 (fun i j q => ?_), fun j hj => absurd hj (Nat.not_lt_zero _), fun v hv _ => f3 v hv⟩
    · rintro r k x σx hk ⟨rfl, hkp, hrx, hmk⟩
      have hsk := hlt k
      unfold B_X2_followed_L13
      rw [show (1024 : Int32) = nI 1024 from rfl, ite_le (by decide) (by omega)]
      rcases Nat.lt_or_ge k K with hkK | hkK
      · right
        refine ⟨hkK, ?_⟩
        obtain ⟨σy, g1, g2, g3⟩ := C_nextDay (N := N) (G := G) (W := W) (T := T0 W) (σ := upI σx 89 (s k) (nI k)) (by omega) ok (hrx.D.kp (Kp.rf.I (reg := fun i _ => i = 89) rfl) (fun i j q => by unfold cwR lcR at q; omega)) (show s k < 2 ^ 31 by omega)
        rw [if_neg (by omega), aIx_k hsk (by decide), hmk.2 (s k) hsk (hno k hkK), if_neg (by decide), sIx_k hsk (by decide), g1, clx_s, nI_add1]
        refine ⟨_, _, ⟨by rw [hsS], (hkp.I (Or.inr rfl)).tr (g2.le (fun i j q => Or.inl q)), ?_, ?_⟩, rfl⟩
        · exact (hrx.kp (Kp.rf.I (reg := fun i _ => i = 89) rfl) (fun i j q => by unfold cwR lcR at q; omega)).up g2 g3.2.2.2
        · exact (hmk.step (hno k hkK)).of (fun j => (g2 89 j (by unfold rgW; omega)).1)
      · left
        have ek : k = K := by omega
        subst ek
        have hJ : (fun (x1 : Int32) (x2 : Int32) (σ2 : Sx) => (if nI what = 0 then some (x2, σ2) else (if nI what = (1 : Int32) then aIx 89 1024 x1 σ2 (fun v1 => some ((x2 - v1), σ2)) else some (x1, σ2)))) (nI (s k)) (nI k) σx = some (R, σx) := by
          dsimp only
          rw [← hR, aIx_k hsk (by decide), ← hze, hmk.1 z hz]
          match what, hwh with
          | 0, _ => rfl
          | 1, _ => rfl
          | 2, _ => rfl
        have hfin : ∃ σ2, (fun (x1 : Int32) (x2 : Int32) (σ2 : Sx) => (if nI what = 0 then some (x2, σ2) else (if nI what = (1 : Int32) then aIx 89 1024 x1 σ2 (fun v1 => some ((x2 - v1), σ2)) else some (x1, σ2)))) (nI (s k)) (nI k) σx = some (R, σ2) ∧ Kp (fun i j => rgW i j ∨ i = 89) σ1 σ2 ∧ cK G W σ2 := ⟨σx, hJ, hkp, hrx.2.2.2.1⟩
        by_cases q : 1024 ≤ k
        · rw [if_pos q]
          exact hfin
        · rw [if_neg q, aIx_k hsk (by decide), ← hze, hmk.1 z hz, if_pos (nI_pos' (by omega)), hze]
          exact hfin
    · unfold cwR lcR at q
      omega
  have h2 : RW N W G b σ2 := by
    have k2 : ∀ i j, ¬ (rgW i j ∨ i = 89) → siI σ2 i j = siI σ1 i j := fun i j q => (c2 i j q).1
    have h1r : cRd N G W σ2 := by
      obtain ⟨r1, r2, r3, r4, r5, r6⟩ := hr
      refine ⟨r1.kp c2 (fun i j q => by unfold cwR at q; unfold rgW; omega), r2.kp c2 (fun i j q => by unfold lcR at q; unfold rgW; omega), fun w hw => ?_, c3, r5.of (fun i j q => k2 i j (by unfold rgL at q; unfold rgW; omega)), ?_, r6.2.of (fun j => k2 88 j (by unfold rgW; omega))⟩
      · rw [k2 85 w (by unfold rgW; omega), k2 86 w (by unfold rgW; omega)]
        exact r3 w hw
      · rw [k2 3 10 (by unfold rgW; omega)]
        exact r6.1
    refine h1.mk2 (fun i j q => k2 i j ?_) (Or.inr ⟨by rw [k2 3 2 (by unfold rgW; omega)]; exact h0, h1r⟩)
    unfold rwR cwR mwR lcR lmR ccR at q
    unfold rgW
    omega
  -- the other one
  obtain ⟨σ3, f1, f2, f3, T, hT, f4⟩ := h2.sights (by omega)
  have h3 := h2.F f2.S
  obtain ⟨σ4, g1, g2⟩ : ∃ σ4, F_X10_follow N (nI d) (nI what) σ2 = some (R, σ4) ∧ Kp (fun i _ => i = 127) σ3 σ4 := by
    rw [F_X10_follow, h2.nx hN hd, clx_s, if10, q1', clx_s, if10, f1, clx_s, nmx_s]
    refine lp1U (Q := fun o => ∃ σ4, o = some (R, σ4) ∧ Kp (fun i _ => i = 127) σ3 σ4) 1024 (fun k σx => Kp (fun i _ => i = 127) σ3 σx ∧ ∀ v, v < k → siI σx 127 v = -1) ?_ (i := 0) (Nat.zero_le _) (by omega) ⟨Kp.rf, fun v q => absurd q (Nat.not_lt_zero _)⟩
    rintro r k σx hk ⟨hkp, hv⟩
    unfold B_X10_follow_L25
    rw [show (1024 : Int32) = nI 1024 from rfl, ite_le (by decide) (by omega)]
    by_cases hlk : 1024 ≤ k
    · left
      rw [if_pos hlk]
      dsimp only
      rw [nmx_s]
      refine lp2U (Q := fun o => ∃ σ4, o = some (R, σ4) ∧ Kp (fun i _ => i = 127) σ3 σ4) K (fun k x σx => x = nI (s k) ∧ Kp (fun i _ => i = 127) σ3 σx ∧ mkd s k σx 127) ?_ (i := 0) (Nat.zero_le _) (by omega) ⟨by rw [hs0], hkp, fun j hj => absurd hj (Nat.not_lt_zero _), fun v q _ => hv v (by omega)⟩
      rintro r2 k x σx hk2 ⟨rfl, hkp, hmk⟩
      have hsk := hlt k
      unfold B_X10_follow_L50
      rcases Nat.lt_or_ge k K with hkK | hkK
      · right
        refine ⟨hkK, ?_⟩
        have hk' : Kp (fun i _ => i = 127) σ3 (upI σx 127 (s k) (nI k)) := hkp.I rfl
        have hm' : mW W (upI σx 127 (s k) (nI k)) := h3.2.2.1.kp hk' (fun i j q => by unfold mwR at q; omega)
        have hs' : mS G W T (upI σx 127 (s k) (nI k)) := f4.of (fun i j q => (hk' i j (by omega)).1)
        rw [aIx_k hsk (by decide), hmk.2 (s k) hsk (hno k hkK), if_neg (by decide), sIx_k hsk (by decide), M_nextOf (by omega) ok hm' hs' (hday k), clx_s, nI_add1]
        exact ⟨_, _, ⟨by rw [hsS, hT.nx], hk', hmk.step (hno k hkK)⟩, rfl⟩
      · left
        have ek : k = K := by omega
        subst ek
        refine ⟨σx, ?_, hkp⟩
        rw [aIx_k hsk (by decide), ← hze, hmk.1 z hz, if_pos (nI_pos' (by omega))]
        dsimp only
        rw [← hR, hze, aIx_k hsk (by decide), ← hze, hmk.1 z hz]
        match what, hwh with
        | 0, _ => rfl
        | 1, _ => rfl
        | 2, _ => rfl
    · right
      refine ⟨by omega, upI σx 127 k (-1), ⟨hkp.I rfl, fun v q => ?_⟩, by rw [if_neg hlk, sIx_k (by omega) (by decide), nI_add1]⟩
      by_cases e : v = k
      · rw [e, uI_s]
      · rw [uI_j e]
        exact hv v (by omega)
  have h4 : RW N W G b σ4 := h3.kp g2 (fun i j q => by
    unfold rwR cwR mwR lcR lmR ccR dyR at q
    omega)
  refine ⟨R, σ2, σ4, ?_, g1, ⟨W, G, b, h4⟩, (((rgA_D s2).tr (c2.le (fun i j q => by unfold rgW at q; unfold rgA otR; omega))).tr (rgA_F f2.S)).tr (g2.le (fun i j q => by unfold rgA otR; omega))⟩
  rw [F_X9_follow, e1, clx_s, if10, if_neg (nI_pos (by omega)), if_pos (show nI what ≤ (2 : Int32) from nI_le (b := 2) hwh (by decide)), s1, clx_s, c1, clx_s]
