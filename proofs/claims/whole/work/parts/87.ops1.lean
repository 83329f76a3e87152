/-! CALLS THAT ASK THE WORLD AND THE DAYS -/
theorem RW.of3 {N : Nat} {W : Wd} {G : Gt} {b : Bool} {σ : Sx} (h : RW N W G b σ) : okW W ∧ cW W σ ∧ mW W σ := ⟨h.1, h.2.1, h.2.2.1⟩
theorem RW.C {N : Nat} {W : Wd} {G : Gt} {b : Bool} {σ σ2 : Sx} (h : RW N W G b σ) (k : Kp (fun i _ => i = 123) σ σ2) : RW N W G b σ2 := h.F (k.le (fun i j q => by unfold rgF; omega))
theorem s_where {N : Nat} (hN : 1100 < N) (a0 a1 a2 : Int32) {σ : Sx} (h : ReW N σ) : StI (ReW N) rgA σ (F_X9_where N a0 a1 a2 σ) (F_X10_where N a0 a1 a2) := by
  obtain ⟨W, G, b, h⟩ := h
  obtain ⟨ok, hc, hm⟩ := h.of3
  have hn := ok.nw
  unfold F_X9_where
  rcases two_day (N := N) (by omega) ok hc.2.2.1 hm a0 with ⟨e1, e2⟩ | ⟨d, hd, rfl, e1, e2⟩
  · exact ⟨-1, σ, σ, by rw [e1]; rfl, by rw [F_X10_where, e2]; rfl, ⟨W, G, b, h⟩, Kp.rf⟩
  rcases two_walker ok a1 hc.1 hm.1 with ⟨e3, e4⟩ | ⟨w, hw, rfl, e3, e4⟩
  · exact ⟨-1, σ, σ, by rw [e1, clx_s, if_neg (by decide), e3]; rfl, by rw [F_X10_where, e2, clx_s, if_neg (by decide), e4]; rfl, ⟨W, G, b, h⟩, Kp.rf⟩
  rcases two_minute a2 σ with ⟨e5, e6⟩ | ⟨m, hmm, rfl, e5, e6⟩
  · exact ⟨-1, σ, σ, by rw [e1, clx_s, if_neg (by decide), e3, clx_s, if_neg (by decide), e5]; rfl, by rw [F_X10_where, e2, clx_s, if_neg (by decide), e4, clx_s, if_neg (by decide), e6]; rfl, ⟨W, G, b, h⟩, Kp.rf⟩
  have hd1 := hd.1
  obtain ⟨σ2, f1, f2, f3⟩ := M_findMinutes (N := N) (by omega) ok hm
  have h2 := h.C f2
  refine ⟨plA W (4 * w + dg d w) (nI m), σ, σ2, ?_, ?_, ⟨W, G, b, h2⟩, rgA_F (f2.le (fun i j q => by unfold rgF; omega))⟩
  · rw [e1, clx_s, if_neg (by decide), e3, clx_s, if_neg (by decide), e5, clx_s, if_neg (by decide), C_wayOn (by omega) (by omega), clx_s, C_placeAt (by omega) ok hc _ (hd.idx ok hw), clx_s]
  · rw [F_X10_where, e2, clx_s, if_neg (by decide), e4, clx_s, if_neg (by decide), e6, clx_s, if_neg (by decide), f1, clx_s, M_wayIn (by omega) (by omega), clx_s, M_placeIn (by omega) ok h2.2.2.1 f3 _ hw (hd.way ok hw), clx_s]
theorem s_sees {N : Nat} (hN : 1100 < N) (a0 a1 a2 : Int32) {σ : Sx} (h : ReW N σ) : StI (ReW N) rgA σ (F_X9_sees N a0 a1 a2 σ) (F_X10_sees N a0 a1 a2) := by
  obtain ⟨W, G, b, h⟩ := h
  obtain ⟨ok, hc, hm⟩ := h.of3
  have hn := ok.nw
  unfold F_X9_sees
  rcases two_day (N := N) (by omega) ok hc.2.2.1 hm a0 with ⟨e1, e2⟩ | ⟨d, hd, rfl, e1, e2⟩
  · exact ⟨-1, σ, σ, by rw [e1]; rfl, by rw [F_X10_sees, e2]; rfl, ⟨W, G, b, h⟩, Kp.rf⟩
  rcases two_place a1 σ with ⟨e3, e4⟩ | ⟨p, hp, rfl, e3, e4⟩
  · exact ⟨-1, σ, σ, by rw [e1, clx_s, if_neg (by decide), e3]; rfl, by rw [F_X10_sees, e2, clx_s, if_neg (by decide), e4]; rfl, ⟨W, G, b, h⟩, Kp.rf⟩
  rcases two_minute a2 σ with ⟨e5, e6⟩ | ⟨m, hmm, rfl, e5, e6⟩
  · exact ⟨-1, σ, σ, by rw [e1, clx_s, if_neg (by decide), e3, clx_s, if_neg (by decide), e5]; rfl, by rw [F_X10_sees, e2, clx_s, if_neg (by decide), e4, clx_s, if_neg (by decide), e6]; rfl, ⟨W, G, b, h⟩, Kp.rf⟩
  have hd1 := hd.1
  obtain ⟨σ2, f1, f2, f3⟩ := M_findMinutes (N := N) (by omega) ok hm
  have h2 := h.C f2
  refine ⟨nI (bst (W 0 0) (seB W d p m)), σ, σ2, ?_, ?_, ⟨W, G, b, h2⟩, rgA_F (f2.le (fun i j q => by unfold rgF; omega))⟩
  · rw [e1, clx_s, if_neg (by decide), e3, clx_s, if_neg (by decide), e5, clx_s, if_neg (by decide), C_tracks (by omega) ok hc (by omega) (by omega), clx_s, C_waysOn (by omega) ok hc (by omega), clx_s, C_seesOn ok, clx_s]
  · rw [F_X10_sees, e2, clx_s, if_neg (by decide), e4, clx_s, if_neg (by decide), e6, clx_s, if_neg (by decide), f1, clx_s, M_seesOn (by omega) ok h2.2.2.1 f3 hd (by omega) (by omega), clx_s]
theorem s_meet {N : Nat} (hN : 1100 < N) (a0 a1 : Int32) {σ : Sx} (h : ReW N σ) : StI (ReW N) rgA σ (F_X9_meet N a0 a1 σ) (F_X10_meet N a0 a1) := by
  obtain ⟨W, G, b, h⟩ := h
  obtain ⟨ok, hc, hm⟩ := h.of3
  have hn := ok.nw
  unfold F_X9_meet
  rcases two_day (N := N) (by omega) ok hc.2.2.1 hm a0 with ⟨e1, e2⟩ | ⟨d, hd, rfl, e1, e2⟩
  · exact ⟨-1, σ, σ, by rw [e1]; rfl, by rw [F_X10_meet, e2]; rfl, ⟨W, G, b, h⟩, Kp.rf⟩
  rcases two_01 a1 σ with ⟨e3, e4⟩ | ⟨h01, e3, e4⟩
  · exact ⟨-1, σ, σ, by rw [e1, clx_s, if_neg (by decide), e3]; rfl, by rw [F_X10_meet, e2, clx_s, if_neg (by decide), e4]; rfl, ⟨W, G, b, h⟩, Kp.rf⟩
  have hd1 := hd.1
  obtain ⟨σ2, f1, f2, f3⟩ := M_findMinutes (N := N) (by omega) ok hm
  have h2 := h.C f2
  obtain ⟨σ3, g1, g2, g3, g4⟩ := M_findMet (N := N) (by omega) ok h2.2.2.1 f3 hd
  obtain ⟨x, k1, k2⟩ := C_firstMeeting (N := N) (by omega) ok hc (show d < 2 ^ 31 by omega)
  have h3 : RW N W G b σ3 := h2.kp g2 (fun i j q => by
    unfold rwR cwR mwR lcR lmR ccR dyR at q
    unfold rgM
    omega)
  have kk : Kp rgA σ σ3 := (rgA_F (f2.le (fun i j q => by unfold rgF; omega))).tr (g2.le (fun i j q => by unfold rgM at q; unfold rgA otR; omega))
  rcases h01 with rfl | rfl
  · refine ⟨nI (metN W d), σ, σ3, ?_, ?_, ⟨W, G, b, h3⟩, kk⟩
    · rw [e1, clx_s, if_neg (by decide), e3, clx_s, if_neg (by decide), if_pos rfl, C_meetings (by omega) ok hc (by omega), clx_s]
    · rw [F_X10_meet, e2, clx_s, if_neg (by decide), e4, clx_s, if_neg (by decide), f1, clx_s, g1, clx_s, if_pos rfl, g3]
  · refine ⟨x, σ, σ3, ?_, ?_, ⟨W, G, b, h3⟩, kk⟩
    · rw [e1, clx_s, if_neg (by decide), e3, clx_s, if_neg (by decide), if_neg (by decide), k1, clx_s]
    · rw [F_X10_meet, e2, clx_s, if_neg (by decide), e4, clx_s, if_neg (by decide), f1, clx_s, g1, clx_s, if_neg (by decide), g4.uniq k2]
theorem C_heldDay {N : Nat} {G : Gt} {W : Wd} {σ : Sx} (ok : okW W) (h : cRd N G W σ) (a : Int32) : (F_X2_heldDay a σ = some (-2, σ) ∧ ∀ k, a = nI k → (hlL G W (T0 W)).length ≤ k) ∨ ∃ k, k < (hlL G W (T0 W)).length ∧ a = nI k ∧ F_X2_heldDay a σ = some (nI ((mlL G W (T0 W)).getD k 0), σ) := by
  have hn := ok.nw
  have hsz := szN_1024 ok hn
  have hlen : (hlL G W (T0 W)).length ≤ 1024 := Nat.le_trans (flt_len _ _) hsz
  unfold F_X2_heldDay
  rw [h.2.2.2.2.2.1]
  rcases arg_n a (n := (hlL G W (T0 W)).length) (by omega) with ha | ⟨ha, ha2⟩ | ⟨k, hk, rfl⟩
  · left
    rw [if_pos ha]
    refine ⟨rfl, ?_⟩
    rintro k rfl
    rcases Nat.lt_or_ge k (hlL G W (T0 W)).length with q | q
    · exact absurd ha (nI_pos (by omega))
    · exact q
  · left
    rw [if_neg ha, if_pos ha2]
    refine ⟨rfl, ?_⟩
    rintro k rfl
    rcases Nat.lt_or_ge k (hlL G W (T0 W)).length with q | q
    · exact absurd ha2 (nI_ge q (by omega))
    · exact q
  · right
    have hx := hl_at hk
    refine ⟨k, hk, rfl, ?_⟩
    rw [if_neg (nI_pos (by omega)), if_neg (nI_ge hk (by omega)), aIx_k (show k < 1024 by omega) (by decide), h.2.2.2.2.2.2 k hk, aIx_k (show _ < 1024 by omega) (by decide), (h.2.2.2.2.1.2 _ hx).1, (ml_at ok hk).2]
theorem ml_day {G : Gt} {W : Wd} {T : Nat → Nat → Bool} (ok : okW W) {k : Nat} (hk : k < (hlL G W T).length) : isDy W ((mlL G W T).getD k 0) := by
  rw [(ml_at ok hk).2]
  exact nm_day ok (hl_at hk)
theorem hl_1024 {G : Gt} {W : Wd} {T : Nat → Nat → Bool} (ok : okW W) : (hlL G W T).length ≤ 1024 := Nat.le_trans (flt_len _ _) (szN_1024 ok ok.nw)
theorem s_holding {N : Nat} (hN : 1100 < N) (a0 : Int32) {σ : Sx} (h : ReW N σ) : StI (ReW N) rgA σ (F_X9_holding N a0 σ) (F_X10_holding N a0) := by
  obtain ⟨W, G, b, h⟩ := h
  have ok := h.1
  unfold F_X9_holding
  by_cases h0 : (-1 : Int32) ≤ a0
  · obtain ⟨σ1, e1, e2, h1, hr⟩ := h.set (by omega)
    obtain ⟨σ2, f1, f2, -, -, f3, f4⟩ := h1.held (by omega)
    have h2 := h1.F f2
    have kk : Kp rgA σ σ2 := (rgA_D e2).tr (rgA_F f2)
    have hlen := hl_1024 (G := G) (T := T0 W) ok
    rw [if_pos h0, e1, clx_s]
    by_cases hm : a0 = -1
    · subst hm
      refine ⟨_, σ1, σ2, by rw [if_pos rfl], ?_, ⟨W, G, b, h2⟩, kk⟩
      rw [F_X10_holding, if_pos h0, f1, clx_s, if_neg (by decide), f3, hr.2.2.2.2.2.1]
    · rw [if_neg hm]
      have hp : 0 ≤ a0 := by
        rw [Int32.le_iff_toInt_le] at h0 ⊢
        have q1 : (-1 : Int32).toInt = -1 := rfl
        have q2 : (0 : Int32).toInt = 0 := rfl
        have q3 : a0.toInt ≠ -1 := fun q => hm (Int32.toInt_inj.mp q)
        omega
      rcases C_heldDay ok hr a0 with ⟨g1, g2⟩ | ⟨k, hk, rfl, g1⟩
      · refine ⟨-2, σ1, σ2, by rw [g1, clx_s], ?_, ⟨W, G, b, h2⟩, kk⟩
        rw [F_X10_holding, if_pos h0, f1, clx_s, if_pos hp, f3, if_pos]
        obtain ⟨k, hk, rfl⟩ := nI_of (Int32.not_lt.mpr hp)
        exact nI_le (g2 k rfl) hk
      · refine ⟨_, σ1, σ2, by rw [g1, clx_s], ?_, ⟨W, G, b, h2⟩, kk⟩
        rw [F_X10_holding, if_pos h0, f1, clx_s, if_pos hp, f3, if_neg (nI_ge hk (by omega)), aIx_k (show k < 1024 by omega) (by decide), f4 k (by rw [ml_len ok]; exact hk)]
  · rw [if_neg h0]
    exact ⟨-1, σ, σ, rfl, by rw [F_X10_holding, if_neg h0], ⟨W, G, b, h⟩, Kp.rf⟩
theorem RW.stale0 {N : Nat} {W : Wd} {G : Gt} {b : Bool} {σ : Sx} (hN : 1024 < N) (h : RW N W G b σ) : ∃ σ2, F_X2_settle N σ = some ((), σ2) ∧ Kp rgD σ σ2 ∧ RW N W G b σ2 ∧ cRd N G W σ2 ∧ siI σ2 3 2 = 0 := by
  obtain ⟨σ2, e1, e2, e3, e4⟩ := C_settle hN h.1 h.2.1 h.2.2.2.1 h.2.2.2.2.2.2.1
  refine ⟨σ2, e1, e2, h.mk2 (fun i j q => (e2 i j ?_).1) (Or.inr ⟨e3, e4⟩), e4, e3⟩
  unfold rwR cwR mwR lcR lmR ccR at q
  unfold rgD
  omega
theorem s_day {N : Nat} (hN : 1100 < N) (a0 a1 : Int32) {σ : Sx} (h : ReW N σ) : StI (ReW N) rgA σ (F_X9_day N a0 a1 σ) (F_X10_day N a0 a1) := by
  obtain ⟨W, G, b, h⟩ := h
  obtain ⟨ok, hc, hm⟩ := h.of3
  have hn := ok.nw
  obtain ⟨σ1, s1, s2, h1, hr, h0⟩ := h.stale0 (by omega)
  obtain ⟨ok, hc1, hm1⟩ := h1.of3
  unfold F_X9_day
  rcases two_day (N := N) (by omega) ok hc.2.2.1 hm a0 with ⟨e1, e2⟩ | ⟨d, hd, rfl, e1, e2⟩
  · exact ⟨-1, σ, σ, by rw [e1]; rfl, by rw [F_X10_day, e2]; rfl, ⟨W, G, b, h⟩, Kp.rf⟩
  rcases two_01 a1 σ with ⟨e3, e4⟩ | ⟨h01, e3, e4⟩
  · exact ⟨-1, σ, σ, by rw [e1, clx_s, if_neg (by decide), e3]; rfl, by rw [F_X10_day, e2, clx_s, if_neg (by decide), e4]; rfl, ⟨W, G, b, h⟩, Kp.rf⟩
  have hd1 := hd.1
  have two : ∀ {σx : Sx}, cW W σx → mW W σx → F_X10_isDay N (nI d) σx = some (1, σx) := fun hcx hmx => by
    rcases M_isDay (N := N) (by omega) ok hmx hd1 with ⟨-, q⟩ | ⟨q, -⟩
    · exact q
    · exact absurd hd q
  have e4' : ∀ σx, F_X10_in a1 (0 : Int32) (1 : Int32) σx = some (1, σx) := fun σx => by
    rcases h01 with rfl | rfl <;> rfl
  have tail : ∀ σ2, RW N W G b σ2 → ∃ σ3, F_X10_findSights N σ2 = some ((), σ3) ∧ Kp rgF σ2 σ3 ∧ RW N W G b σ3 ∧ F_X10_holdsOn N (nI d) σ3 = some (b2i (hldB G W (T0 W) d), σ3) ∧ F_X10_besideOn N (nI d) σ3 = some (nI (cst G W (T0 W) d), σ3) := fun σ2 h2 => by
    obtain ⟨σ3, f1, f2, f3, T, hT, f4⟩ := h2.sights (by omega)
    have h3 := h2.F f2.S
    refine ⟨σ3, f1, f2.S, h3, ?_, ?_⟩
    · rcases M_holdsOn (N := N) (by omega) ok h3.2.2.1 f4 hd1 with ⟨-, q⟩ | ⟨q, -⟩
      · rw [q, hT.hld]
      · exact absurd hd q
    · rw [M_besideOn (by omega) ok h3.2.2.1 f4 hd, hT.cs]
  rcases h01 with rfl | rfl
  · obtain ⟨σ2, g1, g2, g3⟩ := C_isHeld (N := N) (by omega) ok hr.D (show d < 2 ^ 31 by omega)
    obtain ⟨h2, -⟩ := h1.wrk hr g2 g3.2.2.2 h0
    obtain ⟨σ3, t1, t2, t3, t4, -⟩ := tail σ2 h2
    refine ⟨b2i (hldB G W (T0 W) d), σ2, σ3, ?_, ?_, ⟨W, G, b, t3⟩, ((rgA_D s2).tr (rgA_W g2)).tr (rgA_F t2)⟩
    · rw [e1, clx_s, if_neg (by decide), e3, clx_s, if_neg (by decide), s1, clx_s, C_waysOn (by omega) ok hc1 (by omega), clx_s, if_neg (by decide), g1, clx_s, if_b2i]
      cases hldB G W (T0 W) d <;> rfl
    · rw [F_X10_day, two h2.2.1 h2.2.2.1, clx_s, if_neg (by decide), e4', clx_s, if_neg (by decide), t1, clx_s, if_pos rfl, t4, clx_s, if_b2i]
      cases hldB G W (T0 W) d <;> rfl
  · obtain ⟨σ2, g1, g2, g3⟩ := C_costOf (N := N) (by omega) ok hr.D (show d < 2 ^ 31 by omega)
    obtain ⟨h2, -⟩ := h1.wrk hr g2 g3.2.2.2 h0
    obtain ⟨σ3, t1, t2, t3, -, t4⟩ := tail σ2 h2
    refine ⟨nI (cst G W (T0 W) d), σ2, σ3, ?_, ?_, ⟨W, G, b, t3⟩, ((rgA_D s2).tr (rgA_W g2)).tr (rgA_F t2)⟩
    · rw [e1, clx_s, if_neg (by decide), e3, clx_s, if_neg (by decide), s1, clx_s, C_waysOn (by omega) ok hc1 (by omega), clx_s, if_pos rfl, g1, clx_s]
    · rw [F_X10_day, two h2.2.1 h2.2.2.1, clx_s, if_neg (by decide), e4', clx_s, if_neg (by decide), t1, clx_s, if_neg (by decide), t4, clx_s]
