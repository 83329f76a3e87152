/-! cheapest -/
def isBs (S : Nat → Prop) (c : Nat → Nat) (d : Nat) : Prop := S d ∧ ∀ e, S e → c d < c e ∨ (c d = c e ∧ d ≤ e)
theorem isBs.uniq {S : Nat → Prop} {c : Nat → Nat} {d e : Nat} (h : isBs S c d) (g : isBs S c e) : d = e := by
  have h1 := h.2 e g.1
  have h2 := g.2 d h.1
  omega
theorem isBs.congr {S T : Nat → Prop} {c : Nat → Nat} {d : Nat} (h : isBs S c d) (e : ∀ x, S x ↔ T x) : isBs T c d := ⟨(e d).mp h.1, fun x hx => h.2 x ((e x).mpr hx)⟩
theorem isBs.keep {S : Nat → Prop} {c : Nat → Nat} {d e : Nat} (h : isBs S c d) (hl : d < e) (hc : c d ≤ c e) : isBs (fun x => S x ∨ x = e) c d := ⟨Or.inl h.1, fun x hx => by
  rcases hx with hx | rfl
  · exact h.2 x hx
  · omega⟩
theorem isBs.new {S : Nat → Prop} {c : Nat → Nat} {d e : Nat} (h : isBs S c d) (hc : c e < c d) : isBs (fun x => S x ∨ x = e) c e := ⟨Or.inr rfl, fun x hx => by
  rcases hx with hx | rfl
  · have := h.2 x hx
    omega
  · omega⟩
theorem isBs.one {S : Nat → Prop} {c : Nat → Nat} {e : Nat} (h : ∀ x, ¬ S x) : isBs (fun x => S x ∨ x = e) c e := ⟨Or.inr rfl, fun x hx => by
  rcases hx with hx | rfl
  · exact absurd hx (h x)
  · omega⟩
theorem s_cheapest {N : Nat} (hN : 1100 < N) (a0 a1 a2 : Int32) {σ : Sx} (h : ReW N σ) : StI (ReW N) rgA σ (F_X9_cheapest N a0 a1 a2 σ) (F_X10_cheapest N a0 a1 a2) := by
  obtain ⟨W, G, b, h⟩ := h
  obtain ⟨ok, hc, hm⟩ := h.of3
  have hn := ok.nw
  rcases two_walker ok a0 hc.1 hm.1 with ⟨e1, e2⟩ | ⟨w, hw, rfl, e1, e2⟩
  · exact ⟨-1, σ, σ, by rw [F_X9_cheapest, e1]; rfl, by rw [F_X10_cheapest, e2]; rfl, ⟨W, G, b, h⟩, Kp.rf⟩
  rcases two_place a1 σ with ⟨e3, e4⟩ | ⟨p, hp, rfl, e3, e4⟩
  · exact ⟨-1, σ, σ, by rw [F_X9_cheapest, e1, clx_s, if10, e3]; rfl, by rw [F_X10_cheapest, e2, clx_s, if10, e4]; rfl, ⟨W, G, b, h⟩, Kp.rf⟩
  rcases two_01 a2 σ with ⟨e5, e6⟩ | ⟨h01, e5, e6⟩
  · exact ⟨-1, σ, σ, by rw [F_X9_cheapest, e1, clx_s, if10, e3, clx_s, if10, e5]; rfl, by rw [F_X10_cheapest, e2, clx_s, if10, e4, clx_s, if10, e6]; rfl, ⟨W, G, b, h⟩, Kp.rf⟩
  obtain ⟨σ1, s1, s2, h1, hr, h0⟩ := h.stale0 (by omega)
  have hsz := szN_1024 ok hn
  -- the days on which w never is in p
  generalize hS : (fun d => isDy W d ∧ ¬ gby W (4 * w + dg d w) p = true) = S
  have hSd : ∀ d, S d ↔ (isDy W d ∧ ¬ gby W (4 * w + dg d w) p = true) := fun d => by rw [← hS]
  obtain ⟨R, hR⟩ : ∃ R : Int32, ((∀ d, ¬ S d) ∧ R = -2) ∨ ∃ d, isBs S (cst G W (T0 W)) d ∧ R = (if a2 = 0 then nI (cst G W (T0 W) d) else nI d) := by
    by_cases q : ∃ d, isBs S (cst G W (T0 W)) d
    · obtain ⟨d, q⟩ := q
      exact ⟨_, Or.inr ⟨d, q, rfl⟩⟩
    · refine ⟨-2, Or.inl ⟨?_, rfl⟩⟩
      -- a set of days that isn't empty has a best one
      intro d0 hd0
      have key : ∀ n, (∀ d, S d → n ≤ d) ∨ ∃ d, isBs (fun x => S x ∧ x < n) (cst G W (T0 W)) d := by
        intro n
        induction n with
        | zero => exact Or.inl (fun _ _ => Nat.zero_le _)
        | succ n ih =>
          by_cases hs : S n
          · right
            rcases ih with ih | ⟨d, hd⟩
            · refine ⟨n, ⟨hs, by omega⟩, fun e he => ?_⟩
              have := ih e he.1
              have := he.2
              rw [show e = n by omega]
              omega
            · have hx : ∀ x, ((fun x => S x ∧ x < n) x ∨ x = n) ↔ (S x ∧ x < n + 1) := fun x => by
                constructor
                · rintro (⟨q1, q2⟩ | rfl)
                  · exact ⟨q1, by omega⟩
                  · exact ⟨hs, by omega⟩
                · rintro ⟨q1, q2⟩
                  by_cases e : x = n
                  · exact Or.inr e
                  · exact Or.inl ⟨q1, by omega⟩
              rcases Nat.lt_or_ge (cst G W (T0 W) n) (cst G W (T0 W) d) with q | q
              · exact ⟨n, (hd.new q).congr hx⟩
              · exact ⟨d, (hd.keep hd.1.2 q).congr hx⟩
          · have hx : ∀ x, (S x ∧ x < n) ↔ (S x ∧ x < n + 1) := fun x => by
              constructor
              · rintro ⟨q1, q2⟩
                exact ⟨q1, by omega⟩
              · rintro ⟨q1, q2⟩
                refine ⟨q1, ?_⟩
                rcases Nat.lt_or_ge x n with z | z
                · exact z
                · exact absurd (show S n by rw [show n = x by omega]; exact q1) hs
            rcases ih with ih | ⟨d, hd⟩
            · exact Or.inl (fun d hd => by
                have h1 := ih d hd
                by_cases e : d = n
                · rw [e] at hd
                  exact absurd hd hs
                · omega)
            · exact Or.inr ⟨d, hd.congr hx⟩
      rcases key 1024 with k | ⟨d, hd⟩
      · have := k d0 hd0
        have := ((hSd d0).mp hd0).1.1
        omega
      · exact q ⟨d, hd.congr (fun x => ⟨fun z => z.1, fun z => ⟨z, ((hSd x).mp z).1.1⟩⟩)⟩
  -- the list
  obtain ⟨σ2, c1, c2, c3⟩ : ∃ σ2, F_X5_cheapestWithout N (nI w) (nI p) a2 σ1 = some (R, σ2) ∧ Kp rgW σ1 σ2 ∧ cK G W σ2 := by
    unfold F_X5_cheapestWithout
    rw [nmx_s]
    refine lp3U (Q := fun o => ∃ σ2, o = some (R, σ2) ∧ Kp rgW σ1 σ2 ∧ cK G W σ2) (szN W (W 0 0)) (fun k x y σx => Kp rgW σ1 σx ∧ cRd N G W σx ∧ ((x = -2 ∧ y = -2 ∧ ∀ d, ¬ (S d ∧ ∃ j, j < k ∧ nmN W (W 0 0) j = d)) ∨ ∃ d, isBs (fun d => S d ∧ ∃ j, j < k ∧ nmN W (W 0 0) j = d) (cst G W (T0 W)) d ∧ x = nI (cst G W (T0 W) d) ∧ y = nI d)) ?_ (i := 0) (Nat.zero_le _) (by omega) ⟨Kp.rf, hr, Or.inl ⟨rfl, rfl, fun d q => by obtain ⟨-, j, q, -⟩ := q; omega⟩⟩
    rintro r k x y σx hk ⟨hkp, hrx, hxy⟩
    unfold B_X5_cheapestWithout_L11
    rw [hrx.2.2.2.2.1.1, ite_le (by omega) (by omega)]
    by_cases hlt : szN W (W 0 0) ≤ k
    · left
      rw [if_pos hlt]
      have ext : ∀ d, (S d ∧ ∃ j, j < k ∧ nmN W (W 0 0) j = d) ↔ S d := fun d => ⟨fun q => q.1, fun q => ⟨q, by
        obtain ⟨j, hj, e⟩ := day_nm ok ((hSd d).mp q).1
        exact ⟨j, by omega, e⟩⟩⟩
      refine ⟨σx, ?_, hkp, hrx.2.2.2.1⟩
      rcases hxy with ⟨rfl, rfl, hno⟩ | ⟨d, hbd, rfl, rfl⟩
      · rcases hR with ⟨-, rfl⟩ | ⟨d, hd, -⟩
        · rcases h01 with rfl | rfl <;> rfl
        · exact absurd ((ext d).mpr hd.1) (hno d)
      · rcases hR with ⟨hno, -⟩ | ⟨e, he, rfl⟩
        · exact absurd ((ext d).mp hbd.1) (hno d)
        · rw [(hbd.congr ext).uniq he]
          rcases h01 with rfl | rfl <;> rfl
    right
    have hk2 : k < szN W (W 0 0) := by omega
    refine ⟨hk2, ?_⟩
    have hd := nm_day ok hk2
    have hd1 := hd.1
    have hlow : ∀ d, (∃ j, j < k ∧ nmN W (W 0 0) j = d) → d < nmN W (W 0 0) k := fun d ⟨j, hj, e⟩ => by
      rw [← e]
      exact nmN_mono ok _ j k (Nat.le_refl _) hj hk2
    rw [if_neg hlt, aIx_k (show k < 1024 by omega) (by decide), (hrx.2.2.2.2.1.2 k hk2).1, C_wayOn (by omega) (by omega), clx_s, C_goesBy (by omega) ok hrx.1 (hd.idx ok hw) (by omega), clx_s, nmx_s, if_b2i, nI_add1]
    by_cases hg : gby W (4 * w + dg (nmN W (W 0 0) k) w) p = true
    · rw [if_pos hg]
      have ext : ∀ d, (S d ∧ ∃ j, j < k ∧ nmN W (W 0 0) j = d) ↔ (S d ∧ ∃ j, j < k + 1 ∧ nmN W (W 0 0) j = d) := fun d => by
        constructor
        · rintro ⟨q1, j, q2, q3⟩
          exact ⟨q1, j, by omega, q3⟩
        · rintro ⟨q1, j, q2, q3⟩
          by_cases e : j = k
          · subst e
            subst q3
            exact absurd hg ((hSd _).mp q1).2
          · exact ⟨q1, j, by omega, q3⟩
      refine ⟨x, y, σx, ⟨hkp, hrx, ?_⟩, rfl⟩
      rcases hxy with ⟨q1, q2, q3⟩ | ⟨d, q1, q2, q3⟩
      · exact Or.inl ⟨q1, q2, fun d q => q3 d ((ext d).mpr q)⟩
      · exact Or.inr ⟨d, q1.congr ext, q2, q3⟩
    · obtain ⟨σy, g1, g2, g3⟩ := C_costOf (N := N) (by omega) ok hrx.D (show nmN W (W 0 0) k < 2 ^ 31 by omega)
      have hcl := cst_le (G := G) (T := T0 W) (d := nmN W (W 0 0) k) ok
      have hry := hrx.up g2 g3.2.2.2
      have hSk : S (nmN W (W 0 0) k) := (hSd _).mpr ⟨hd, hg⟩
      have ext : ∀ d, ((S d ∧ ∃ j, j < k ∧ nmN W (W 0 0) j = d) ∨ d = nmN W (W 0 0) k) ↔ (S d ∧ ∃ j, j < k + 1 ∧ nmN W (W 0 0) j = d) := fun d => by
        constructor
        · rintro (⟨q1, j, q2, q3⟩ | rfl)
          · exact ⟨q1, j, by omega, q3⟩
          · exact ⟨hSk, k, by omega, rfl⟩
        · rintro ⟨q1, j, q2, q3⟩
          by_cases e : j = k
          · subst e
            exact Or.inr q3.symm
          · exact Or.inl ⟨q1, j, by omega, q3⟩
      rw [if_neg hg, aIx_k (show k < 1024 by omega) (by decide), (hrx.2.2.2.2.1.2 k hk2).2, g1, clx_s, nmx_s]
      rcases hxy with ⟨rfl, rfl, q3⟩ | ⟨d, q1, rfl, rfl⟩
      · rw [if_pos rfl]
        exact ⟨_, _, σy, ⟨hkp.tr g2, hry, Or.inr ⟨_, (isBs.one q3).congr ext, rfl, rfl⟩⟩, rfl⟩
      · have hcd := cst_le (G := G) (T := T0 W) (d := d) ok
        rw [if_neg (ne_m2 (by omega)), ite_le (by omega) (by omega)]
        by_cases q : cst G W (T0 W) d ≤ cst G W (T0 W) (nmN W (W 0 0) k)
        · rw [if_pos q]
          exact ⟨_, _, σy, ⟨hkp.tr g2, hry, Or.inr ⟨d, (q1.keep (hlow d q1.1.2) q).congr ext, rfl, rfl⟩⟩, rfl⟩
        · rw [if_neg q]
          exact ⟨_, _, σy, ⟨hkp.tr g2, hry, Or.inr ⟨_, (q1.new (by omega)).congr ext, rfl, rfl⟩⟩, rfl⟩
  obtain ⟨h2, -⟩ := h1.wrk hr c2 c3 h0
  obtain ⟨σ3, f1, f2, f3, T, hT, f4⟩ := h2.sights (by omega)
  have h3 := h2.F f2.S
  have e4' : F_X10_isPlace (nI p) σ2 = some (1, σ2) := by
    rcases two_place (nI p) σ2 with ⟨-, q⟩ | ⟨p2, hp2, -, -, q⟩
    · unfold F_X10_isPlace at q
      rw [M_in, if_neg (nI_pos (by omega)), if_neg (show ¬ (7 : Int32) < nI p from nI_nlt (a := 7) (by omega) (by decide))] at q
      exact absurd q (by unfold rZx; simp [clx_s])
    · exact q
  have e6' : F_X10_in a2 (0 : Int32) (1 : Int32) σ2 = some (1, σ2) := by
    rcases h01 with rfl | rfl <;> rfl
  refine ⟨R, σ2, σ3, ?_, ?_, ⟨W, G, b, h3⟩, ((rgA_D s2).tr (rgA_W c2)).tr (rgA_F f2.S)⟩
  · rw [F_X9_cheapest, e1, clx_s, if10, e3, clx_s, if10, e5, clx_s, if10, s1, clx_s, c1, clx_s]
  · rw [F_X10_cheapest, h2.iw hw, clx_s, if10, e4', clx_s, if10, e6', clx_s, if10, f1, clx_s, nmx_s]
    refine lp3U (Q := fun o => o = some (R, σ3)) 1024 (fun k x y σx => σx = σ3 ∧ ((x = -1 ∧ ∀ d, ¬ (S d ∧ d < k)) ∨ ∃ d, isBs (fun d => S d ∧ d < k) (cst G W (T0 W)) d ∧ x = nI d ∧ y = nI (cst G W (T0 W) d))) ?_ (i := 0) (Nat.zero_le _) (by omega) ⟨rfl, Or.inl ⟨rfl, fun d q => absurd q.2 (Nat.not_lt_zero _)⟩⟩
    rintro r k x y σx hk ⟨rfl, hxy⟩
    unfold B_X10_cheapest_L39
    rw [show (1024 : Int32) = nI 1024 from rfl, ite_le (by decide) (by omega)]
    by_cases hlt : 1024 ≤ k
    · left
      rw [if_pos hlt]
      have ext : ∀ d, (S d ∧ d < k) ↔ S d := fun d => ⟨fun q => q.1, fun q => ⟨q, by
        have := ((hSd d).mp q).1.1
        omega⟩⟩
      dsimp only
      rcases hxy with ⟨rfl, hno⟩ | ⟨d, hbd, rfl, rfl⟩
      · rcases hR with ⟨-, rfl⟩ | ⟨d, hd, -⟩
        · rfl
        · exact absurd ((ext d).mpr hd.1) (hno d)
      · have hd1 := ((hSd d).mp hbd.1.1).1.1
        rw [if_pos (nI_pos' (by omega))]
        rcases hR with ⟨hno, -⟩ | ⟨e, he, rfl⟩
        · exact absurd ((ext d).mp hbd.1) (hno d)
        · rw [(hbd.congr ext).uniq he]
          rcases h01 with rfl | rfl <;> rfl
    right
    have hk2 : k < 1024 := by omega
    refine ⟨hk2, ?_⟩
    have extN : ¬ S k → ∀ d, (S d ∧ d < k) ↔ (S d ∧ d < k + 1) := fun hno d => by
      constructor
      · rintro ⟨q1, q2⟩
        exact ⟨q1, by omega⟩
      · rintro ⟨q1, q2⟩
        refine ⟨q1, ?_⟩
        by_cases e : d = k
        · rw [e] at q1
          exact absurd q1 hno
        · omega
    have keep : ¬ S k → ∃ x' y' σ', (σ' = σx ∧ ((x' = -1 ∧ ∀ d, ¬ (S d ∧ d < k + 1)) ∨ ∃ d, isBs (fun d => S d ∧ d < k + 1) (cst G W (T0 W)) d ∧ x' = nI d ∧ y' = nI (cst G W (T0 W) d))) ∧ r x y (nI (k + 1)) σx = r x' y' (nI (k + 1)) σ' := fun hno => by
      refine ⟨x, y, σx, ⟨rfl, ?_⟩, rfl⟩
      rcases hxy with ⟨q1, q2⟩ | ⟨d, q1, q2, q3⟩
      · exact Or.inl ⟨q1, fun d q => q2 d ((extN hno d).mpr q)⟩
      · exact Or.inr ⟨d, q1.congr (extN hno), q2, q3⟩
    rw [if_neg hlt, nI_add1]
    rcases M_isDay (N := N) (by omega) ok h3.2.2.1 hk2 with ⟨d1, d2⟩ | ⟨d1, d2⟩
    · rw [d2, clx_s, nmx_s, if10, M_wayIn (by omega) (by omega), clx_s, M_isEverIn (by omega) ok h3.2.2.1 hw (d1.way ok hw) (by omega), clx_s, if_b2i]
      by_cases hg : gby W (4 * w + dg k w) p = true
      · rw [if_pos hg]
        exact keep (fun q => ((hSd k).mp q).2 hg)
      · have hSk : S k := (hSd k).mpr ⟨d1, hg⟩
        have hck := cst_le (G := G) (T := T0 W) (d := k) ok
        have ext : ∀ d, ((S d ∧ d < k) ∨ d = k) ↔ (S d ∧ d < k + 1) := fun d => by
          constructor
          · rintro (⟨q1, q2⟩ | rfl)
            · exact ⟨q1, by omega⟩
            · exact ⟨hSk, by omega⟩
          · rintro ⟨q1, q2⟩
            by_cases e : d = k
            · exact Or.inr e
            · exact Or.inl ⟨q1, by omega⟩
        rw [if_neg hg, M_besideOn (by omega) ok h3.2.2.1 f4 d1, hT.cs, clx_s, nmx_s]
        rcases hxy with ⟨rfl, q3⟩ | ⟨d, q1, rfl, rfl⟩
        · rw [if_pos (by decide)]
          exact ⟨_, _, _, ⟨rfl, Or.inr ⟨k, (isBs.one q3).congr ext, rfl, rfl⟩⟩, rfl⟩
        · have hcd := cst_le (G := G) (T := T0 W) (d := d) ok
          have hdk := q1.1.2
          rw [if_neg (nI_pos (by omega)), ite_lt (by omega) (by omega)]
          by_cases q : cst G W (T0 W) k < cst G W (T0 W) d
          · rw [if_pos q]
            exact ⟨_, _, _, ⟨rfl, Or.inr ⟨k, (q1.new q).congr ext, rfl, rfl⟩⟩, rfl⟩
          · rw [if_neg q]
            exact ⟨_, _, _, ⟨rfl, Or.inr ⟨d, (q1.keep hdk (by omega)).congr ext, rfl, rfl⟩⟩, rfl⟩
    · rw [d2, clx_s, nmx_s, if_pos rfl]
      exact keep (fun q => d1 ((hSd k).mp q).1)
