/-! shoes -/
def shF (H : Nat → Nat) : Nat → Option (Nat × Nat)
  | 0 => none
  | l + 1 => if H l = 0 then shF H l else (match shF H l with
    | none => some (l, H l)
    | some q => if H l < q.2 then some (l, H l) else some q)
def oA (o : Option (Nat × Nat)) : Int32 := match o with
  | none => -2
  | some q => nI q.1
def oB (o : Option (Nat × Nat)) : Int32 := match o with
  | none => -2
  | some q => nI q.2
theorem shF_le {H : Nat → Nat} (h : ∀ l, H l ≤ 1024) : ∀ l q, shF H l = some q → q.1 ≤ l ∧ q.2 ≤ 1024 := by
  intro l
  induction l with
  | zero => intro q e; cases e
  | succ l ih =>
    intro q e
    rw [shF] at e
    by_cases h0 : H l = 0
    · rw [if_pos h0] at e
      have := ih q e
      exact ⟨by omega, this.2⟩
    · rw [if_neg h0] at e
      cases hs : shF H l with
      | none =>
        rw [hs] at e
        have := Option.some.inj e
        rw [← this]
        exact ⟨by dsimp only; omega, h l⟩
      | some p =>
        rw [hs] at e
        dsimp only at e
        have hp := ih p hs
        by_cases hq : H l < p.2
        · rw [if_pos hq] at e
          have := Option.some.inj e
          rw [← this]
          exact ⟨by dsimp only; omega, h l⟩
        · rw [if_neg hq] at e
          have := Option.some.inj e
          rw [← this]
          exact ⟨by omega, hp.2⟩
theorem shF_step {H : Nat → Nat} (h : ∀ l, H l ≤ 1024) (l : Nat) : (H l = 0 ∧ shF H (l + 1) = shF H l) ∨ (H l ≠ 0 ∧ oA (shF H l) = -2 ∧ oB (shF H l) = -2 ∧ shF H (l + 1) = some (l, H l)) ∨ (H l ≠ 0 ∧ ∃ a g, a ≤ l ∧ g ≤ 1024 ∧ oA (shF H l) = nI a ∧ oB (shF H l) = nI g ∧ ((H l < g ∧ shF H (l + 1) = some (l, H l)) ∨ (¬ H l < g ∧ shF H (l + 1) = shF H l))) := by
  by_cases h0 : H l = 0
  · exact Or.inl ⟨h0, by rw [shF, if_pos h0]⟩
  · right
    cases hs : shF H l with
    | none => exact Or.inl ⟨h0, rfl, rfl, by rw [shF, if_neg h0, hs]⟩
    | some p =>
      right
      have hp := shF_le h l p hs
      refine ⟨h0, p.1, p.2, hp.1, hp.2, rfl, rfl, ?_⟩
      by_cases hq : H l < p.2
      · exact Or.inl ⟨hq, by rw [shF, if_neg h0, hs]; dsimp only; rw [if_pos hq]⟩
      · exact Or.inr ⟨hq, by rw [shF, if_neg h0, hs]; dsimp only; rw [if_neg hq]⟩
/-- leads with w's before the try l -/
def cfN (W : Wd) (w l : Nat) : Nat → Nat := fun c => if c = w then (if l = 0 then W 1 w else l - 1) else W 1 c
theorem cfN_le {W : Wd} (ok : okW W) {w l : Nat} (hw : w < W 0 0) (hl : l ≤ 61) : ∀ c, c < W 0 0 → cfN W w l c ≤ 60 := fun c hc => by
  have h1 := (ok.2.1 w hw).1
  have h2 := (ok.2.1 c hc).1
  unfold cfN
  by_cases e : c = w
  · rw [if_pos e]
    by_cases e2 : l = 0
    · rw [if_pos e2]
      exact h1
    · rw [if_neg e2]
      omega
  · rw [if_neg e]
    exact h2
theorem wL_0 (W : Wd) (w : Nat) : wL W (cfN W w 0) = W := by
  funext a c
  unfold wL cfN
  by_cases e : a = 1
  · subst e
    rw [if_pos rfl]
    by_cases e2 : c = w
    · rw [if_pos e2, if_pos rfl, e2]
    · rw [if_neg e2]
  · rw [if_neg e]
theorem trk_T0 {W W2 : Wd} (h : ∀ w, w < W 0 0 → ∀ i, i < 20 → V0 W w i = V0 W2 w i) (h0 : W 0 0 = W2 0 0) (hn : W 0 0 ≤ 5) : eqT W (T0 W) (T0 W2) := fun w hw u hu v hv => by
  have := h w hw (4 * u + v) (by omega)
  unfold V0 at this
  unfold T0
  rw [← h0, decide_eq_true (show 4 * u + v < 4 * W 0 0 by omega), Bool.true_and, Bool.true_and] at this
  exact this
theorem bst_inj {n : Nat} {f g : Nat → Bool} (h : bst n f = bst n g) : ∀ i, i < n → f i = g i := fun i hi => by
  have e : (bst n f).testBit i = (bst n g).testBit i := by rw [h]
  rw [bst_tb, bst_tb, decide_eq_true hi, Bool.true_and, Bool.true_and] at e
  exact e
set_option maxHeartbeats 4000000 in
theorem s_shoes {N : Nat} (hN : 1100 < N) (a0 a1 : Int32) {σ : Sx} (h : ReW N σ) : StI (ReW N) rgA σ (F_X9_shoes N a0 a1 σ) (F_X10_shoes N a0 a1) := by
  obtain ⟨W, G, b, h⟩ := h
  obtain ⟨ok, hc, hm⟩ := h.of3
  have hn := ok.nw
  rcases two_walker ok a0 hc.1 hm.1 with ⟨e1, e2⟩ | ⟨w, hw, rfl, e1, e2⟩
  · exact ⟨-1, σ, σ, by rw [F_X9_shoes, e1]; rfl, by rw [F_X10_shoes, e2]; rfl, ⟨W, G, b, h⟩, Kp.rf⟩
  rcases two_01 a1 σ with ⟨e5, e6⟩ | ⟨h01, e5, e6⟩
  · exact ⟨-1, σ, σ, by rw [F_X9_shoes, e1, clx_s, if10, e5]; rfl, by rw [F_X10_shoes, e2, clx_s, if10, e6]; rfl, ⟨W, G, b, h⟩, Kp.rf⟩
  obtain ⟨σ1, s1, s2, h1, hr, h0⟩ := h.stale0 (by omega)
  have hld := (ok.2.1 w hw).1
  generalize hHH : (fun l => hwL G W (cfN W w (l + 1))) = H
  have hHv : ∀ l, hwL G W (cfN W w (l + 1)) = H l := fun l => by rw [← hHH]
  have hw5 : w < 5 := by omega
  have hH' : ∀ l, l ≤ 60 → H l ≤ 1024 := fun l hl => by
    rw [← hHv]
    exact hl_1024 (okW_L ok (cfN_le ok hw (by omega)))
  -- beyond 60 nothing is asked
  generalize hKK : (fun l => if l ≤ 60 then H l else 0) = K
  have hK : ∀ l, K l ≤ 1024 := fun l => by
    rw [← hKK]
    dsimp only
    by_cases e : l ≤ 60
    · rw [if_pos e]
      exact hH' l e
    · rw [if_neg e]
      omega
  have hKv : ∀ l, l ≤ 60 → K l = H l := fun l hl => by
    rw [← hKK]
    dsimp only
    rw [if_pos hl]
  generalize hR : (if a1 = 0 then oA (shF K 61) else oB (shF K 61)) = R
  have hb : h1.2.2.2.2.2.1 = h1.2.2.2.2.2.1 := rfl
  have hLN := h1.2.2.2.2.2.1
  have hG := hLN.2
  -- the first
  obtain ⟨σ2, c1, c2, c3, c4⟩ : ∃ σ2, F_X7_bestLead N (nI w) a1 σ1 = some (R, σ2) ∧ Kp (fun i j => rgE i j ∨ (i = 3 ∧ j = 2) ∨ (i = 23 ∧ j = w)) σ1 σ2 ∧ siI σ2 23 w = siI σ1 23 w ∧ siI σ2 3 2 = 1 := by
    have eNL : F_X2_lawNamesLead N σ1 = some (b2i b, σ1) := by
      unfold F_X2_lawNamesLead
      rw [hLN.1 σ1 (fun _ _ _ => rfl), clx_s]
      cases b <;> rfl
    unfold F_X7_bestLead
    rw [eNL, clx_s, C_lead ok hr.1 hw, clx_s, nmx_s]
    refine lp3U (Q := fun o => ∃ σ2, o = some (R, σ2) ∧ Kp (fun i j => rgE i j ∨ (i = 3 ∧ j = 2) ∨ (i = 23 ∧ j = w)) σ1 σ2 ∧ siI σ2 23 w = siI σ1 23 w ∧ siI σ2 3 2 = 1) 61 (fun l x y σx => x = oA (shF K l) ∧ y = oB (shF K l) ∧ Kp (fun i j => rgE i j ∨ (i = 23 ∧ j = w)) σ1 σx ∧ cRd N G (wL W (cfN W w l)) σx) ?_ (i := 0) (Nat.zero_le _) (by omega) ⟨rfl, rfl, Kp.rf, by rw [wL_0]; exact hr⟩
    rintro r l x y σx hl ⟨rfl, rfl, hk, hrx⟩
    unfold B_X7_bestLead_L29
    rw [show (60 : Int32) = nI 60 from rfl, ite_lt (by decide) (by omega)]
    by_cases hlt : 60 < l
    · left
      rw [if_pos hlt]
      have el : l = 61 := by omega
      subst el
      refine ⟨upI (upI σx 23 w (nI (W 1 w))) 3 2 1, ?_, ((hk.le (fun i j q => by unfold rgE at q ⊢; omega)).I (Or.inr (Or.inr ⟨rfl, rfl⟩))).I (Or.inr (Or.inl ⟨rfl, rfl⟩)), by rw [uI_i (by decide), uI_s]; exact (hr.1.2.1 w hw).1.symm, uI_s⟩
      dsimp only
      rw [C_tryLead hw5, clx_s, C_spoil, clx_s, ← hR]
      rcases h01 with rfl | rfl <;> rfl
    right
    have hl60 : l ≤ 60 := by omega
    refine ⟨by omega, ?_⟩
    have okC := okW_L ok (cfN_le ok hw (show l ≤ 61 by omega))
    have okL := okW_L ok (cfN_le ok hw (show l + 1 ≤ 61 by omega))
    have kp1 : Kp (fun i j => rgE i j ∨ (i = 23 ∧ j = w)) σ1 (upI σx 23 w (nI l)) := hk.I (Or.inr ⟨rfl, rfl⟩)
    have h23 : ∀ c, c < W 0 0 → siI (upI σx 23 w (nI l)) 23 c = nI (cfN W w (l + 1) c) := fun c hcw => by
      unfold cfN
      by_cases e : c = w
      · rw [e, uI_s, if_pos rfl, if_neg (by omega), Nat.add_sub_cancel]
      · rw [uI_j e, if_neg e, (hk 23 c (by unfold rgE; omega)).1]
        exact (hr.1.2.1 c hcw).1
    have cL : cW (wL W (cfN W w (l + 1))) (upI σx 23 w (nI l)) := cW_L hr.1 (fun i j q z => (kp1 i j (by unfold cwR at q; unfold rgE; omega)).1) h23
    have k1x : Kp (fun i j => i = 23 ∧ j = w) σx (upI σx 23 w (nI l)) := Kp.rf.I ⟨rfl, rfl⟩
    have lL : LC N G (upI σx 23 w (nI l)) := hrx.2.1.kp k1x (fun i j q => by unfold lcR at q; omega)
    obtain ⟨v, σy, o1, o2, o3, o4, o5⟩ := C_observe (N := N) (by omega) okL cL
    have kxy : Kp (fun i j => rgO i j ∨ (i = 23 ∧ j = w)) σx σy := (k1x.le (fun i j q => Or.inr q)).tr (o4.le (fun i j q => Or.inl q))
    have cLy : cW (wL W (cfN W w (l + 1))) σy := cL.kp o4 (fun i j q => by unfold cwR at q; unfold rgO; omega)
    have lLy : LC N G σy := hrx.2.1.kp kxy (fun i j q => by unfold lcR at q; unfold rgO; omega)
    have sx := hrx.2.2.2.2.1
    have sL : ∀ {σz : Sx}, (∀ i j, rgL i j → siI σz i j = siI σx i j) → lsW (wL W (cfN W w (l + 1))) (wL W (cfN W w (l + 1)) 0 0) σz := fun e => by
      have := sx.of e
      rw [wL_o W _ (by decide)] at this ⊢
      unfold lsW at this ⊢
      simp only [szN_L, nmN_L] at this ⊢
      exact this
    have tkO : ∀ w2, w2 ≠ w → ∀ s, tkw G (wL W (cfN W w l)) w2 s = tkw G (wL W (cfN W w (l + 1))) w2 s := fun w2 q s => by
      unfold tkw
      rw [wL_1, wL_1, wL_o W _ (by decide), wL_o W _ (by decide), wL_o W _ (by decide), wL_o W _ (by decide)]
      unfold cfN
      rw [if_neg q, if_neg q]
    have tkN : b = false → ∀ w2, w2 < W 0 0 → ∀ s, s < 32 → tkw G (wL W (cfN W w l)) w2 s = tkw G (wL W (cfN W w (l + 1))) w2 s := fun hbf w2 hw2 s hs => by
      obtain ⟨b1, b2, b3, b4, b5⟩ := ok.2.1 w2 hw2
      unfold tkw
      rw [wL_1, wL_1, wL_o W _ (by decide), wL_o W _ (by decide), wL_o W _ (by decide), wL_o W _ (by decide)]
      rw [hG hbf s w2 _ _ _ _ ⟨hs, by omega, cfN_le ok hw (show l ≤ 61 by omega) w2 hw2, b4, b5, b2⟩ ⟨hs, by omega, cfN_le ok hw (show l + 1 ≤ 61 by omega) w2 hw2, b4, b5, b2⟩]
    -- behind the reckoning
    have fin : ∀ σz, cRd N G (wL W (cfN W w (l + 1))) σz → Kp (fun i j => rgE i j ∨ (i = 23 ∧ j = w)) σ1 σz → ∃ x' y' σ', (x' = oA (shF K (l + 1)) ∧ y' = oB (shF K (l + 1)) ∧ Kp (fun i j => rgE i j ∨ (i = 23 ∧ j = w)) σ1 σ' ∧ cRd N G (wL W (cfN W w (l + 1))) σ') ∧ (nmx (fun (x6 : Int32) (x7 : Int32) (σ11 : Sx) => r x6 x7 (nI l + (1 : Int32)) σ11) (fun (j125 : Int32 → Int32 → Sx → Option (Int32 × Sx)) => (if (siI σz 3 10) ≤ 0 then j125 (oA (shF K l)) (oB (shF K l)) σz else nmx (fun (σ12 : Sx) => nmx ((siI σz 3 10)) (fun v4 => j125 (nI l) v4 σz)) (fun (j112 : Sx → Option (Int32 × Sx)) => (if oB (shF K l) = (-2 : Int32) then j112 σz else (if oB (shF K l) ≤ (siI σz 3 10) then j125 (oA (shF K l)) (oB (shF K l)) σz else j112 σz)))))) = r x' y' (nI (l + 1)) σ' := fun σz hz kz => by
      have e310 : siI σz 3 10 = nI (K l) := by
        rw [hKv l hl60, ← hHv]
        exact hz.2.2.2.2.2.1
      have hkl := hK l
      refine ⟨_, _, σz, ⟨rfl, rfl, kz, hz⟩, ?_⟩
      rw [nmx_s, nmx_s, nmx_s, e310, nI_add1]
      rcases shF_step hK l with ⟨z0, z1⟩ | ⟨z0, z1, z2, z3⟩ | ⟨z0, a, g, ga, gb, z1, z2, z3⟩
      · rw [z0, if_pos (by decide), z1]
      · rw [if_neg (nI_nle (by omega) (by omega)), z2, if_pos rfl, z3]
        rfl
      · rw [if_neg (nI_nle (by omega) (by omega)), z2, if_neg (ne_m2 (by omega)), ite_le (by omega) (by omega)]
        rcases z3 with ⟨z4, z5⟩ | ⟨z4, z5⟩
        · rw [if_neg (by omega), z5]
          rfl
        · rw [if_pos (by omega), z5, z2]
    rw [if_neg hlt, C_tryLead hw5, clx_s, o1, clx_s, nmx_s, if_b2i]
    have gat : ∀ σz, cW (wL W (cfN W w (l + 1))) σz → LC N G σz → cV0 (wL W (cfN W w (l + 1))) σz → cK G (wL W (cfN W w (l + 1))) σz → lsW (wL W (cfN W w (l + 1))) (wL W (cfN W w (l + 1)) 0 0) σz → ∃ σq, F_X2_gather N σz = some ((), σq) ∧ Kp rgH σz σq ∧ cRd N G (wL W (cfN W w (l + 1))) σq := fun σz z1 z2 z3 z4 z5 => by
      obtain ⟨σq, g1, g2, g3, g4⟩ := C_gather (N := N) (by omega) okL (noOwn_T0 _) ⟨z1, z2, cT_of0 z3, z4⟩ z5
      refine ⟨σq, g1, g2, g3.1, g3.2.1, fun w2 hw2 => ?_, g3.2.2.2, z5.of (fun i j q => (g2 i j (by unfold rgL at q; unfold rgH rgW; omega)).1), g4⟩
      rw [(g2 85 w2 (by unfold rgH rgW; omega)).1, (g2 86 w2 (by unfold rgH rgW; omega)).1]
      exact z3 w2 hw2
    cases hb2 : b with
    | true =>
      rw [if_pos rfl]
      obtain ⟨σz, z1, z2, z3⟩ : ∃ σz, F_X2_forgetOne N (nI w) σy = some ((), σz) ∧ Kp (fun i _ => i = 87) σy σz ∧ ((∀ s, s < 32 → siI σz 87 (w * 32 + s) = 0) ∧ ∀ j, (j < w * 32 ∨ w * 32 + 32 ≤ j) → siI σz 87 j = siI σy 87 j) := by
        unfold F_X2_forgetOne
        refine lp1U (Q := fun o => ∃ σz, o = some ((), σz) ∧ Kp (fun i _ => i = 87) σy σz ∧ ((∀ s, s < 32 → siI σz 87 (w * 32 + s) = 0) ∧ ∀ j, (j < w * 32 ∨ w * 32 + 32 ≤ j) → siI σz 87 j = siI σy 87 j)) 32 (fun s σz => Kp (fun i _ => i = 87) σy σz ∧ (∀ s2, s2 < s → siI σz 87 (w * 32 + s2) = 0) ∧ ∀ j, (j < w * 32 ∨ w * 32 + 32 ≤ j) → siI σz 87 j = siI σy 87 j) ?_ (i := 0) (Nat.zero_le _) (by omega) ⟨Kp.rf, fun s q => absurd q (Nat.not_lt_zero _), fun _ _ => rfl⟩
        rintro r2 s σz hs ⟨hkz, hz1, hz2⟩
        unfold B_X2_forgetOne_L2
        rw [show (32 : Int32) = nI 32 from rfl, ite_le (by decide) (by omega)]
        by_cases hls : 32 ≤ s
        · left
          rw [if_pos hls]
          exact ⟨σz, rfl, hkz, fun s2 q => hz1 s2 (by omega), hz2⟩
        · right
          rw [if_neg hls, show nI w * nI 32 = nI (w * 32) from pk_mul _ _, nI_add, sIx_k (show w * 32 + s < 160 by omega) (by decide), nI_add1]
          refine ⟨by omega, _, ⟨hkz.I rfl, fun s2 q => ?_, fun j q => by rw [uI_j (by omega)]; exact hz2 j q⟩, rfl⟩
          by_cases e : s2 = s
          · rw [e, uI_s]
          · rw [uI_j (by omega)]
            exact hz1 s2 (by omega)
      have kxz : Kp (fun i j => rgO i j ∨ (i = 23 ∧ j = w) ∨ i = 87) σx σz := (kxy.le (fun i j q => by unfold rgO at q ⊢; omega)).tr (z2.le (fun i j q => by unfold rgO; omega))
      have cKz : cK G (wL W (cfN W w (l + 1))) σz := fun w2 hw2 s hs => by
        rw [wL_o W _ (by decide)] at hw2
        by_cases e : w2 = w
        · rw [e]
          exact Or.inl (z3.1 s hs)
        · rw [z3.2 _ (by omega), (kxy 87 _ (by unfold rgO; omega)).1, ← tkO w2 e]
          exact hrx.2.2.2.1 w2 (by rw [wL_o W _ (by decide)]; exact hw2) s hs
      obtain ⟨σq, g1, g2, g3⟩ := gat σz (cLy.kp z2 (fun i j q => by unfold cwR at q; omega)) (lLy.kp z2 (fun i j q => by unfold lcR at q; omega)) (fun w2 hw2 => by rw [(z2 85 w2 (by omega)).1, (z2 86 w2 (by omega)).1]; exact o5 w2 hw2) cKz (sL (fun i j q => (kxz i j (by unfold rgL at q; unfold rgO; omega)).1))
      rw [z1, clx_s]
      dsimp only
      rw [nmx_s, nmx_s, if_neg (show ¬ b2i true = 0 by decide), ite_self]
      dsimp only
      rw [g1, clx_s]
      exact fin σq g3 ((hk.tr (kxz.le (fun i j q => by unfold rgO at q; unfold rgE; omega))).tr (g2.le (fun i j q => by unfold rgH rgW at q; unfold rgE; omega)))
    | false =>
      rw [if_neg (by decide)]
      have cKy : cK G (wL W (cfN W w (l + 1))) σy := fun w2 hw2 s hs => by
        rw [wL_o W _ (by decide)] at hw2
        rw [(kxy 87 _ (by unfold rgO; omega)).1, ← tkN hb2 w2 hw2 s hs]
        exact hrx.2.2.2.1 w2 (by rw [wL_o W _ (by decide)]; exact hw2) s hs
      dsimp only
      rw [nmx_s, nmx_s, if_pos (show b2i false = 0 from rfl)]
      by_cases hv : v = 0
      · rw [if_pos hv]
        refine fin σy ⟨cLy, lLy, o5, cKy, sL (fun i j q => (kxy i j (by unfold rgL at q; unfold rgO; omega)).1), ?_⟩ (hk.tr (kxy.le (fun i j q => by unfold rgO at q; unfold rgE; omega)))
        -- the same days hold
        have hVV : ∀ w2, w2 < wL W (cfN W w l) 0 0 → ∀ i, i < 20 → V0 (wL W (cfN W w l)) w2 i = V0 (wL W (cfN W w (l + 1))) w2 i := fun w2 hw2 i hi => by
          have q1 := (hrx.2.2.1 w2 hw2).1
          rw [wL_o W _ (by decide)] at hw2
          have q2 := (o5 w2 (by rw [wL_o W _ (by decide)]; exact hw2)).1
          have q3 := o3 hv w2 (by rw [wL_o W _ (by decide)]; exact hw2)
          rw [q2, uI_i (by decide), q1] at q3
          have b1 : bst 20 (V0 (wL W (cfN W w l)) w2) < 2 ^ 20 := bst_lt _ _
          have b2 : bst 20 (V0 (wL W (cfN W w (l + 1))) w2) < 2 ^ 20 := bst_lt _ _
          exact (bst_inj ((nI_eq (by omega) (by omega)).mp q3) i hi).symm
        have hT := trk_T0 hVV (by rw [wL_o W _ (by decide), wL_o W _ (by decide)]) okC.nw
        have hHL : hlL G (wL W (cfN W w (l + 1))) (T0 (wL W (cfN W w (l + 1)))) = hlL G (wL W (cfN W w l)) (T0 (wL W (cfN W w l))) := by
          rw [hT.hl]
          unfold hlL
          rw [wL_o W (cfN W w (l + 1)) (by decide), wL_o W (cfN W w l) (by decide), szN_L, szN_L]
          congr 1
          funext x2
          rw [nmN_L, nmN_L]
          apply Bool_ext
          rw [hldB_iff, hldB_iff, wL_o W (cfN W w (l + 1)) (by decide), wL_o W (cfN W w l) (by decide)]
          have tk : ∀ w2, w2 < W 0 0 → tks G (wL W (cfN W w (l + 1))) (T0 (wL W (cfN W w (l + 1)))) (nmN W (W 0 0) x2) w2 = tks G (wL W (cfN W w l)) (T0 (wL W (cfN W w (l + 1)))) (nmN W (W 0 0) x2) w2 := fun w2 hw2 => by
            unfold tks
            rw [wL_o W (cfN W w (l + 1)) (by decide), wL_o W (cfN W w l) (by decide), tkN hb2 w2 hw2 _ (sgt_lt ok _ _ _).2]
          exact ⟨fun q w2 hw2 => by rw [← tk w2 hw2]; exact q w2 hw2, fun q w2 hw2 => by rw [tk w2 hw2]; exact q w2 hw2⟩
        unfold gHd
        rw [hHL]
        exact ⟨by rw [(kxy 3 10 (by unfold rgO; omega)).1]; exact hrx.2.2.2.2.2.1, hrx.2.2.2.2.2.2.of (fun j => (kxy 88 j (by unfold rgO; omega)).1)⟩
      · rw [if_neg hv]
        obtain ⟨σq, g1, g2, g3⟩ := gat σy cLy lLy o5 cKy (sL (fun i j q => (kxy i j (by unfold rgL at q; unfold rgO; omega)).1))
        dsimp only
        rw [g1, clx_s]
        exact fin σq g3 ((hk.tr (kxy.le (fun i j q => by unfold rgO at q; unfold rgE; omega))).tr (g2.le (fun i j q => by unfold rgH rgW at q; unfold rgE; omega)))
  have h2 : RW N W G b σ2 := h1.stale (fun i j q => by
    by_cases e : i = 23 ∧ j = w
    · obtain ⟨rfl, rfl⟩ := e
      exact c3
    · refine (c2 i j ?_).1
      unfold rwR cwR mwR lcR lmR ccR at q
      unfold rgE
      omega) c4
  have hm2 := h2.2.2.1
  -- the reference
  obtain ⟨σ3, d1, d2, d3⟩ : ∃ σ3, F_X10_shoes N (nI w) a1 σ2 = some (R, σ3) ∧ Kp (fun i j => rgF i j ∨ (i = 104 ∧ j = w)) σ2 σ3 ∧ siI σ3 104 w = siI σ2 104 w := by
    have e6' : F_X10_in a1 (0 : Int32) (1 : Int32) σ2 = some (1, σ2) := by
      rcases h01 with rfl | rfl <;> rfl
    rw [F_X10_shoes, h2.iw hw, clx_s, if10, e6', clx_s, if10, aIx_k hw5 (by decide), nmx_s]
    refine lp3U (Q := fun o => ∃ σ3, o = some (R, σ3) ∧ Kp (fun i j => rgF i j ∨ (i = 104 ∧ j = w)) σ2 σ3 ∧ siI σ3 104 w = siI σ2 104 w) 61 (fun l x y σx => x = oA (shF K l) ∧ y = oB (shF K l) ∧ Kp (fun i j => rgF i j ∨ (i = 104 ∧ j = w)) σ2 σx) ?_ (i := 0) (Nat.zero_le _) (by omega) ⟨rfl, rfl, Kp.rf⟩
    rintro r l x y σx hl ⟨rfl, rfl, hk⟩
    unfold B_X10_shoes_L37
    rw [show (60 : Int32) = nI 60 from rfl, ite_lt (by decide) (by omega)]
    by_cases hlt : 60 < l
    · left
      rw [if_pos hlt]
      have el : l = 61 := by omega
      subst el
      dsimp only
      rw [sIx_k hw5 (by decide), ← hR]
      refine ⟨_, ?_, hk.I (Or.inr ⟨rfl, rfl⟩), uI_s⟩
      rcases h01 with rfl | rfl <;> rfl
    right
    have hl60 : l ≤ 60 := by omega
    refine ⟨by omega, ?_⟩
    have okL := okW_L ok (cfN_le ok hw (show l + 1 ≤ 61 by omega))
    have k1 : Kp (fun i j => rgF i j ∨ (i = 104 ∧ j = w)) σ2 (upI σx 104 w (nI l)) := hk.I (Or.inr ⟨rfl, rfl⟩)
    have mL : mW (wL W (cfN W w (l + 1))) (upI σx 104 w (nI l)) := mW_L hm2 (fun i j q z => (k1 i j (by unfold mwR at q; unfold rgF; omega)).1) (fun c hcw => by
      unfold cfN
      by_cases e : c = w
      · rw [e, uI_s, if_pos rfl, if_neg (by omega), Nat.add_sub_cancel]
      · rw [uI_j e, if_neg e, (hk 104 c (by unfold rgF; omega)).1]
        exact (hm2.2.1 c hcw).1)
    have lL : LM N G (upI σx 104 w (nI l)) := h2.2.2.2.2.1.kp k1 (fun i j q => by unfold lmR at q; unfold rgF; omega)
    obtain ⟨σw, f1, f2, -, -, f5, -⟩ := M_findHeld (N := N) (by omega) okL mL lL
    have hT := TM_no (W := wL W (cfN W w (l + 1))) (σ := upI σx 104 w (nI l)) okL (by rw [(k1 103 32 (by unfold rgF; omega)).1]; exact h2.2.2.2.2.2.2.2.1) (by rw [(k1 103 34 (by unfold rgF; omega)).1]; exact h2.2.2.2.2.2.2.2.2.1)
    have e38 : siI σw 103 38 = nI (K l) := by
      rw [f5, eqT.ml okL hT, ml_len okL, hKv l hl60, ← hHv]
      rfl
    have hkl := hK l
    rw [if_neg hlt, sIx_k hw5 (by decide), f1, clx_s, nmx_s, e38, ite_eq0 (by omega), nmx_s, nI_add1]
    refine ⟨_, _, σw, ⟨rfl, rfl, k1.tr (f2.le (fun i j q => Or.inl q))⟩, ?_⟩
    rcases shF_step hK l with ⟨z0, z1⟩ | ⟨z0, z1, z2, z3⟩ | ⟨z0, a, g, ga, gb, z1, z2, z3⟩
    · rw [if_pos z0, z1]
    · rw [if_neg z0, z1, if_pos (by decide)]
      dsimp only
      rw [e38, nmx_s, z3]
      rfl
    · rw [if_neg z0, z1, z2, if_neg (nI_pos (by omega)), ite_lt (by omega) (by omega)]
      rcases z3 with ⟨z4, z5⟩ | ⟨z4, z5⟩
      · rw [if_pos z4, z5]
        dsimp only
        rw [e38, nmx_s]
        rfl
      · rw [if_neg z4, z5, z1, z2]
  have h3 : RW N W G b σ3 := h2.stale (fun i j q => by
    by_cases e : i = 104 ∧ j = w
    · obtain ⟨rfl, rfl⟩ := e
      exact d3
    · refine (d2 i j ?_).1
      unfold rwR cwR mwR lcR lmR ccR at q
      unfold rgF
      omega) (by rw [(d2 3 2 (by unfold rgF; omega)).1]; exact c4)
  refine ⟨R, σ2, σ3, ?_, d1, ⟨W, G, b, h3⟩, ((rgA_D s2).tr (c2.le (fun i j q => by unfold rgE at q; unfold rgA otR; omega))).tr (d2.le (fun i j q => by unfold rgF at q; unfold rgA otR; omega))⟩
  rw [F_X9_shoes, e1, clx_s, if10, e5, clx_s, if10, s1, clx_s, c1, clx_s]
