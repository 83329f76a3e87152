/-! MEND, UNDO, REDO -/
def up4 (σ : Sx) (a j : Nat) (x : Nat → Int32) : Sx := upI (upI (upI (upI σ a j (x 0)) (a + 1) j (x 1)) (a + 2) j (x 2)) (a + 3) j (x 3)
theorem up4_s {σ : Sx} {a j : Nat} {x : Nat → Int32} {c : Nat} (hc : c < 4) : siI (up4 σ a j x) (a + c) j = x c := by
  unfold up4
  match c, hc with
  | 0, _ => rw [uI_i (by omega), uI_i (by omega), uI_i (by omega)]; exact uI_s
  | 1, _ => rw [uI_i (by omega), uI_i (by omega), uI_s]
  | 2, _ => rw [uI_i (by omega), uI_s]
  | 3, _ => rw [uI_s]
theorem up4_j {σ : Sx} {a j b k : Nat} {x : Nat → Int32} (h : k ≠ j) : siI (up4 σ a j x) b k = siI σ b k := by
  unfold up4
  rw [uI_j h, uI_j h, uI_j h, uI_j h]
theorem up4_i {σ : Sx} {a j b k : Nat} {x : Nat → Int32} (h : b < a ∨ a + 3 < b) : siI (up4 σ a j x) b k = siI σ b k := by
  unfold up4
  rw [uI_i (by omega), uI_i (by omega), uI_i (by omega), uI_i (by omega)]
theorem Kp.up4 {reg : Nat → Nat → Prop} {σ σ2 : Sx} {a j : Nat} {x : Nat → Int32} (h : Kp reg σ σ2) (hr : ∀ c, c < 4 → reg (a + c) j) : Kp reg σ (up4 σ2 a j x) := (((h.I (hr 0 (by decide))).I (hr 1 (by decide))).I (hr 2 (by decide))).I (hr 3 (by decide))
def rgCh (i j : Nat) : Prop := (111 ≤ i ∧ i ≤ 114) ∨ (i = 103 ∧ (j = 9 ∨ j = 10))
theorem M_chg {N : Nat} {W : Wd} {σ : Sx} (hN : 44 < N) (ok : okW W) (hm : mW W σ) {a : Nat} (ha : a ≤ 40) (h1 : siI σ 103 9 = nI a) {what num v : Nat} (ht : okT2 W what num) (he : okE (W 0 0) what num v) (hne : valT W what num ≠ v) : ∃ σ2, F_X10_changes N (nI what) (nI num) (nI v) σ = some (nI (valT W what num), σ2) ∧ Kp (fun i j => rgCh i j ∨ (104 ≤ i ∧ i ≤ 106) ∨ i = 110) σ σ2 ∧ (∀ c, c < 4 → ∀ j, j < bbf a → siI σ2 (111 + c) j = siI σ (111 + c) (shf a j)) ∧ siI σ2 111 (bbf a) = nI what ∧ siI σ2 112 (bbf a) = nI num ∧ siI σ2 113 (bbf a) = nI (valT W what num) ∧ siI σ2 114 (bbf a) = nI v ∧ siI σ2 103 9 = nI (bbf a + 1) ∧ siI σ2 103 10 = 0 ∧ mW (wT W what num v) σ2 := by
  have hb : bbf a < 40 := by
    unfold bbf
    split <;> omega
  have hva := okE_val ok ht
  have b1 : valT W what num < 2 ^ 31 ∧ v < 2 ^ 31 := by
    unfold okE at he hva
    omega
  unfold F_X10_changes
  rw [M_valueAt ok hm ht, clx_s, ite_eq b1.1 b1.2, if_neg hne, pIx_s, nmx_s]
  generalize hσ0 : upI σ 103 10 (0 : Int32) = σ0
  have k0 : Kp rgCh σ σ0 := by
    rw [← hσ0]
    exact Kp.rf.I (by unfold rgCh; omega)
  have z0 : siI σ0 103 10 = 0 := by
    rw [← hσ0]
    exact uI_s
  have n0 : siI σ0 103 9 = nI a := by
    rw [← hσ0, uI_j (by decide)]
    exact h1
  have r0 : ∀ c, c < 4 → ∀ j, siI σ0 (111 + c) j = siI σ (111 + c) j := fun c hc j => by
    rw [← hσ0, uI_i (by omega)]
  have key : ∀ σ1, Kp rgCh σ σ1 → (∀ c, c < 4 → ∀ j, j < bbf a → siI σ1 (111 + c) j = siI σ (111 + c) (shf a j)) → siI σ1 103 9 = nI (bbf a) → siI σ1 103 10 = 0 → ∃ σ2, (sIx 111 40 (siI σ1 103 9) (nI what) σ1 (fun σ4 => sIx 112 40 (siI σ4 103 9) (nI num) σ4 (fun σ5 => sIx 113 40 (siI σ5 103 9) (nI (valT W what num)) σ5 (fun σ6 => sIx 114 40 (siI σ6 103 9) (nI v) σ6 (fun σ7 => pIx 103 9 ((siI σ7 103 9) + (1 : Int32)) σ7 (fun σ8 => clx (F_X10_lays (nI what) (nI num) (nI v) σ8) (fun _ σ9 => some (nI (valT W what num), σ9))))))) : Option (Int32 × Sx)) = some (nI (valT W what num), σ2) ∧ Kp (fun i j => rgCh i j ∨ (104 ≤ i ∧ i ≤ 106) ∨ i = 110) σ σ2 ∧ (∀ c, c < 4 → ∀ j, j < bbf a → siI σ2 (111 + c) j = siI σ (111 + c) (shf a j)) ∧ siI σ2 111 (bbf a) = nI what ∧ siI σ2 112 (bbf a) = nI num ∧ siI σ2 113 (bbf a) = nI (valT W what num) ∧ siI σ2 114 (bbf a) = nI v ∧ siI σ2 103 9 = nI (bbf a + 1) ∧ siI σ2 103 10 = 0 ∧ mW (wT W what num v) σ2 := fun σ1 k hr h9 h10 => by
    rw [h9, sIx_k hb (by decide), uI_i (a := 103) (by decide), h9, sIx_k hb (by decide), uI_i (a := 103) (by decide), uI_i (a := 103) (by decide), h9, sIx_k hb (by decide), uI_i (a := 103) (by decide), uI_i (a := 103) (by decide), uI_i (a := 103) (by decide), h9, sIx_k hb (by decide), uI_i (a := 103) (by decide), uI_i (a := 103) (by decide), uI_i (a := 103) (by decide), uI_i (a := 103) (by decide), h9, pIx_s, nI_add1]
    generalize hσ8 : upI (upI (upI (upI (upI σ1 111 (bbf a) (nI what)) 112 (bbf a) (nI num)) 113 (bbf a) (nI (valT W what num))) 114 (bbf a) (nI v)) 103 9 (nI (bbf a + 1)) = σ8
    have k8 : Kp rgCh σ σ8 := by
      rw [← hσ8]
      unfold rgCh at k ⊢
      exact ((((k.I (by omega)).I (by omega)).I (by omega)).I (by omega)).I (by omega)
    obtain ⟨σ2, g1, g2, g3⟩ := M_lays ok (hm.kp k8 (fun i j q => by unfold mwR at q; unfold rgCh; omega)) he
    have e2 : ∀ i j, ¬ ((104 ≤ i ∧ i ≤ 106) ∨ i = 110) → siI σ2 i j = siI σ8 i j := fun i j q => (g2 i j q).1
    rw [g1]
    refine ⟨σ2, rfl, (k8.le (fun i j q => Or.inl q)).tr (g2.le (fun i j q => Or.inr q)), fun c hc j hj => ?_, ?_, ?_, ?_, ?_, ?_, ?_, g3⟩
    · rw [e2 _ _ (by omega), ← hσ8, uI_i (by omega), uI_j (by omega), uI_j (by omega), uI_j (by omega), uI_j (by omega)]
      exact hr c hc j hj
    · rw [e2 _ _ (by omega), ← hσ8, uI_i (by decide), uI_i (by decide), uI_i (by decide), uI_i (by decide), uI_s]
    · rw [e2 _ _ (by omega), ← hσ8, uI_i (by decide), uI_i (by decide), uI_i (by decide), uI_s]
    · rw [e2 _ _ (by omega), ← hσ8, uI_i (by decide), uI_i (by decide), uI_s]
    · rw [e2 _ _ (by omega), ← hσ8, uI_i (by decide), uI_s]
    · rw [e2 _ _ (by omega), ← hσ8, uI_s]
    · rw [e2 _ _ (by omega), ← hσ8, uI_j (by decide), uI_i (by decide), uI_i (by decide), uI_i (by decide), uI_i (by decide)]
      exact h10
  rw [n0, show (40 : Int32) = nI 40 from rfl, ite_eq (by omega) (by decide)]
  by_cases e : a = 40
  · subst e
    rw [if_pos rfl, nmx_s]
    refine lp1U (Q := fun o => ∃ σ2, o = some (nI (valT W what num), σ2) ∧ Kp (fun i j => rgCh i j ∨ (104 ≤ i ∧ i ≤ 106) ∨ i = 110) σ σ2 ∧ (∀ c, c < 4 → ∀ j, j < bbf 40 → siI σ2 (111 + c) j = siI σ (111 + c) (shf 40 j)) ∧ siI σ2 111 (bbf 40) = nI what ∧ siI σ2 112 (bbf 40) = nI num ∧ siI σ2 113 (bbf 40) = nI (valT W what num) ∧ siI σ2 114 (bbf 40) = nI v ∧ siI σ2 103 9 = nI (bbf 40 + 1) ∧ siI σ2 103 10 = 0 ∧ mW (wT W what num v) σ2) 40 (fun k σx => 1 ≤ k ∧ Kp (fun i _ => 111 ≤ i ∧ i ≤ 114) σ0 σx ∧ (∀ c, c < 4 → ∀ j, j + 1 < k → siI σx (111 + c) j = siI σ0 (111 + c) (j + 1)) ∧ ∀ c, c < 4 → ∀ j, k ≤ j + 1 → siI σx (111 + c) j = siI σ0 (111 + c) j) ?_ (i := 1) (by decide) (by omega) ⟨Nat.le_refl _, Kp.rf, fun c hc j q => by omega, fun c hc j q => rfl⟩
    rintro r k σx hk ⟨hk1, hkx, hj, hs⟩
    unfold B_X10_changes_L34
    rw [show (40 : Int32) = nI 40 from rfl, ite_le (by decide) (by omega)]
    by_cases hlt : 40 ≤ k
    · left
      rw [if_pos hlt]
      dsimp only
      have x9 : siI σx 103 9 = nI 40 := by
        rw [(hkx 103 9 (by omega)).1]
        exact n0
      have x10 : siI σx 103 10 = 0 := by
        rw [(hkx 103 10 (by omega)).1]
        exact z0
      rw [x9, pIx_s, show nI 40 - (1 : Int32) = nI 39 from rfl]
      have kk : Kp rgCh σ (upI σx 103 9 (nI 39)) := (k0.tr (hkx.le (fun i j q => by unfold rgCh; omega))).I (by unfold rgCh; omega)
      refine key (upI σx 103 9 (nI 39)) kk (fun c hc j q => ?_) uI_s (by rw [uI_j (by decide)]; exact x10)
      rw [uI_i (by omega), hj c hc j (by unfold bbf at q; rw [if_pos rfl] at q; omega), r0 c hc]
      rfl
    · right
      refine ⟨by omega, up4 σx 111 (k - 1) (fun c => siI σx (111 + c) k), ⟨by omega, hkx.up4 (fun c hc => by omega), fun c hc j q => ?_, fun c hc j q => ?_⟩, ?_⟩
      · by_cases ej : j = k - 1
        · subst ej
          rw [up4_s hc, hs c hc k (by omega), show k - 1 + 1 = k by omega]
        · rw [up4_j ej]
          exact hj c hc j (by omega)
      · rw [up4_j (by omega)]
        exact hs c hc j (by omega)
      · rw [if_neg hlt, aIx_k (by omega) (by decide), show nI k - (1 : Int32) = nI (k - 1) from by obtain ⟨k, rfl⟩ : ∃ x, k = x + 1 := ⟨k - 1, by omega⟩; exact nI_pred _, sIx_k (by omega) (by decide), aIx_k (by omega) (by decide), uI_i (by decide), sIx_k (by omega) (by decide), aIx_k (by omega) (by decide), uI_i (by decide), uI_i (by decide), sIx_k (by omega) (by decide), aIx_k (by omega) (by decide), uI_i (by decide), uI_i (by decide), uI_i (by decide), sIx_k (by omega) (by decide), nI_add1]
        rfl
  · rw [if_neg e]
    refine key σ0 k0 (fun c hc j hj => ?_) ?_ z0
    · rw [r0 c hc]
      unfold shf
      rw [if_neg e]
    · unfold bbf
      rw [if_neg e]
      exact n0
/-- a changed world, the law kept -/
theorem RW.next {N : Nat} {W W2 : Wd} {G : Gt} {b : Bool} {σ σ2 : Sx} (h : RW N W G b σ) (e : ∀ i j, (lcR i j ∨ lmR i j ∨ (i = 103 ∧ (j = 32 ∨ j = 34))) → siI σ2 i j = siI σ i j) (ok : okW W2) (hc : cW W2 σ2) (hm : mW W2 σ2) (hs : siI σ2 3 2 = 1) (hC : ReC (W2 0 0) σ2) : RW N W2 G b σ2 := by
  obtain ⟨-, -, -, h4, h5, h6, -, h8, h9, -⟩ := h
  refine ⟨ok, hc, hm, h4.of (fun i j q => e i j (Or.inl q)), h5.of (fun i j q => e i j (Or.inr (Or.inl q))), h6.of (fun i j q => e i j (Or.inl q)), Or.inl hs, ?_, ?_, hC⟩
  · rw [e 103 32 (by omega)]
    exact h8
  · rw [e 103 34 (by omega)]
    exact h9
def rgNn (i j : Nat) : Prop := rgTl i j ∨ rgCh i j ∨ (104 ≤ i ∧ i ≤ 106) ∨ i = 110 ∨ (97 ≤ i ∧ i ≤ 100) ∨ (i = 7 ∧ (j = 1 ∨ j = 2)) ∨ (i = 3 ∧ j = 2)
theorem rgN_A {σ σ2 : Sx} (k : Kp rgNn σ σ2) : Kp rgA σ σ2 := k.le (fun i j q => by unfold rgNn rgTl rgCh at q; unfold rgA otR; omega)
theorem rgN_e {σ σ2 : Sx} (k : Kp rgNn σ σ2) : ∀ i j, (lcR i j ∨ lmR i j ∨ (i = 103 ∧ (j = 32 ∨ j = 34))) → siI σ2 i j = siI σ i j := fun i j q => (k i j (by unfold lcR lmR at q; unfold rgNn rgTl rgCh; omega)).1
theorem s_mend {N : Nat} (hN : 1100 < N) (a0 a1 a2 : Int32) {σ : Sx} (h : ReW N σ) : StI (ReW N) rgA σ (F_X9_mend N a0 a1 a2 σ) (F_X10_mend N a0 a1 a2) := by
  obtain ⟨W, G, b, h⟩ := h
  obtain ⟨ok, hc, hm⟩ := h.of3
  have hn := ok.nw
  rcases two_told ok hc hm a0 a1 with ⟨e1, e2⟩ | ⟨what, num, ht, rfl, rfl, e1, e2⟩
  · refine ⟨-1, σ, σ, ?_, ?_, ⟨W, G, b, h⟩, Kp.rf⟩
    · rw [F_X9_mend, e1]
      rfl
    · rw [F_X10_mend, e2]
      rfl
  rcases two_may ht a2 with e | ⟨v, he, rfl, e⟩
  · refine ⟨-1, σ, σ, ?_, ?_, ⟨W, G, b, h⟩, Kp.rf⟩
    · rw [F_X9_mend, e1, clx_s, if10, (e σ).1]
      rfl
    · rw [F_X10_mend, e2, clx_s, if10, (e σ).2]
      rfl
  have hva := okE_val ok ht
  have b1 : valT W what num < 2 ^ 31 ∧ v < 2 ^ 31 := by
    unfold okE at he hva
    omega
  by_cases hv : valT W what num = v
  · refine ⟨nI v, σ, σ, ?_, ?_, ⟨W, G, b, h⟩, Kp.rf⟩
    · rw [F_X9_mend, e1, clx_s, if10, (e σ).1, clx_s, if10, C_told ok hc ht, clx_s, hv, if_pos rfl]
    · rw [F_X10_mend, e2, clx_s, if10, (e σ).2, clx_s, if10, F_X10_changes, M_valueAt ok hm ht, clx_s, hv, if_pos rfl]
      rfl
  obtain ⟨a, u, hau, q1, q2, q3, q4, q5⟩ := h.2.2.2.2.2.2.2.2.2
  obtain ⟨σ1, c1, c2, c3, c4, c5, c6, c7, c8, c9⟩ := C_note (N := N) (σ := σ) (by omega) (a := a) (by omega) q1 (nI what) (nI num) (nI (valT W what num)) (nI v)
  obtain ⟨σ2, d1, d2, d3⟩ := C_tell (N := N) (by omega) ok (hc.kp c2 (fun i j q => by unfold cwR at q; omega)) he
  generalize hσ3 : upI σ2 3 2 1 = σ3
  have k3 : Kp (fun i j => rgTl i j ∨ (97 ≤ i ∧ i ≤ 100) ∨ (i = 7 ∧ (j = 1 ∨ j = 2)) ∨ (i = 3 ∧ j = 2)) σ σ3 := by
    rw [← hσ3]
    exact ((c2.le (fun i j q => by omega)).tr (d2.le (fun i j q => Or.inl q))).I (by omega)
  have m3 : mW W σ3 := hm.kp k3 (fun i j q => by unfold mwR at q; unfold rgTl; omega)
  have w3 : cW (wT W what num v) σ3 := by
    rw [← hσ3]
    exact d3.kp (Kp.rf.I (reg := fun i j => i = 3 ∧ j = 2) ⟨rfl, rfl⟩) (fun i j q => by unfold cwR at q; omega)
  obtain ⟨σ4, g1, g2, g3, g4, g5, g6, g7, g8, g9, g10⟩ := M_chg (N := N) (by omega) ok m3 (a := a) (by omega) (by rw [(k3 103 9 (by unfold rgTl; omega)).1]; exact q3) ht he hv
  have k4 : Kp rgNn σ σ4 := (k3.le (fun i j q => by unfold rgTl at q; unfold rgNn rgTl; omega)).tr (g2.le (fun i j q => by unfold rgCh at q; unfold rgNn rgCh; omega))
  have o0 : wT W what num v 0 0 = W 0 0 := wT_o W _ _ _ (by decide) _
  have x3 : ∀ i j, ((97 ≤ i ∧ i ≤ 100) ∨ (i = 7 ∧ (j = 1 ∨ j = 2))) → siI σ4 i j = siI σ1 i j := fun i j q => by
    rw [(g2 i j (by unfold rgCh; omega)).1, ← hσ3, uI_i (by omega), (d2 i j (by unfold rgTl; omega)).1]
  refine ⟨nI (valT W what num), σ3, σ4, ?_, ?_, ⟨_, G, b, h.next (rgN_e k4) (okW_T ok he) (w3.kp g2 (fun i j q => by unfold cwR at q; unfold rgCh; omega)) g10 ?_ ?_⟩, rgN_A k4⟩
  · rw [F_X9_mend, e1, clx_s, if10, (e σ).1, clx_s, if10, C_told ok hc ht, clx_s, ite_eq b1.1 b1.2, if_neg hv, c1, clx_s, d1, clx_s, C_spoil, clx_s, hσ3]
  · rw [F_X10_mend, M_isOne ok m3.1 ht, clx_s, if10, (e σ3).2, clx_s, if10, g1]
    rfl
  · rw [(g2 3 2 (by unfold rgCh; omega)).1, ← hσ3, uI_s]
  · rw [o0]
    have hb : bbf a ≤ a ∧ bbf a < 40 ∧ ∀ j, j < bbf a → shf a j < a := by
      unfold bbf shf
      split
      · exact ⟨by omega, by omega, fun j q => by omega⟩
      · exact ⟨by omega, by omega, fun j q => by omega⟩
    refine ⟨bbf a + 1, 0, by omega, ?_, ?_, g8, g9, fun j hj => ?_⟩
    · rw [x3 7 1 (by omega)]
      exact c8
    · rw [x3 7 2 (by omega)]
      exact c9
    · rw [x3 97 j (by omega), x3 98 j (by omega), x3 99 j (by omega), x3 100 j (by omega)]
      by_cases ej : j = bbf a
      · subst ej
        exact ⟨what, num, valT W what num, v, hva, he, c4, g4, c5, g5, c6, g6, c7, g7⟩
      · have hj2 : j < bbf a := by omega
        obtain ⟨wh, nu, wa, be, z1, z2, z3, z4, z5, z6, z7, z8, z9, z10⟩ := q5 (shf a j) (by have := hb.2.2 j hj2; omega)
        have y : ∀ c, c < 4 → siI σ4 (111 + c) j = siI σ (111 + c) (shf a j) := fun c hc => by
          rw [g3 c hc j hj2, (k3 (111 + c) _ (by unfold rgTl; omega)).1]
        exact ⟨wh, nu, wa, be, z1, z2, (c3 0 (by decide) j hj2).trans z3, (y 0 (by decide)).trans z4, (c3 1 (by decide) j hj2).trans z5, (y 1 (by decide)).trans z6, (c3 2 (by decide) j hj2).trans z7, (y 2 (by decide)).trans z8, (c3 3 (by decide) j hj2).trans z9, (y 3 (by decide)).trans z10⟩
theorem s_undo {N : Nat} (hN : 1100 < N) {σ : Sx} (h : ReW N σ) : StI (ReW N) rgA σ (F_X9_undo N σ) F_X10_undo := by
  obtain ⟨W, G, b, h⟩ := h
  obtain ⟨ok, hc, hm⟩ := h.of3
  have hn := ok.nw
  obtain ⟨a, u, hau, q1, q2, q3, q4, q5⟩ := h.2.2.2.2.2.2.2.2.2
  by_cases ha : a = 0
  · subst ha
    refine ⟨-5, σ, σ, ?_, ?_, ⟨W, G, b, h⟩, Kp.rf⟩
    · rw [F_X9_undo, F_X1_unmake, q1]
      rfl
    · rw [F_X10_undo, q3]
      rfl
  obtain ⟨wh, nu, wa, be, z1, z2, z3, z4, z5, z6, z7, z8, z9, z10⟩ := q5 (a - 1) (by omega)
  have hp : nI a - (1 : Int32) = nI (a - 1) := by
    obtain ⟨k, rfl⟩ : ∃ x, a = x + 1 := ⟨a - 1, by omega⟩
    exact nI_pred _
  generalize hσ1 : upI σ 7 1 (nI (a - 1)) = σ1
  have k1 : Kp (fun i j => i = 7 ∧ j = 1) σ σ1 := by
    rw [← hσ1]
    exact Kp.rf.I ⟨rfl, rfl⟩
  have e1 : siI σ1 7 1 = nI (a - 1) := by
    rw [← hσ1, uI_s]
  obtain ⟨σ2, d1, d2, d3⟩ := C_tell (N := N) (by omega) ok (hc.kp k1 (fun i j q => by unfold cwR at q; omega)) z1
  generalize hσ3 : upI σ2 3 2 1 = σ3
  have k3 : Kp (fun i j => rgTl i j ∨ (i = 7 ∧ j = 1) ∨ (i = 3 ∧ j = 2)) σ σ3 := by
    rw [← hσ3]
    exact ((k1.le (fun i j q => by omega)).tr (d2.le (fun i j q => Or.inl q))).I (by omega)
  have m3 : mW W σ3 := hm.kp k3 (fun i j q => by unfold mwR at q; unfold rgTl; omega)
  have w3 : cW (wT W wh nu wa) σ3 := by
    rw [← hσ3]
    exact d3.kp (Kp.rf.I (reg := fun i j => i = 3 ∧ j = 2) ⟨rfl, rfl⟩) (fun i j q => by unfold cwR at q; omega)
  have e3 : siI σ3 7 1 = nI (a - 1) := by
    rw [← hσ3, uI_i (by decide), (d2 7 1 (by unfold rgTl; omega)).1, e1]
  generalize hσ4 : upI (upI σ3 103 9 (nI (a - 1))) 103 10 (nI (u + 1)) = σ4
  have k4 : Kp (fun i j => i = 103 ∧ (j = 9 ∨ j = 10)) σ3 σ4 := by
    rw [← hσ4]
    exact (Kp.rf.I (by omega)).I (by omega)
  have e4 : siI σ4 103 9 = nI (a - 1) ∧ siI σ4 103 10 = nI (u + 1) := by
    rw [← hσ4, uI_j (by decide), uI_s]
    exact ⟨rfl, uI_s⟩
  obtain ⟨σ5, g1, g2, g3⟩ := M_lays ok (m3.kp k4 (fun i j q => by unfold mwR at q; omega)) z1
  have k5 : Kp rgNn σ σ5 := ((k3.le (fun i j q => by unfold rgTl at q; unfold rgNn rgTl; omega)).tr (k4.le (fun i j q => by unfold rgNn rgCh; omega))).tr (g2.le (fun i j q => by unfold rgNn; omega))
  have x5 : ∀ i j, ccR i j → ¬ (i = 103 ∧ (j = 9 ∨ j = 10)) → ¬ (i = 7 ∧ j = 1) → siI σ5 i j = siI σ i j := fun i j q r1 r2 => by
    unfold ccR at q
    rw [(g2 i j (by omega)).1, (k4 i j (by omega)).1, (k3 i j (by unfold rgTl; omega)).1]
  have o0 : wT W wh nu wa 0 0 = W 0 0 := wT_o W _ _ _ (by decide) _
  have xr : ∀ i, (111 ≤ i ∧ i ≤ 114) → siI σ4 i (a - 1) = siI σ i (a - 1) := fun i hi => by
    rw [(k4 i _ (by omega)).1, (k3 i _ (by unfold rgTl; omega)).1]
  refine ⟨nI (a - 1), σ3, σ5, ?_, ?_, ⟨_, G, b, h.next (rgN_e k5) (okW_T ok z1) ((w3.kp k4 (fun i j q => by unfold cwR at q; omega)).kp g2 (fun i j q => by unfold cwR at q; omega)) g3 ?_ ?_⟩, rgN_A k5⟩
  · rw [F_X9_undo, F_X1_unmake, q1, if_pos (show (0 : Int32) < nI a from (nI_ltI (a := 0) (by decide) (by omega)).mpr (by omega)), pIx_s, hp, hσ1, aRx_1 (by decide) (by decide), e1, aIx_k (by omega) (by decide), aRx_0 (by decide) (by decide), aIx_k (by omega) (by decide), aRx_2 (by decide) (by decide), aIx_k (by omega) (by decide), (k1 (97 + 1) _ (by omega)).1, (k1 (97 + 0) _ (by omega)).1, (k1 (97 + 2) _ (by omega)).1, z3, z5, z7, d1, clx_s, clx_s, if10, C_spoil, clx_s, hσ3, e3]
  · rw [F_X10_undo, (k3 103 9 (by unfold rgTl; omega)).1, q3, if_neg (show ¬ nI a = (0 : Int32) from fun q => ha ((nI_eq (b := 0) (by omega) (by decide)).mp q)), pIx_s, pIx_s, hp, uI_j (b := 10) (by decide), (k3 103 10 (by unfold rgTl; omega)).1, q4, nI_add1, hσ4, e4.1, aIx_k (by omega) (by decide), aIx_k (by omega) (by decide), aIx_k (by omega) (by decide), xr 111 (by omega), xr 112 (by omega), xr 113 (by omega), z4, z6, z8, g1, clx_s, (g2 103 9 (by omega)).1, e4.1]
  · rw [(g2 3 2 (by omega)).1, (k4 3 2 (by omega)).1, ← hσ3, uI_s]
  · rw [o0]
    refine ⟨a - 1, u + 1, by omega, ?_, ?_, ?_, ?_, fun j hj => ?_⟩
    · rw [(g2 7 1 (by omega)).1, (k4 7 1 (by omega)).1, e3]
    · rw [x5 7 2 (by unfold ccR; omega) (by omega) (by omega), q2, show a - 1 + (u + 1) = a + u by omega]
    · rw [(g2 103 9 (by omega)).1, e4.1]
    · rw [(g2 103 10 (by omega)).1, e4.2]
    · rw [x5 97 j (by unfold ccR; omega) (by omega) (by omega), x5 98 j (by unfold ccR; omega) (by omega) (by omega), x5 99 j (by unfold ccR; omega) (by omega) (by omega), x5 100 j (by unfold ccR; omega) (by omega) (by omega), x5 111 j (by unfold ccR; omega) (by omega) (by omega), x5 112 j (by unfold ccR; omega) (by omega) (by omega), x5 113 j (by unfold ccR; omega) (by omega) (by omega), x5 114 j (by unfold ccR; omega) (by omega) (by omega)]
      exact q5 j (by omega)
theorem s_redo {N : Nat} (hN : 1100 < N) {σ : Sx} (h : ReW N σ) : StI (ReW N) rgA σ (F_X9_redo N σ) F_X10_redo := by
  obtain ⟨W, G, b, h⟩ := h
  obtain ⟨ok, hc, hm⟩ := h.of3
  have hn := ok.nw
  obtain ⟨a, u, hau, q1, q2, q3, q4, q5⟩ := h.2.2.2.2.2.2.2.2.2
  by_cases hu : u = 0
  · subst hu
    refine ⟨-5, σ, σ, ?_, ?_, ⟨W, G, b, h⟩, Kp.rf⟩
    · rw [F_X9_redo, F_X1_remake, q1, q2, ite_lt (by omega) (by omega), if_neg (by omega)]
      rfl
    · rw [F_X10_redo, q4]
      rfl
  obtain ⟨wh, nu, wa, be, z1, z2, z3, z4, z5, z6, z7, z8, z9, z10⟩ := q5 a (by omega)
  obtain ⟨σ1, d1, d2, d3⟩ := C_tell (N := N) (by omega) ok hc z2
  generalize hσ3 : upI (upI σ1 7 1 (nI (a + 1))) 3 2 1 = σ3
  have k3 : Kp (fun i j => rgTl i j ∨ (i = 7 ∧ j = 1) ∨ (i = 3 ∧ j = 2)) σ σ3 := by
    rw [← hσ3]
    exact ((d2.le (fun i j q => Or.inl q)).I (by omega)).I (by omega)
  have m3 : mW W σ3 := hm.kp k3 (fun i j q => by unfold mwR at q; unfold rgTl; omega)
  have w3 : cW (wT W wh nu be) σ3 := by
    rw [← hσ3]
    exact d3.kp ((Kp.rf.I (reg := fun i j => (i = 7 ∧ j = 1) ∨ (i = 3 ∧ j = 2)) (by omega)).I (by omega)) (fun i j q => by unfold cwR at q; omega)
  have e3 : siI σ3 7 1 = nI (a + 1) ∧ siI σ3 7 2 = nI (a + u) := by
    rw [← hσ3, uI_i (by decide), uI_s, uI_i (by decide), uI_j (by decide), (d2 7 2 (by unfold rgTl; omega)).1]
    exact ⟨rfl, q2⟩
  have xr : ∀ i, (111 ≤ i ∧ i ≤ 114) → siI σ3 i a = siI σ i a := fun i hi => (k3 i _ (by unfold rgTl; omega)).1
  obtain ⟨σ4, g1, g2, g3⟩ := M_lays ok m3 z2
  generalize hσ5 : upI (upI σ4 103 9 (nI (a + 1))) 103 10 (nI (u - 1)) = σ5
  have k45 : Kp (fun i j => i = 103 ∧ (j = 9 ∨ j = 10)) σ4 σ5 := by
    rw [← hσ5]
    exact (Kp.rf.I (by omega)).I (by omega)
  have e5 : siI σ5 103 9 = nI (a + 1) ∧ siI σ5 103 10 = nI (u - 1) := by
    rw [← hσ5, uI_j (by decide), uI_s]
    exact ⟨rfl, uI_s⟩
  have k5 : Kp rgNn σ σ5 := ((k3.le (fun i j q => by unfold rgTl at q; unfold rgNn rgTl; omega)).tr (g2.le (fun i j q => by unfold rgNn; omega))).tr (k45.le (fun i j q => by unfold rgNn rgCh; omega))
  have x5 : ∀ i j, ccR i j → ¬ (i = 103 ∧ (j = 9 ∨ j = 10)) → ¬ (i = 7 ∧ j = 1) → siI σ5 i j = siI σ i j := fun i j q r1 r2 => by
    unfold ccR at q
    rw [(k45 i j (by omega)).1, (g2 i j (by omega)).1, (k3 i j (by unfold rgTl; omega)).1]
  have o0 : wT W wh nu be 0 0 = W 0 0 := wT_o W _ _ _ (by decide) _
  have hp : nI u - (1 : Int32) = nI (u - 1) := by
    obtain ⟨k, rfl⟩ : ∃ x, u = x + 1 := ⟨u - 1, by omega⟩
    exact nI_pred _
  refine ⟨nI (u - 1), σ3, σ5, ?_, ?_, ⟨_, G, b, h.next (rgN_e k5) (okW_T ok z2) ((w3.kp g2 (fun i j q => by unfold cwR at q; omega)).kp k45 (fun i j q => by unfold cwR at q; omega)) (g3.kp k45 (fun i j q => by unfold mwR at q; omega)) ?_ ?_⟩, rgN_A k5⟩
  · rw [F_X9_redo, F_X1_remake, q1, q2, ite_lt (by omega) (by omega), if_pos (by omega), aRx_1 (by decide) (by decide), aIx_k (by omega) (by decide), aRx_0 (by decide) (by decide), aIx_k (by omega) (by decide), aRx_3 (by decide) (by decide), aIx_k (by omega) (by decide), z3, z5, z9, d1, clx_s, pIx_s, (d2 7 1 (by unfold rgTl; omega)).1, q1, nI_add1, clx_s, if10, C_spoil, clx_s, hσ3, F_X1_unmade, clx_s, e3.1, e3.2, pk_sub (by omega), show a + u - (a + 1) = u - 1 by omega]
  · rw [F_X10_redo, (k3 103 10 (by unfold rgTl; omega)).1, q4, if_neg (show ¬ nI u = (0 : Int32) from fun q => hu ((nI_eq (b := 0) (by omega) (by decide)).mp q)), (k3 103 9 (by unfold rgTl; omega)).1, q3, aIx_k (by omega) (by decide), aIx_k (by omega) (by decide), aIx_k (by omega) (by decide), xr 111 (by omega), xr 112 (by omega), xr 114 (by omega), z4, z6, z10, g1, clx_s, (g2 103 9 (by omega)).1, (k3 103 9 (by unfold rgTl; omega)).1, q3, nI_add1, pIx_s, uI_j (by decide), (g2 103 10 (by omega)).1, (k3 103 10 (by unfold rgTl; omega)).1, q4, hp, pIx_s, hσ5, e5.2]
  · rw [(k45 3 2 (by omega)).1, (g2 3 2 (by omega)).1, ← hσ3, uI_s]
  · rw [o0]
    refine ⟨a + 1, u - 1, by omega, ?_, ?_, ?_, ?_, fun j hj => ?_⟩
    · rw [(k45 7 1 (by omega)).1, (g2 7 1 (by omega)).1, e3.1]
    · rw [x5 7 2 (by unfold ccR; omega) (by omega) (by omega), q2, show a + 1 + (u - 1) = a + u by omega]
    · exact e5.1
    · exact e5.2
    · rw [x5 97 j (by unfold ccR; omega) (by omega) (by omega), x5 98 j (by unfold ccR; omega) (by omega) (by omega), x5 99 j (by unfold ccR; omega) (by omega) (by omega), x5 100 j (by unfold ccR; omega) (by omega) (by omega), x5 111 j (by unfold ccR; omega) (by omega) (by omega), x5 112 j (by unfold ccR; omega) (by omega) (by omega), x5 113 j (by unfold ccR; omega) (by omega) (by omega), x5 114 j (by unfold ccR; omega) (by omega) (by omega)]
      exact q5 j (by omega)
