/-! THE LAW IN FORCE: what the class gives -/
def evC (N : Nat) (e : Nat → Int32) (q hh Nc len : Nat) (x : Int32) (σ : Sx) : Prop := ∃ σ', lpx1 (gC N e) (Nc + len) (nI q) σ = lpx1 (gC N e) Nc (nI (q + len)) σ' ∧ Kp rgG σ σ' ∧ siI σ' 2 8 = nI (hh + 1) ∧ siI σ' 82 hh = x ∧ ∀ j, j < hh → siI σ' 82 j = siI σ 82 j
theorem CE {N : Nat} {e : Nat → Int32} {E : List Tk} {v : (Nat → Int32) → Int32} (h : Ex E v) : E ≠ [] ∧ ∀ (q hh T Nc : Nat) (σ : Sx), siI σ 2 6 = nI T → T ≤ 121 → kAt σ q (E.map tC) → q + E.length ≤ T → siI σ 2 8 = nI hh → hh + E.length ≤ 121 → evC N e q hh Nc E.length (v e) σ := by
  refine h (fun E v => E ≠ [] ∧ ∀ (q hh T Nc : Nat) (σ : Sx), siI σ 2 6 = nI T → T ≤ 121 → kAt σ q (E.map tC) → q + E.length ≤ T → siI σ 2 8 = nI hh → hh + E.length ≤ 121 → evC N e q hh Nc E.length (v e) σ) ?_ ?_ ?_ ?_ ?_
  · intro x hx
    refine ⟨by simp, fun q hh T Nc σ h6 hT hk hq h8 hh2 => ?_⟩
    rw [List.length_singleton] at hq hh2
    obtain ⟨σ', a1, a2, a3, a4, a5⟩ := push_ok (nI x) h8 (by omega)
    refine ⟨σ', ?_, a2, a3, a4, a5⟩
    rw [List.length_singleton, lpx1_s, gC_num h6 hT (by omega) hx (kAt.one hk), a1, clx_s]
  · intro i hi
    refine ⟨by simp, fun q hh T Nc σ h6 hT hk hq h8 hh2 => ?_⟩
    rw [List.length_singleton] at hq hh2
    obtain ⟨σ', a1, a2, a3, a4, a5⟩ := push_ok (e i) h8 (by omega)
    refine ⟨σ', ?_, a2, a3, a4, a5⟩
    rw [List.length_singleton, lpx1_s, gC_nam h6 hT (by omega) hi (kAt.one hk), a1, clx_s]
  · intro E v ih
    refine ⟨by simp, fun q hh T Nc σ h6 hT hk hq h8 hh2 => ?_⟩
    rw [List.length_append, List.length_singleton] at hq hh2
    rw [List.map_append] at hk
    obtain ⟨k1, k2⟩ := hk.app
    rw [List.length_map] at k2
    obtain ⟨σ1, b1, b2, b3, b4, b5⟩ := ih.2 q hh T (Nc + 1) σ h6 hT k1 (by omega) h8 (by omega)
    obtain ⟨σ2, c1, c2, c3, c4⟩ := pop_ok b3 (by omega)
    obtain ⟨σ3, a1, a2, a3, a4, a5⟩ := push_ok (if v e = 0 then 1 else 0) c3 (by omega)
    refine ⟨σ3, ?_, (b2.tr c2).tr a2, a3, a4, fun j hj => ?_⟩
    · rw [List.length_append, List.length_singleton, show Nc + (E.length + 1) = (Nc + 1) + E.length by omega, b1, lpx1_s, gC_pre (T := T) (c := 33) (by rw [(b2 2 6 (by unfold rgG; omega)).1]; exact h6) hT (by omega) (Or.inl rfl) (kAt.one (k2.of b2)), c1, clx_s, b4]
      have : F_X4_prefixing (nI 33) (v e) σ2 = some ((if v e = 0 then 1 else 0), σ2) := by
        unfold F_X4_prefixing
        rw [if_neg (by decide), iteS]
      rw [this, clx_s, a1, clx_s, Nat.add_assoc]
    · rw [a5 j hj, c4, b5 j hj]
  · intro E v ih
    refine ⟨by simp, fun q hh T Nc σ h6 hT hk hq h8 hh2 => ?_⟩
    rw [List.length_append, List.length_singleton] at hq hh2
    rw [List.map_append] at hk
    obtain ⟨k1, k2⟩ := hk.app
    rw [List.length_map] at k2
    obtain ⟨σ1, b1, b2, b3, b4, b5⟩ := ih.2 q hh T (Nc + 1) σ h6 hT k1 (by omega) h8 (by omega)
    obtain ⟨σ2, c1, c2, c3, c4⟩ := pop_ok b3 (by omega)
    obtain ⟨σ3, a1, a2, a3, a4, a5⟩ := push_ok (-(v e)) c3 (by omega)
    refine ⟨σ3, ?_, (b2.tr c2).tr a2, a3, a4, fun j hj => ?_⟩
    · rw [List.length_append, List.length_singleton, show Nc + (E.length + 1) = (Nc + 1) + E.length by omega, b1, lpx1_s, gC_pre (T := T) (c := 126) (by rw [(b2 2 6 (by unfold rgG; omega)).1]; exact h6) hT (by omega) (Or.inr rfl) (kAt.one (k2.of b2)), c1, clx_s, b4]
      have : F_X4_prefixing (nI 126) (v e) σ2 = some (-(v e), σ2) := by
        unfold F_X4_prefixing
        rw [if_pos (by decide)]
      rw [this, clx_s, a1, clx_s, Nat.add_assoc]
    · rw [a5 j hj, c4, b5 j hj]
  · intro o E1 v1 E2 v2 ho i1 i2
    refine ⟨by simp, fun q hh T Nc σ h6 hT hk hq h8 hh2 => ?_⟩
    have l1 : 0 < E1.length := List.length_pos_iff.mpr i1.1
    rw [List.length_append, List.length_append, List.length_singleton] at hq hh2
    rw [List.map_append, List.map_append] at hk
    obtain ⟨k12, k3⟩ := hk.app
    obtain ⟨k1, k2⟩ := k12.app
    rw [List.length_append, List.length_map, List.length_map] at k3
    rw [List.length_map] at k2
    obtain ⟨σ1, b1, b2, b3, b4, b5⟩ := i1.2 q hh T ((Nc + 1) + E2.length) σ h6 hT k1 (by omega) h8 (by omega)
    obtain ⟨σ2, d1, d2, d3, d4, d5⟩ := i2.2 (q + E1.length) (hh + 1) T (Nc + 1) σ1 (by rw [(b2 2 6 (by unfold rgG; omega)).1]; exact h6) hT (k2.of b2) (by omega) b3 (by omega)
    obtain ⟨σ3, c1, c2, c3, c4⟩ := pop_ok d3 (by omega)
    obtain ⟨σ4, f1, f2, f3, f4⟩ := pop_ok c3 (by omega)
    obtain ⟨σ5, a1, a2, a3, a4, a5⟩ := push_ok (opV o (v1 e) (v2 e)) f3 (by omega)
    refine ⟨σ5, ?_, (((b2.tr d2).tr c2).tr f2).tr a2, a3, a4, fun j hj => ?_⟩
    · have k3' := (k3.of b2).of d2
      rw [show q + (E1.length + E2.length) = q + E1.length + E2.length by omega] at k3'
      have k4 := kAt.one k3'
      rw [tC_op ho] at k4
      rw [List.length_append, List.length_append, List.length_singleton, show Nc + (E1.length + E2.length + 1) = ((Nc + 1) + E2.length) + E1.length by omega, b1, d1, lpx1_s, gC_op (T := T) (by rw [(d2 2 6 (by unfold rgG; omega)).1, (b2 2 6 (by unfold rgG; omega)).1]; exact h6) hT (by omega) ho k4, c1, clx_s, f1, clx_s, d4, c4, d5 hh (by omega), b4, C_join ho, clx_s, a1, clx_s]
      rw [show q + E1.length + E2.length + 1 = q + (E1.length + E2.length + 1) by omega]
    · rw [a5 j hj, f4, c4, d5 j (by omega), b5 j hj]
theorem C_eol {N T q t : Nat} {σ : Sx} (h6 : siI σ 2 6 = nI T) (hT : T ≤ 121) (hN : 130 < N) (hqt : q ≤ t) (ht : t < T) (hno : ∀ j, q ≤ j → j < t → siI σ 81 j ≠ nI 10059) (hat : siI σ 81 t = nI 10059) : F_X4_endOfLine N (nI q) σ = some (nI t, σ) := by
  unfold F_X4_endOfLine
  rw [nmx_s]
  refine lp1U (Q := fun o => o = some (nI t, σ)) t (fun k σ2 => σ2 = σ ∧ q ≤ k) ?_ (i := q) hqt (by omega) ⟨rfl, Nat.le_refl _⟩
  rintro r k σ2 hk ⟨rfl, hq⟩
  unfold B_X4_endOfLine_L2
  rw [h6, ite_le (by omega) (by omega), if_neg (by omega), aIx_k (by omega) (by decide), show (10059 : Int32) = nI 10059 from rfl]
  by_cases e : k = t
  · left
    subst e
    rw [hat, if_pos rfl]
  · right
    rw [if_neg (hno k hq (by omega)), nI_add1]
    exact ⟨by omega, _, ⟨rfl, by omega⟩, rfl⟩
theorem tC_ne {t : Tk} (h : okTk t) : tC t ≠ nI 10059 := by
  intro e
  rcases h with ⟨h1, h2⟩ | ⟨h1, h2⟩ | h1 | h1 | h1
  · unfold tC at e
    rw [if_pos h1] at e
    have := (nI_eq (by omega) (by decide)).mp e
    omega
  · unfold tC at e
    rw [if_neg (by omega), if_pos h1] at e
    revert h2 e
    generalize t.2 = i
    intro e h2
    match i, h2 with
    | 0, _ => exact absurd e (by decide)
    | 1, _ => exact absurd e (by decide)
    | 2, _ => exact absurd e (by decide)
    | 3, _ => exact absurd e (by decide)
    | 4, _ => exact absurd e (by decide)
    | 5, _ => exact absurd e (by decide)
  · unfold tC at e
    rw [if_neg (by omega), if_neg (by omega), if_pos h1] at e
    exact absurd e (by decide)
  · unfold tC at e
    rw [if_neg (by omega), if_neg (by omega), if_neg (by omega), if_pos h1] at e
    exact absurd e (by decide)
  · have h2 : isOp t.1 := h1
    unfold isOp at h2
    unfold tC at e
    rw [if_neg (by omega), if_neg (by omega), if_neg (by omega), if_neg (by omega)] at e
    have := (nI_eq (by omega) (by decide)).mp e
    omega
theorem getD_in {α : Type} {L : List α} {d : α} {j : Nat} (h : j < L.length) : L.getD j d = L[j] := by
  simp [List.getD, h]
theorem map_ne {E : List Tk} (h : ∀ t, t ∈ E → okTk t) {j : Nat} (hj : j < (E.map tC).length) : (E.map tC).getD j 0 ≠ nI 10059 := by
  rw [getD_in hj, List.getElem_map]
  exact tC_ne (h _ (List.getElem_mem _))
theorem CL {N : Nat} {e : Nat → Int32} (hN : 130 < N) : ∀ (Ls : List Ln), (∀ l, l ∈ Ls → okL l) → ∀ (q T Nc : Nat) (σ : Sx), siI σ 2 6 = nI T → T ≤ 121 → kAt σ q (cdL Ls) → q + (cdL Ls).length = T → siI σ 2 8 = nI 0 → (cdL Ls).length < Nc → ∃ σ', lpx1 (gC N e) Nc (nI q) σ = some (evL Ls e, σ') ∧ Kp rgG σ σ' := by
  intro Ls
  induction Ls with
  | nil =>
    intro _ q T Nc σ h6 hT hk hq h8 hNc
    obtain ⟨Nc, rfl⟩ : ∃ x, Nc = x + 1 := ⟨Nc - 1, by omega⟩
    have : q = T := hq
    subst this
    exact ⟨σ, by rw [lpx1_s, gC_stop h6 hT]; rfl, Kp.rf⟩
  | cons l Ls ih =>
    intro hK q T Nc σ h6 hT hk hq h8 hNc
    obtain ⟨o1, o2⟩ := hK l List.mem_cons_self
    have x2 := vlE_ok o2
    rw [cdL_cons] at hk hq hNc
    rw [List.length_append] at hq hNc
    obtain ⟨k1, k2⟩ := hk.app
    -- a value, and the end of its line
    have val : ∀ (q2 : Nat) (σ2 : Sx) (M : Nat), siI σ2 2 6 = nI T → kAt σ2 q2 (l.2.map tC ++ [nI 10059]) → q2 + l.2.length + 1 ≤ T → siI σ2 2 8 = nI 0 → l.2.length < M → ∃ σ', lpx1 (gC N e) M (nI q2) σ2 = some (vlE l.2 e, σ') ∧ Kp rgG σ2 σ' := fun q2 σ2 M g6 gk gq g8 gM => by
      obtain ⟨M, rfl⟩ : ∃ x, M = x + 1 + l.2.length := ⟨M - 1 - l.2.length, by omega⟩
      obtain ⟨ka, kb⟩ := gk.app
      rw [List.length_map] at kb
      obtain ⟨σ3, b1, b2, b3, b4, -⟩ := (CE (N := N) (e := e) x2).2 q2 0 T (M + 1) σ2 g6 hT ka (by omega) g8 (by omega)
      obtain ⟨σ4, c1, c2, -, -⟩ := pop_ok b3 (by decide)
      refine ⟨σ4, ?_, b2.tr c2⟩
      rw [b1, lpx1_s, gC_end (T := T) (by rw [(b2 2 6 (by unfold rgG; omega)).1]; exact g6) hT (by omega) (kAt.one (kb.of b2)), jP, c1, clx_s, b4]
    by_cases h1 : l.1 = []
    · have ec : cLn l = l.2.map tC ++ [nI 10059] := by
        unfold cLn
        rw [if_pos h1, List.nil_append]
      rw [ec] at k1 hq hNc
      rw [List.length_append, List.length_map, List.length_singleton] at hq hNc
      obtain ⟨σ', g1, g2⟩ := val q σ Nc h6 k1 (by omega) h8 (by omega)
      refine ⟨σ', ?_, g2⟩
      rw [g1, evL, if_pos h1]
    · have o1' : ∃ v, Ex l.1 v := o1.resolve_left h1
      have x1 := vlE_ok o1'
      have ec : cLn l = (l.1.map tC ++ [nI 10063]) ++ (l.2.map tC ++ [nI 10059]) := by
        unfold cLn
        rw [if_neg h1]
      rw [ec] at k1 k2 hq hNc
      rw [List.length_append, List.length_append, List.length_append, List.length_map, List.length_map, List.length_singleton, List.length_singleton] at hq hNc k2
      obtain ⟨k3, k4⟩ := k1.app
      obtain ⟨k5, k6⟩ := k3.app
      rw [List.length_append, List.length_map, List.length_singleton] at k4
      rw [List.length_map] at k6
      obtain ⟨Nc, rfl⟩ : ∃ x, Nc = x + 1 + l.1.length := ⟨Nc - 1 - l.1.length, by omega⟩
      obtain ⟨σ1, b1, b2, b3, b4, -⟩ := (CE (N := N) (e := e) x1).2 q 0 T (Nc + 1) σ h6 hT k5 (by omega) h8 (by omega)
      obtain ⟨σ2, c1, c2, c3, -⟩ := pop_ok b3 (by decide)
      have kk := b2.tr c2
      have h62 : siI σ2 2 6 = nI T := by
        rw [(kk 2 6 (by unfold rgG; omega)).1]
        exact h6
      have estep : lpx1 (gC N e) (Nc + 1 + l.1.length) (nI q) σ = (if vlE l.1 e = 0 then clx (F_X4_endOfLine N (nI (q + l.1.length)) σ2) (fun v14 σ21 => lpx1 (gC N e) Nc (v14 + (1 : Int32)) σ21) else lpx1 (gC N e) Nc (nI (q + l.1.length + 1)) σ2) := by
        rw [b1, lpx1_s, gC_test (T := T) (by rw [(b2 2 6 (by unfold rgG; omega)).1]; exact h6) hT (by omega) (kAt.one (k6.of b2)), c1, clx_s, b4]
      by_cases hv : vlE l.1 e = 0
      · rw [estep, if_pos hv]
        have k4' := k4.of kk
        have k6' := k6.of kk
        obtain ⟨k7, k8⟩ := k4'.app
        rw [List.length_map] at k8
        have hat := kAt.one k8
        rw [show q + (l.1.length + 1) + l.2.length = q + l.1.length + 1 + l.2.length by omega] at hat
        rw [C_eol h62 hT hN (t := q + l.1.length + 1 + l.2.length) (by omega) (by omega) (fun j j1 j2 => ?_) hat, clx_s, nI_add1]
        · obtain ⟨σ', g1, g2⟩ := ih (fun l2 q2 => hK l2 (List.mem_cons_of_mem _ q2)) (q + l.1.length + 1 + l.2.length + 1) T Nc σ2 h62 hT (by
            have := k2.of kk
            rw [show q + (l.1.length + 1 + (l.2.length + 1)) = q + l.1.length + 1 + l.2.length + 1 by omega] at this
            exact this) (by omega) c3 (by omega)
          refine ⟨σ', ?_, kk.tr g2⟩
          rw [g1, evL, if_neg h1, if_pos hv]
        · by_cases ej : j = q + l.1.length
          · subst ej
            rw [kAt.one k6']
            decide
          · have hj3 : j - (q + (l.1.length + 1)) < (l.2.map tC).length := by
              rw [List.length_map]
              omega
            have := k7 (j - (q + (l.1.length + 1))) hj3
            rw [show q + (l.1.length + 1) + (j - (q + (l.1.length + 1))) = j by omega] at this
            rw [this]
            exact map_ne x2.tok hj3
      · rw [estep, if_neg hv]
        obtain ⟨σ', g1, g2⟩ := val (q + l.1.length + 1) σ2 Nc h62 (by
          have := k4.of kk
          rw [show q + (l.1.length + 1) = q + l.1.length + 1 by omega] at this
          exact this) (by omega) c3 (by omega)
        refine ⟨σ', ?_, kk.tr g2⟩
        rw [g1, evL, if_neg h1, if_neg hv]
def envL (s k l w m : Nat) (i : Nat) : Int32 := if i = 0 then nI (pcN s) else if i = 1 then nI s else if i = 2 then nI k else if i = 3 then nI l else if i = 4 then nI w else nI m
noncomputable def GL (Ls : List Ln) : Gt := fun s k l w m => evL Ls (envL s k l w m)
theorem bc_tab : ∀ s, s < 32 → ∀ σ, F_J6_bitCount_0f7a4 (nI s) σ = some (nI (pcN s), σ) := by
  have key : ∀ s, s < 32 → (match F_J6_bitCount_0f7a4 (nI s) (fun _ _ => 0, fun _ _ => 0) with | some o => o.1 | none => 0) = nI (pcN s) := by decide +kernel
  intro s hs σ
  have := key s hs
  unfold F_J6_bitCount_0f7a4 at this ⊢
  simp only [nmx_s] at this ⊢
  rw [this]
theorem LC_of {N : Nat} {Ls : List Ln} {σ : Sx} (hN : 130 < N) (hK : ∀ l, l ∈ Ls → okL l) (hl : (cdL Ls).length ≤ 121) (h : cC Ls σ) : LC N (GL Ls) σ := fun σ1 q s k l w m hS => by
  have h1 := h.of q
  have kk : Kp rgG σ1 (upI σ1 2 8 (nI 0)) := Kp.rf.I (by unfold rgG; omega)
  obtain ⟨σ', g1, g2⟩ := CL (e := envL s k l w m) hN Ls hK 0 (cdL Ls).length N (upI σ1 2 8 (nI 0)) (by rw [uI_j (by decide)]; exact h1.1) hl (fun j hj => by rw [uI_i (by decide), Nat.zero_add]; exact h1.2 j hj) (by omega) uI_s (by omega)
  refine ⟨σ', ?_, kk.tr g2⟩
  unfold F_X4_gives
  rw [bc_tab s hS.1, clx_s, pIx_s, nmx_s]
  exact g1
