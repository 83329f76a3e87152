/-! ACT, TRACE, COUNT -/
theorem M_pl {a : Nat} {Q : Int32} (x : Int32) : MR a Q (F_X10_plainLeads (nI a) x) [1] (x + nI a) := (MR.bg 1 (MR.ret (a := a) (Q := Q) (x + nI a)) (by decide)).cg (fun σ _ => rfl)
theorem M_dl {a : Nat} {Q : Int32} (x : Int32) : MR a Q (F_X10_dancedLeads (nI a) x) [70, 1] ((x + nI a) * 2) := (MR.bg 70 ((M_pl x).mp (fun v => v * 2)) (by decide)).cg (fun σ _ => rfl)
theorem iu_lead : ∀ q, q < 8 → ∀ σ : Sx, F_X10_isUnder (nI q) (1 : Int32) σ = some ((if q = 1 ∨ q = 4 then 1 else 0), σ) := by
  intro q hq σ
  match q, hq with
  | 0, _ => rfl
  | 1, _ => rfl
  | 2, _ => rfl
  | 3, _ => rfl
  | 4, _ => rfl
  | 5, _ => rfl
  | 6, _ => rfl
  | 7, _ => rfl
theorem iu_tread : ∀ q, q < 8 → ∀ σ : Sx, F_X10_isUnder (nI q) (3 : Int32) σ = some ((if q = 3 ∨ q = 5 then 1 else 0), σ) := by
  intro q hq σ
  match q, hq with
  | 0, _ => rfl
  | 1, _ => rfl
  | 2, _ => rfl
  | 3, _ => rfl
  | 4, _ => rfl
  | 5, _ => rfl
  | 6, _ => rfl
  | 7, _ => rfl
theorem q_lit {q m : Nat} (hq : q < 8) (hm : m < 8) {α : Type} (A B : α) : (if nI q = nI m then A else B) = if q = m then A else B := ite_eq (by omega) (by omega) A B
theorem M_ld {a Q : Nat} (ha : a < 50) (hQ : Q < 8) (x : Int32) : MR a (nI Q) (F_X10_leading (nI a) x) (ldT Q) (ldV Q (nI a) x) := by
  have e : ∀ σ, siI σ 133 a = nI Q → F_X10_leading (nI a) x σ = if Q = 1 ∨ Q = 4 then clx (F_X10_ran (20 : Int32) σ) (fun _ σ6 => clx (F_X10_plainLeads (nI a) x σ6) (fun v8 σ7 => some ((v8 + (3 : Int32)), σ7))) else if Q = 7 then clx (F_X10_ran (81 : Int32) σ) (fun _ σ4 => clx (F_X10_dancedLeads (nI a) x σ4) (fun v7 σ5 => some ((v7 - (1 : Int32)), σ5))) else if Q = 6 then clx (F_X10_dancedLeads (nI a) x σ) (fun v6 σ3 => some (v6, σ3)) else clx (F_X10_plainLeads (nI a) x σ) (fun v5 σ2 => some (v5, σ2)) := fun σ h => by
    unfold F_X10_leading
    rw [aIx_k ha (by decide), h, iu_lead Q hQ, clx_s]
    by_cases q : Q = 1 ∨ Q = 4
    · rw [if_pos q, if_pos q, if10]
    · rw [if_neg q, if_neg q, if_pos rfl, aIx_k ha (by decide), h, show (7 : Int32) = nI 7 from rfl, q_lit hQ (by decide)]
      by_cases q7 : Q = 7
      · rw [if_pos q7, if_pos q7]
      · rw [if_neg q7, if_neg q7, aIx_k ha (by decide), h, show (6 : Int32) = nI 6 from rfl, q_lit hQ (by decide)]
  unfold ldT ldV
  by_cases q : Q = 1 ∨ Q = 4
  · rw [if_pos q, if_pos q]
    exact (MR.bg 20 ((M_pl x).mp (fun v => v + 3)) (by decide)).cg (fun σ h => by rw [e σ h, if_pos q])
  · rw [if_neg q, if_neg q]
    by_cases q6 : Q = 6
    · rw [if_pos q6, if_pos q6]
      exact ((M_dl x).mp id).cg (fun σ h => by rw [e σ h, if_neg q, if_neg (by omega), if_pos q6]; rfl)
    · rw [if_neg q6, if_neg q6]
      by_cases q7 : Q = 7
      · rw [if_pos q7, if_pos q7]
        exact (MR.bg 81 ((M_dl x).mp (fun v => v - 1)) (by decide)).cg (fun σ h => by rw [e σ h, if_neg q, if_pos q7])
      · rw [if_neg q7, if_neg q7]
        exact ((M_pl x).mp id).cg (fun σ h => by rw [e σ h, if_neg q, if_neg q7, if_neg q6]; rfl)
theorem M_pr {a : Nat} {Q : Int32} (x : Int32) : MR a Q (F_X10_plainReads (nI a) x) [11] (x ^^^ nI a) := (MR.bg 11 (MR.ret (a := a) (Q := Q) (x ^^^ nI a)) (by decide)).cg (fun σ _ => rfl)
theorem M_br {a : Nat} {Q : Int32} (x : Int32) : MR a Q (F_X10_besideReads (nI a) x) [40, 11] ((x ^^^ nI a) * 3) := (MR.bg 40 ((M_pr x).mp (fun v => v * 3)) (by decide)).cg (fun σ _ => rfl)
theorem M_rd {a Q : Nat} (ha : a < 50) (hQ : Q < 8) (x : Int32) : MR a (nI Q) (F_X10_reading (nI a) x) (rdT Q Q) (rdV Q Q (nI a) x) := by
  have hlq := ldT_len Q
  have e : ∀ σ, siI σ 133 a = nI Q → F_X10_reading (nI a) x σ = if Q = 5 then clx (F_X10_ran (60 : Int32) σ) (fun _ σ3 => clx (F_X10_besideReads (nI a) x σ3) (fun v5 σ4 => clx (F_X10_leading (nI a) (2 : Int32) σ4) (fun v6 σ5 => some ((v5 - v6), σ5)))) else if Q = 3 then clx (F_X10_besideReads (nI a) x σ) (fun v4 σ2 => some (v4, σ2)) else clx (F_X10_plainReads (nI a) x σ) (fun v3 σ1 => some (v3, σ1)) := fun σ h => by
    unfold F_X10_reading
    rw [aIx_k ha (by decide), h, show (5 : Int32) = nI 5 from rfl, q_lit hQ (by decide)]
    by_cases q : Q = 5
    · rw [if_pos q, if_pos q]
    · rw [if_neg q, if_neg q, aIx_k ha (by decide), h, show (3 : Int32) = nI 3 from rfl, q_lit hQ (by decide)]
  unfold rdT rdV
  by_cases q : Q = 5
  · rw [if_pos q, if_pos q]
    exact (MR.bg 60 ((M_br x).sq (fun v w => v - w) (M_ld ha hQ 2) (by simp; omega)) (by simp; omega)).cg (fun σ h => by rw [e σ h, if_pos q])
  · rw [if_neg q, if_neg q]
    by_cases q3 : Q = 3
    · rw [if_pos q3, if_pos q3]
      exact ((M_br x).mp id).cg (fun σ h => by rw [e σ h, if_neg q, if_pos q3]; rfl)
    · rw [if_neg q3, if_neg q3]
      exact ((M_pr x).mp id).cg (fun σ h => by rw [e σ h, if_neg q, if_neg q3]; rfl)
theorem M_pt {a Q : Nat} (ha : a < 50) (hQ : Q < 8) (x : Int32) : MR a (nI Q) (F_X10_plainTreads (nI a) x) (10 :: ldT Q) (ldV Q (nI a) x * 2) := (MR.bg 10 ((M_ld ha hQ x).mp (fun v => v * 2)) (by have := ldT_len Q; omega)).cg (fun σ _ => rfl)
theorem M_ft {a Q : Nat} (ha : a < 50) (hQ : Q < 8) (x : Int32) : MR a (nI Q) (F_X10_farTreads (nI a) x) (30 :: 10 :: ldT Q) (-(ldV Q (nI a) x * 2)) := (MR.bg 30 ((M_pt ha hQ x).mp (fun v => -v)) (by have := ldT_len Q; rw [List.length_cons]; omega)).cg (fun σ _ => rfl)
theorem M_tr {a Q : Nat} (ha : a < 50) (hQ : Q < 8) (x : Int32) : MR a (nI Q) (F_X10_treading (nI a) x) (trT Q Q) (trVv Q Q (nI a) x) := by
  have hlq := ldT_len Q
  have hrq := rdT_len Q Q
  have e : ∀ σ, siI σ 133 a = nI Q → F_X10_treading (nI a) x σ = if Q = 3 ∨ Q = 5 then clx (F_X10_ran (41 : Int32) σ) (fun _ σ7 => clx (F_X10_farTreads (nI a) (x + (1 : Int32)) σ7) (fun v9 σ8 => some (v9, σ8))) else if Q = 7 then clx (F_X10_ran (80 : Int32) σ) (fun _ σ4 => clx (F_X10_plainTreads (nI a) x σ4) (fun v7 σ5 => clx (F_X10_reading (nI a) (2 : Int32) σ5) (fun v8 σ6 => some ((v7 + v8), σ6)))) else if Q = 2 then clx (F_X10_farTreads (nI a) x σ) (fun v6 σ3 => some (v6, σ3)) else clx (F_X10_plainTreads (nI a) x σ) (fun v5 σ2 => some (v5, σ2)) := fun σ h => by
    unfold F_X10_treading
    rw [aIx_k ha (by decide), h, iu_tread Q hQ, clx_s]
    by_cases q : Q = 3 ∨ Q = 5
    · rw [if_pos q, if_pos q, if10]
    · rw [if_neg q, if_neg q, if_pos rfl, aIx_k ha (by decide), h, show (7 : Int32) = nI 7 from rfl, q_lit hQ (by decide)]
      by_cases q7 : Q = 7
      · rw [if_pos q7, if_pos q7]
      · rw [if_neg q7, if_neg q7, aIx_k ha (by decide), h]
        exact q_lit hQ (by decide) _ _
  unfold trT trVv
  by_cases q2 : Q = 2
  · rw [if_pos q2, if_pos q2]
    exact ((M_ft ha hQ x).mp id).cg (fun σ h => by rw [e σ h, if_neg (by omega), if_neg (by omega), if_pos q2]; rfl)
  · rw [if_neg q2, if_neg q2]
    by_cases q : Q = 3 ∨ Q = 5
    · rw [if_pos q, if_pos q]
      exact (MR.bg 41 ((M_ft ha hQ (x + 1)).mp id) (by rw [List.length_cons, List.length_cons]; omega)).cg (fun σ h => by rw [e σ h, if_pos q]; rfl)
    · rw [if_neg q, if_neg q]
      by_cases q7 : Q = 7
      · rw [if_pos q7, if_pos q7]
        exact (MR.bg 80 ((M_pt ha hQ x).sq (fun v w => v + w) (M_rd ha hQ 2) (by rw [List.length_cons]; omega)) (by rw [List.length_append, List.length_cons]; omega)).cg (fun σ h => by rw [e σ h, if_neg q, if_pos q7])
      · rw [if_neg q7, if_neg q7]
        exact ((M_pt ha hQ x).mp id).cg (fun σ h => by rw [e σ h, if_neg q, if_neg q7, if_neg q2]; rfl)
theorem M_ptl {a Q : Nat} (ha : a < 50) (hQ : Q < 8) (x : Int32) : MR a (nI Q) (F_X10_plainTells (nI a) x) (2 :: (trT Q Q ++ rdT Q Q)) (trVv Q Q (nI a) x - rdV Q Q (nI a) 1) := (MR.bg 2 ((M_tr ha hQ x).sq (fun v w => v - w) (M_rd ha hQ 1) (by have := trT_len Q Q; have := rdT_len Q Q; omega)) (by have := trT_len Q Q; have := rdT_len Q Q; rw [List.length_append]; omega)).cg (fun σ _ => rfl)
theorem M_tl {a Q : Nat} (ha : a < 50) (hQ : Q < 8) (x : Int32) : MR a (nI Q) (F_X10_telling (nI a) x) (tlT Q Q) (tlV Q Q (nI a) x) := by
  have hlq := trT_len Q Q
  have hrq := rdT_len Q Q
  have e : ∀ σ, siI σ 133 a = nI Q → F_X10_telling (nI a) x σ = if Q = 4 then clx (F_X10_ran (50 : Int32) σ) (fun _ σ4 => clx (F_X10_plainTells (nI a) x σ4) (fun v5 σ5 => some ((v5 ^^^ (5 : Int32)), σ5))) else if Q = 5 then clx (F_X10_ran (61 : Int32) σ) (fun _ σ2 => clx (F_X10_plainTells (nI a) x σ2) (fun v4 σ3 => some ((v4 + (1 : Int32)), σ3))) else clx (F_X10_plainTells (nI a) x σ) (fun v3 σ1 => some (v3, σ1)) := fun σ h => by
    unfold F_X10_telling
    rw [aIx_k ha (by decide), h]
    refine Eq.trans (q_lit (m := 4) hQ (by decide) _ _) ?_
    by_cases q : Q = 4
    · rw [if_pos q, if_pos q]
    · rw [if_neg q, if_neg q, aIx_k ha (by decide), h]
      exact q_lit (m := 5) hQ (by decide) _ _
  unfold tlT tlV
  by_cases q4 : Q = 4
  · rw [if_pos q4, if_pos q4]
    exact (MR.bg 50 ((M_ptl ha hQ x).mp (fun v => v ^^^ 5)) (by rw [List.length_cons, List.length_append]; omega)).cg (fun σ h => by rw [e σ h, if_pos q4])
  · rw [if_neg q4, if_neg q4]
    by_cases q5 : Q = 5
    · rw [if_pos q5, if_pos q5]
      exact (MR.bg 61 ((M_ptl ha hQ x).mp (fun v => v + 1)) (by rw [List.length_cons, List.length_append]; omega)).cg (fun σ h => by rw [e σ h, if_neg q4, if_pos q5])
    · rw [if_neg q5, if_neg q5]
      exact ((M_ptl ha hQ x).mp id).cg (fun σ h => by rw [e σ h, if_neg q4, if_neg q5]; rfl)
def ReT (σ : Sx) : Prop := ∃ L : List Int32, L.length ≤ 30 ∧ CT L σ ∧ MT L σ
def rgTt (i j : Nat) : Prop := rgTc i j ∨ rgTm i j ∨ (i = 8 ∧ (j = 4 ∨ j = 5))
theorem ReT.of {σ σ2 : Sx} (h : ReT σ) (e : ∀ i j, (rgTc i j ∨ rgTm i j) → siI σ2 i j = siI σ i j) : ReT σ2 := by
  obtain ⟨L, h1, ⟨h2, h3⟩, h4, h5⟩ := h
  refine ⟨L, h1, ⟨?_, fun j q1 q2 => ?_⟩, ?_, fun j q1 q2 => ?_⟩
  · rw [e 8 2 (by unfold rgTc; omega)]
    exact h2
  · rw [e 102 j (by unfold rgTc; omega)]
    exact h3 j q1 q2
  · rw [e 103 51 (by unfold rgTm; omega)]
    exact h4
  · rw [e 134 j (by unfold rgTm; omega)]
    exact h5 j q1 q2
def actM (a0 a1 a2 : Int32) (σ1 : Sx) : Option (Int32 × Sx) := clx (F_X10_isBody a0 σ1) (fun v1 σ2 => (if v1 = 0 then some ((0 : Int32), σ2) else clx (F_X10_in a1 (0 : Int32) (3 : Int32) σ2) (fun v2 σ3 => (if v2 = 0 then some ((0 : Int32), σ3) else (if a1 = 0 then clx (F_X10_leading a0 a2 σ3) (fun v6 σ7 => some (v6, σ7)) else (if a1 = (1 : Int32) then clx (F_X10_treading a0 a2 σ3) (fun v5 σ6 => some (v5, σ6)) else (if a1 = (2 : Int32) then clx (F_X10_reading a0 a2 σ3) (fun v4 σ5 => some (v4, σ5)) else clx (F_X10_telling a0 a2 σ3) (fun v3 σ4 => some (v3, σ4)))))))))
theorem actM_e (a0 a1 a2 : Int32) (σ : Sx) : F_X10_act a0 a1 a2 σ = actM a0 a1 a2 (upI σ 103 51 0) := rfl
theorem s_act {N : Nat} (a0 a1 a2 : Int32) {σ : Sx} (h : ReT σ) (hs : RelS σ) : StI ReT rgTt σ (F_X9_act N a0 a1 a2 σ) (F_X10_act a0 a1 a2) := by
  obtain ⟨nb, hnb, h1, h2, h3, -⟩ := hs
  have em : F_X9_act N a0 a1 a2 σ = F_X0_perform N a0 a1 a2 σ := by
    unfold F_X9_act
    cases F_X0_perform N a0 a1 a2 σ <;> rfl
  rw [em]
  unfold F_X0_perform
  rw [pIx_s]
  generalize hσ1 : upI σ 8 2 (0 : Int32) = σ1
  have k1 : Kp rgTc σ σ1 := by
    rw [← hσ1]
    exact Kp.rf.I (Or.inr ⟨rfl, rfl⟩)
  have ct1 : CT [] σ1 := ⟨by rw [← hσ1, uI_s]; rfl, fun j q => absurd q (Nat.not_lt_zero _)⟩
  -- what the other does when nothing runs
  have nil0 : ∀ σ2 : Sx, Kp rgTt σ σ2 → CT [] σ2 → (∀ σ3 : Sx, siI σ3 103 49 = nI nb → actM a0 a1 a2 σ3 = some (0, σ3)) → ∃ σ3, F_X10_act a0 a1 a2 σ2 = some (0, σ3) ∧ ReT σ3 ∧ Kp rgTt σ σ3 := fun σ2 kk c q => by
    have k3 : Kp rgTm σ2 (upI σ2 103 51 0) := Kp.rf.I (Or.inr ⟨rfl, rfl⟩)
    refine ⟨upI σ2 103 51 0, ?_, ⟨[], by decide, ⟨by rw [uI_i (by decide)]; exact c.1, fun j z => absurd z (Nat.not_lt_zero _)⟩, by rw [uI_s]; rfl, fun j z => absurd z (Nat.not_lt_zero _)⟩, kk.tr (k3.le (fun i j z => Or.inr (Or.inl z)))⟩
    rw [actM_e]
    refine q _ ?_
    rw [uI_j (by decide), (kk 103 49 (by unfold rgTt rgTc rgTm; omega)).1]
    exact h2
  have eB : ∀ (a : Int32) (σ3 : Sx), siI σ3 103 49 = nI nb → F_X10_isBody a σ3 = some ((if a < 0 then 0 else if nI nb ≤ a then 0 else 1), σ3) := fun a σ3 q => by
    unfold F_X10_isBody
    rw [M_in, clx_s, q]
    by_cases h1 : a < 0
    · rw [if_pos h1, if_pos h1]
      rfl
    · rw [if_neg h1, if_neg h1]
      have e : (nI nb - (1 : Int32) < a) ↔ nI nb ≤ a := by
        have e1 : (nI nb - (1 : Int32)).toInt = (nb : Int) - 1 := pk_sub_toInt (b := 1) (by omega) (by decide)
        rw [Int32.lt_iff_toInt_lt, Int32.le_iff_toInt_le, e1, nI_toInt (by omega)]
        omega
      by_cases h2 : nI nb ≤ a
      · rw [if_pos (e.mpr h2), if_pos h2]
        rfl
      · rw [if_neg (fun q => h2 (e.mp q)), if_neg h2]
        rfl
  have eT : F_X0_isThere a0 σ1 = some ((if a0 < 0 then 0 else if nI nb ≤ a0 then 0 else 1), σ1) := by
    unfold F_X0_isThere
    rw [(k1 8 0 (by unfold rgTc; omega)).1, h1]
    by_cases q1 : a0 < 0
    · rw [if_pos q1, if_pos q1]
    · rw [if_neg q1, if_neg q1]
      by_cases q2 : nI nb ≤ a0
      · rw [if_pos q2, if_pos q2]
      · rw [if_neg q2, if_neg q2]
  rw [eT, clx_s]
  have kT1 : Kp rgTt σ σ1 := k1.le (fun i j q => Or.inl q)
  rcases arg_n a0 (n := nb) (by omega) with ha | ⟨ha, ha2⟩ | ⟨a, ha, rfl⟩
  · obtain ⟨σ3, m1, m2, m3⟩ := nil0 σ1 kT1 ct1 (fun σ3 q => by rw [actM, eB _ _ q, if_pos ha]; rfl)
    exact ⟨0, σ1, σ3, by rw [if_pos ha]; rfl, m1, m2, m3⟩
  · obtain ⟨σ3, m1, m2, m3⟩ := nil0 σ1 kT1 ct1 (fun σ3 q => by rw [actM, eB _ _ q, if_neg ha, if_pos ha2]; rfl)
    exact ⟨0, σ1, σ3, by rw [if_neg ha, if_pos ha2]; rfl, m1, m2, m3⟩
  have ha50 : a < 50 := by omega
  obtain ⟨Q, hQ, q1, q2⟩ := h3 a ha
  have hthere : (if nI a < 0 then (0 : Int32) else if nI nb ≤ nI a then 0 else 1) = 1 := by rw [if_neg (nI_pos (by omega)), if_neg (nI_ge ha (by omega))]
  rw [hthere]
  rw [if10, pIx_s, aIx_k ha50 (by decide), uI_i (by decide), (k1 101 a (by unfold rgTc; omega)).1, q1, pIx_s]
  generalize hσ4 : upI (upI σ1 8 4 (nI a)) 8 5 (nI Q) = σ4
  have k4 : Kp rgTt σ σ4 := by
    rw [← hσ4]
    exact (kT1.I (Or.inr (Or.inr ⟨rfl, Or.inl rfl⟩))).I (Or.inr (Or.inr ⟨rfl, Or.inr rfl⟩))
  have ct4 : CT [] σ4 := ⟨by rw [← hσ4, uI_j (by decide), uI_j (by decide)]; exact ct1.1, fun j q => absurd q (Nat.not_lt_zero _)⟩
  have e84 : siI σ4 8 4 = nI a := by
    rw [← hσ4, uI_j (by decide), uI_s]
  have e85 : siI σ4 8 5 = nI Q := by
    rw [← hσ4, uI_s]
  have e133 : siI σ4 133 a = nI Q := by
    rw [(k4 133 a (by unfold rgTt rgTc rgTm; omega)).1]
    exact q2
  have e49 : siI σ4 103 49 = nI nb := by
    rw [(k4 103 49 (by unfold rgTt rgTc rgTm; omega)).1]
    exact h2
  -- both run
  have both : ∀ (FC FM : Sx → Option (Int32 × Sx)) (T : List Int32) (v : Int32), CR (nI a) (nI Q) FC T v → MR a (nI Q) FM T v → (∀ σ3 : Sx, siI σ3 103 49 = nI nb → actM (nI a) a1 a2 σ3 = clx (FM σ3) (fun v6 σ7 => some (v6, σ7))) → StI ReT rgTt σ (clx (FC σ4) (fun v3 σ5 => some (v3, σ5))) (F_X10_act (nI a) a1 a2) := fun FC FM T v hC hM q => by
    obtain ⟨σ5, c1, c2, c3⟩ := hC.2 [] σ4 ct4 (by have := hC.1; simp only [List.length_nil]; omega) e84 e85
    rw [List.nil_append] at c3
    have k5 : Kp rgTt σ σ5 := k4.tr (c2.le (fun i j z => Or.inl z))
    generalize hσ6 : upI σ5 103 51 (0 : Int32) = σ6
    have k6 : Kp rgTt σ σ6 := by
      rw [← hσ6]
      exact k5.I (Or.inr (Or.inl (Or.inr ⟨rfl, rfl⟩)))
    have mt6 : MT [] σ6 := ⟨by rw [← hσ6, uI_s]; rfl, fun j z => absurd z (Nat.not_lt_zero _)⟩
    obtain ⟨σ7, d1, d2, d3⟩ := hM.2 [] σ6 mt6 (by have := hM.1; simp only [List.length_nil]; omega) (by rw [(k6 133 a (by unfold rgTt rgTc rgTm; omega)).1]; exact q2)
    rw [List.nil_append] at d3
    refine ⟨v, σ5, σ7, by rw [c1, clx_s], ?_, ⟨T, by have := hC.1; omega, ⟨?_, fun j z1 z2 => ?_⟩, d3⟩, k6.tr (d2.le (fun i j z => Or.inr (Or.inl z)))⟩
    · rw [actM_e, hσ6]
      refine (q σ6 ?_).trans ?_
      · rw [(k6 103 49 (by unfold rgTt rgTc rgTm; omega)).1]
        exact h2
      · rw [d1, clx_s]
    · rw [(d2 8 2 (by unfold rgTm; omega)).1, ← hσ6, uI_i (by decide)]
      exact c3.1
    · rw [(d2 102 j (by unfold rgTm; omega)).1, ← hσ6, uI_i (by decide)]
      exact c3.2 j z1 z2
  have eBa : ∀ σ3 : Sx, siI σ3 103 49 = nI nb → F_X10_isBody (nI a) σ3 = some (1, σ3) := fun σ3 q => by rw [eB _ _ q, hthere]
  by_cases t0 : a1 = 0
  · subst t0
    rw [if_pos rfl]
    refine both (fun σ => F_X0_leads N (siI σ 8 5) a2 (0 : Int32) σ) (F_X10_leading (nI a) a2) _ _ (F_ld hQ (nI a) a2 (c := 0) (by decide)) (M_ld ha50 hQ a2) (fun σ3 q => ?_)
    rw [actM, eBa σ3 q]
    rfl
  by_cases t1 : a1 = 1
  · subst t1
    rw [if_neg t0, if_pos rfl]
    refine both (fun σ => F_X0_treads N (siI σ 8 5) a2 (0 : Int32) σ) (F_X10_treading (nI a) a2) _ _ (F_tr hQ (nI a) a2 (c := 0) (by decide)) (M_tr ha50 hQ a2) (fun σ3 q => ?_)
    rw [actM, eBa σ3 q]
    rfl
  by_cases t2 : a1 = 2
  · subst t2
    rw [if_neg t0, if_neg t1, if_pos rfl]
    refine both (fun σ => F_X0_reads N (siI σ 8 5) a2 (0 : Int32) σ) (F_X10_reading (nI a) a2) _ _ (F_rd hQ (nI a) a2 (c := 0) (by decide)) (M_rd ha50 hQ a2) (fun σ3 q => ?_)
    rw [actM, eBa σ3 q]
    rfl
  by_cases t3 : a1 = 3
  · subst t3
    rw [if_neg t0, if_neg t1, if_neg t2, if_pos rfl]
    refine both (fun σ => F_X0_tells N (siI σ 8 5) a2 (0 : Int32) σ) (F_X10_telling (nI a) a2) _ _ (F_tl hQ (nI a) a2 (c := 0) (by decide)) (M_tl ha50 hQ a2) (fun σ3 q => ?_)
    rw [actM, eBa σ3 q]
    rfl
  rw [if_neg t0, if_neg t1, if_neg t2, if_neg t3]
  obtain ⟨σ3, m1, m2, m3⟩ := nil0 σ4 k4 ct4 (fun σ3 q => by
    rw [actM, eBa σ3 q, clx_s, if10]
    rcases in_m (n := 3) (by decide) a1 σ3 with ⟨e, -⟩ | ⟨k, hk, rfl, -⟩
    · rw [show F_X10_in a1 (0 : Int32) (3 : Int32) σ3 = some (0, σ3) from e]
      rfl
    · exfalso
      rcases (show k = 0 ∨ k = 1 ∨ k = 2 ∨ k = 3 by omega) with rfl | rfl | rfl | rfl
      · exact t0 rfl
      · exact t1 rfl
      · exact t2 rfl
      · exact t3 rfl)
  exact ⟨0, σ4, σ3, rfl, m1, m2, m3⟩
theorem s_trace (a0 : Int32) {σ : Sx} (h : ReT σ) : StI ReT rgTt σ (F_X9_trace a0 σ) (F_X10_trace a0) := by
  obtain ⟨L, h1, ⟨h2, h3⟩, h4, h5⟩ := id h
  have key : ∃ r, F_X9_trace a0 σ = some (r, σ) ∧ F_X10_trace a0 σ = some (r, σ) := by
    unfold F_X9_trace F_X0_ranAt F_X10_trace
    rw [h2, h4]
    by_cases q1 : a0 < 0
    · rw [if_pos q1, if_pos q1]
      exact ⟨_, rfl, rfl⟩
    · obtain ⟨x, hx, rfl⟩ := nI_of q1
      rw [if_neg q1, if_neg q1, ite_le (by omega) hx, ite_le (by omega) hx, show (24 : Int32) = nI 24 from rfl, ite_le (by decide) hx, ite_le (by decide) hx]
      by_cases q2 : L.length ≤ x
      · rw [if_pos q2, if_pos q2]
        exact ⟨_, rfl, rfl⟩
      · rw [if_neg q2, if_neg q2]
        by_cases q3 : 24 ≤ x
        · rw [if_pos q3, if_pos q3]
          exact ⟨_, rfl, rfl⟩
        · rw [if_neg q3, if_neg q3, aIx_k (by omega) (by decide), aIx_k (by omega) (by decide), h3 x (by omega) (by omega), h5 x (by omega) (by omega)]
          exact ⟨_, rfl, rfl⟩
  obtain ⟨r, e1, e2⟩ := key
  exact ⟨r, σ, σ, e1, e2, h, Kp.rf⟩
