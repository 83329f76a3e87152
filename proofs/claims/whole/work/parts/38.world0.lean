def ordL : List Nat := [0, 1, 59, 64, 72, 76, 78, 81, 87, 90, 91, 93, 95, 97, 99, 101, 92, 94, 96, 98, 100, 102, 2, 3, 4, 5, 6, 7, 8, 9, 10, 11, 12, 13, 14, 15, 16, 17, 18, 19, 20, 21, 22, 23, 24, 25, 26, 27, 28, 29, 30, 31, 32, 33, 34, 35, 36, 37, 38, 39, 40, 41, 42, 43, 44, 45, 46, 47, 48, 49, 50, 51, 52, 53, 54, 55, 56, 57, 58, 60, 61, 62, 63, 65, 66, 67, 68, 69, 70, 71, 73, 74, 75, 77, 79, 80, 82, 83, 84, 85, 86, 88, 89, 103, 104, 105, 106, 107, 108, 109, 110, 111, 112, 113, 114, 115, 116, 117, 118, 119, 120, 121, 122, 123, 124, 125, 126, 127, 128, 129, 130, 131, 132, 133, 134, 135, 136, 137, 138]
def alx (ba : Nat) : Nat → Nat := fun i => ba + ordL.getD i 0
def s0I : Nat → Nat → Int32 := fun i => if i = 2 then (fun j => ([0, 0, 0, 0, 0, 0, 2, 0, 0] : List Int32).getD j 0) else if i = 3 then (fun j => ([0, 0, 1, 0, 0, 0, 0, 0, 0, 0, 0, 0] : List Int32).getD j 0) else if i = 10 then (fun j => ([-1, 0, 0, 0] : List Int32).getD j 0) else if i = 11 then (fun j => ([-1, 0, 0, 0] : List Int32).getD j 0) else if i = 12 then (fun j => ([-1, 0, 0, 0] : List Int32).getD j 0) else if i = 13 then (fun j => ([-1, 0, 0, 0] : List Int32).getD j 0) else if i = 14 then (fun j => ([-1, 0, 0, 0] : List Int32).getD j 0) else if i = 15 then (fun j => ([-1, 0, 0, 0] : List Int32).getD j 0) else if i = 27 then (fun j => if j < 8 then (5 : Int32) else (fun _ => 0) j) else if i = 28 then (fun j => if j < 8 then (5 : Int32) else (fun _ => 0) j) else if i = 29 then (fun j => if j < 8 then (5 : Int32) else (fun _ => 0) j) else if i = 30 then (fun j => if j < 8 then (5 : Int32) else (fun _ => 0) j) else if i = 31 then (fun j => if j < 8 then (5 : Int32) else (fun _ => 0) j) else if i = 32 then (fun j => if j < 8 then (5 : Int32) else (fun _ => 0) j) else if i = 33 then (fun j => if j < 8 then (5 : Int32) else (fun _ => 0) j) else if i = 34 then (fun j => if j < 8 then (5 : Int32) else (fun _ => 0) j) else if i = 81 then (upd (upd (fun _ => 0) (Int32.toNatClampNeg (0 : Int32)) (10110 : Int32)) (Int32.toNatClampNeg (1 : Int32)) (10059 : Int32)) else if i = 94 then (upd (fun _ => 0) (Int32.toNatClampNeg (3 : Int32)) (-2 : Int32)) else if i = 103 then (fun j => ([0, 0, 0, 0, 0, 0, 0, 0, 0, 0, 0, 0, 0, 0, 0, 0, 0, 0, 0, 0, 0, 0, 0, 0, 0, 0, 0, 0, 0, 0, 0, 0, -1, 0, -1, 0, 0, 0, 0, 0, 0, 0, 0, 0, 0, 0, 0, 0, 0, 0, 0, 0, 0, 0, 0, 0, 0] : List Int32).getD j 0) else if i = 110 then (upd (upd (upd (upd (upd (upd (upd (upd (upd (upd (upd (upd (upd (upd (upd (upd (upd (upd (upd (upd (upd (upd (upd (upd (upd (upd (upd (upd (upd (upd (upd (upd (upd (upd (upd (upd (upd (upd (upd (upd (upd (upd (upd (upd (upd (upd (upd (upd (upd (upd (upd (upd (upd (upd (upd (upd (upd (upd (upd (upd (upd (upd (upd (upd (fun _ => 0) (Int32.toNatClampNeg (0 : Int32)) (0 : Int32)) (Int32.toNatClampNeg (1 : Int32)) (5 : Int32)) (Int32.toNatClampNeg (2 : Int32)) (5 : Int32)) (Int32.toNatClampNeg (3 : Int32)) (5 : Int32)) (Int32.toNatClampNeg (4 : Int32)) (5 : Int32)) (Int32.toNatClampNeg (5 : Int32)) (5 : Int32)) (Int32.toNatClampNeg (6 : Int32)) (5 : Int32)) (Int32.toNatClampNeg (7 : Int32)) (5 : Int32)) (Int32.toNatClampNeg (8 : Int32)) (5 : Int32)) (Int32.toNatClampNeg (9 : Int32)) (0 : Int32)) (Int32.toNatClampNeg (10 : Int32)) (5 : Int32)) (Int32.toNatClampNeg (11 : Int32)) (5 : Int32)) (Int32.toNatClampNeg (12 : Int32)) (5 : Int32)) (Int32.toNatClampNeg (13 : Int32)) (5 : Int32)) (Int32.toNatClampNeg (14 : Int32)) (5 : Int32)) (Int32.toNatClampNeg (15 : Int32)) (5 : Int32)) (Int32.toNatClampNeg (16 : Int32)) (5 : Int32)) (Int32.toNatClampNeg (17 : Int32)) (5 : Int32)) (Int32.toNatClampNeg (18 : Int32)) (0 : Int32)) (Int32.toNatClampNeg (19 : Int32)) (5 : Int32)) (Int32.toNatClampNeg (20 : Int32)) (5 : Int32)) (Int32.toNatClampNeg (21 : Int32)) (5 : Int32)) (Int32.toNatClampNeg (22 : Int32)) (5 : Int32)) (Int32.toNatClampNeg (23 : Int32)) (5 : Int32)) (Int32.toNatClampNeg (24 : Int32)) (5 : Int32)) (Int32.toNatClampNeg (25 : Int32)) (5 : Int32)) (Int32.toNatClampNeg (26 : Int32)) (5 : Int32)) (Int32.toNatClampNeg (27 : Int32)) (0 : Int32)) (Int32.toNatClampNeg (28 : Int32)) (5 : Int32)) (Int32.toNatClampNeg (29 : Int32)) (5 : Int32)) (Int32.toNatClampNeg (30 : Int32)) (5 : Int32)) (Int32.toNatClampNeg (31 : Int32)) (5 : Int32)) (Int32.toNatClampNeg (32 : Int32)) (5 : Int32)) (Int32.toNatClampNeg (33 : Int32)) (5 : Int32)) (Int32.toNatClampNeg (34 : Int32)) (5 : Int32)) (Int32.toNatClampNeg (35 : Int32)) (5 : Int32)) (Int32.toNatClampNeg (36 : Int32)) (0 : Int32)) (Int32.toNatClampNeg (37 : Int32)) (5 : Int32)) (Int32.toNatClampNeg (38 : Int32)) (5 : Int32)) (Int32.toNatClampNeg (39 : Int32)) (5 : Int32)) (Int32.toNatClampNeg (40 : Int32)) (5 : Int32)) (Int32.toNatClampNeg (41 : Int32)) (5 : Int32)) (Int32.toNatClampNeg (42 : Int32)) (5 : Int32)) (Int32.toNatClampNeg (43 : Int32)) (5 : Int32)) (Int32.toNatClampNeg (44 : Int32)) (5 : Int32)) (Int32.toNatClampNeg (45 : Int32)) (0 : Int32)) (Int32.toNatClampNeg (46 : Int32)) (5 : Int32)) (Int32.toNatClampNeg (47 : Int32)) (5 : Int32)) (Int32.toNatClampNeg (48 : Int32)) (5 : Int32)) (Int32.toNatClampNeg (49 : Int32)) (5 : Int32)) (Int32.toNatClampNeg (50 : Int32)) (5 : Int32)) (Int32.toNatClampNeg (51 : Int32)) (5 : Int32)) (Int32.toNatClampNeg (52 : Int32)) (5 : Int32)) (Int32.toNatClampNeg (53 : Int32)) (5 : Int32)) (Int32.toNatClampNeg (54 : Int32)) (0 : Int32)) (Int32.toNatClampNeg (55 : Int32)) (5 : Int32)) (Int32.toNatClampNeg (56 : Int32)) (5 : Int32)) (Int32.toNatClampNeg (57 : Int32)) (5 : Int32)) (Int32.toNatClampNeg (58 : Int32)) (5 : Int32)) (Int32.toNatClampNeg (59 : Int32)) (5 : Int32)) (Int32.toNatClampNeg (60 : Int32)) (5 : Int32)) (Int32.toNatClampNeg (61 : Int32)) (5 : Int32)) (Int32.toNatClampNeg (62 : Int32)) (5 : Int32)) (Int32.toNatClampNeg (63 : Int32)) (0 : Int32)) else if i = 131 then (upd (upd (upd (upd (fun _ => 0) (Int32.toNatClampNeg (0 : Int32)) (0 : Int32)) (Int32.toNatClampNeg (1 : Int32)) (0 : Int32)) (Int32.toNatClampNeg (2 : Int32)) (0 : Int32)) (Int32.toNatClampNeg (3 : Int32)) (-2 : Int32)) else if i = 135 then (upd (upd (upd (upd (upd (upd (fun _ => 0) (Int32.toNatClampNeg (0 : Int32)) (-1 : Int32)) (Int32.toNatClampNeg (1 : Int32)) (-1 : Int32)) (Int32.toNatClampNeg (2 : Int32)) (-1 : Int32)) (Int32.toNatClampNeg (3 : Int32)) (-1 : Int32)) (Int32.toNatClampNeg (4 : Int32)) (-1 : Int32)) (Int32.toNatClampNeg (5 : Int32)) (-1 : Int32)) else fun _ => 0
def s0 : Sx := (s0I, fun _ _ => 0)
theorem al_ok (ba : Nat) : alOK (alx ba) ba := by
  have h : va_nd ordL = true := by decide +kernel
  have hl : ordL.length = nW := by decide +kernel
  refine ⟨fun i j hi hj hij => ?_, fun i _ => Nat.le_add_right _ _⟩
  have e : ordL.getD i 0 = ordL.getD j 0 := by unfold alx at hij; omega
  have gi : ordL[i]? = some (ordL.getD i 0) := by simp [List.getD, hl, hi]
  have gj : ordL[j]? = some (ordL.getD i 0) := by rw [e]; simp [List.getD, hl, hj]
  exact va_nd_inj ordL h i j _ gi gj
theorem rows_eq {D : va_G} {a n : Nat} {c : ClassId} {f g : Nat → Option Nat} {H : Heap} (h : va_at D vwCl (a, .inl (c, n, .inr (.inr (.inr (.inr f))))) H) (e : ∀ j, j < n → f j = g j) : va_at D vwCl (a, .inl (c, n, .inr (.inr (.inr (.inr g))))) H := by
  have h2 : H[a]? = some (vp_cell c (n, .inr (.inr (.inr (.inr f))))) := h
  show H[a]? = some (vp_cell c (n, .inr (.inr (.inr (.inr g)))))
  rw [h2, vp_cell_q, vp_cell_q]
  unfold arrV
  congr 2
  congr 1
  funext j
  show va_rf (f j.val) = va_rf (g j.val)
  rw [e j.val j.isLt]
def hpF (cA : Nat → ClassId) (ba : Nat) : Nat → va_E := W_X10_init_104 cA ba (upE (W_X9_init_1 cA ba (upE (fun _ => .inr (0, [])) 0 (.inr (9, (Value.null :: Value.null :: Value.null :: Value.null :: Value.null :: Value.null :: Value.null :: Value.null :: Value.null :: []))))) 103 (.inr (10, (Value.int 0 :: Value.int 0 :: Value.null :: Value.null :: Value.null :: Value.null :: Value.null :: Value.null :: Value.null :: Value.int 0 :: Value.int 0 :: Value.null :: Value.null :: Value.null :: Value.null :: Value.null :: Value.int 0 :: Value.int 0 :: Value.int 0 :: Value.int 0 :: Value.int 0 :: Value.null :: Value.null :: Value.null :: Value.null :: Value.null :: Value.null :: Value.null :: Value.int 0 :: Value.null :: Value.null :: Value.null :: Value.int 0 :: Value.int 0 :: Value.int 0 :: Value.int 0 :: Value.int 0 :: Value.null :: Value.int 0 :: Value.int 0 :: Value.int 0 :: Value.null :: Value.null :: Value.int 0 :: Value.null :: Value.null :: Value.null :: Value.null :: Value.int 0 :: Value.int 0 :: Value.null :: Value.int 0 :: Value.null :: Value.null :: Value.null :: Value.null :: Value.null :: []))))
set_option maxRecDepth 100000 in
set_option maxHeartbeats 16000000 in
theorem world0 {D : va_G} {cA : Nat → ClassId} {ba : Nat} {H : Heap} (h : EWx D ba 139 (hpF cA ba) H) : va_P D vwCl (wlx (alx ba) cA s0) H := by
  intro k z hz
  obtain ⟨hk, rfl⟩ := wlx_inv hz
  match k, hk with
  | 0, _ => exact h.2 0 (by decide)
  | 1, _ => exact h.2 1 (by decide)
  | 2, _ => exact h.2 59 (by decide)
  | 3, _ => exact h.2 64 (by decide)
  | 4, _ => exact h.2 72 (by decide)
  | 5, _ => exact h.2 76 (by decide)
  | 6, _ => exact h.2 78 (by decide)
  | 7, _ => exact h.2 81 (by decide)
  | 8, _ => exact h.2 87 (by decide)
  | 9, _ => exact rows_eq (h.2 90 (by decide)) (fun j hj => by
      match j, hj with
      | 0, _ => rfl
      | 1, _ => rfl
      | 2, _ => rfl
      | 3, _ => rfl
      | 4, _ => rfl
      | 5, _ => rfl
      | j + 6, hj => exact absurd (show j + 6 < 6 from hj) (by omega))
  | 10, _ => exact h.2 91 (by decide)
  | 11, _ => exact h.2 93 (by decide)
  | 12, _ => exact h.2 95 (by decide)
  | 13, _ => exact h.2 97 (by decide)
  | 14, _ => exact h.2 99 (by decide)
  | 15, _ => exact h.2 101 (by decide)
  | 16, _ => exact h.2 92 (by decide)
  | 17, _ => exact h.2 94 (by decide)
  | 18, _ => exact h.2 96 (by decide)
  | 19, _ => exact h.2 98 (by decide)
  | 20, _ => exact h.2 100 (by decide)
  | 21, _ => exact h.2 102 (by decide)
  | 22, _ => exact rows_eq (h.2 2 (by decide)) (fun j hj => by
      match j, hj with
      | 0, _ => rfl
      | 1, _ => rfl
      | 2, _ => rfl
      | j + 3, hj => exact absurd (show j + 3 < 3 from hj) (by omega))
  | 23, _ => exact h.2 3 (by decide)
  | 24, _ => exact h.2 4 (by decide)
  | 25, _ => exact h.2 5 (by decide)
  | 26, _ => exact rows_eq (h.2 6 (by decide)) (fun j hj => by
      match j, hj with
      | 0, _ => rfl
      | 1, _ => rfl
      | 2, _ => rfl
      | 3, _ => rfl
      | 4, _ => rfl
      | 5, _ => rfl
      | 6, _ => rfl
      | 7, _ => rfl
      | j + 8, hj => exact absurd (show j + 8 < 8 from hj) (by omega))
  | 27, _ => exact h.2 7 (by decide)
  | 28, _ => exact h.2 8 (by decide)
  | 29, _ => exact h.2 9 (by decide)
  | 30, _ => exact h.2 10 (by decide)
  | 31, _ => exact h.2 11 (by decide)
  | 32, _ => exact h.2 12 (by decide)
  | 33, _ => exact h.2 13 (by decide)
  | 34, _ => exact h.2 14 (by decide)
  | 35, _ => exact h.2 15 (by decide)
  | 36, _ => exact h.2 16 (by decide)
  | 37, _ => exact rows_eq (h.2 17 (by decide)) (fun j hj => by
      match j, hj with
      | 0, _ => rfl
      | 1, _ => rfl
      | 2, _ => rfl
      | 3, _ => rfl
      | 4, _ => rfl
      | 5, _ => rfl
      | 6, _ => rfl
      | 7, _ => rfl
      | 8, _ => rfl
      | 9, _ => rfl
      | 10, _ => rfl
      | 11, _ => rfl
      | 12, _ => rfl
      | 13, _ => rfl
      | 14, _ => rfl
      | 15, _ => rfl
      | 16, _ => rfl
      | 17, _ => rfl
      | 18, _ => rfl
      | 19, _ => rfl
      | j + 20, hj => exact absurd (show j + 20 < 20 from hj) (by omega))
  | 38, _ => exact h.2 18 (by decide)
  | 39, _ => exact h.2 19 (by decide)
  | 40, _ => exact h.2 20 (by decide)
  | 41, _ => exact h.2 21 (by decide)
  | 42, _ => exact h.2 22 (by decide)
  | 43, _ => exact h.2 23 (by decide)
  | 44, _ => exact h.2 24 (by decide)
  | 45, _ => exact h.2 25 (by decide)
  | 46, _ => exact h.2 26 (by decide)
  | 47, _ => exact h.2 27 (by decide)
  | 48, _ => exact h.2 28 (by decide)
  | 49, _ => exact h.2 29 (by decide)
  | 50, _ => exact h.2 30 (by decide)
  | 51, _ => exact h.2 31 (by decide)
  | 52, _ => exact h.2 32 (by decide)
  | 53, _ => exact h.2 33 (by decide)
  | 54, _ => exact h.2 34 (by decide)
  | 55, _ => exact h.2 35 (by decide)
  | 56, _ => exact h.2 36 (by decide)
  | 57, _ => exact h.2 37 (by decide)
  | 58, _ => exact rows_eq (h.2 38 (by decide)) (fun j hj => by
      match j, hj with
      | 0, _ => rfl
      | 1, _ => rfl
      | 2, _ => rfl
      | 3, _ => rfl
      | 4, _ => rfl
      | 5, _ => rfl
      | 6, _ => rfl
      | 7, _ => rfl
      | 8, _ => rfl
      | 9, _ => rfl
      | 10, _ => rfl
      | 11, _ => rfl
      | 12, _ => rfl
      | 13, _ => rfl
      | 14, _ => rfl
      | 15, _ => rfl
      | 16, _ => rfl
      | 17, _ => rfl
      | 18, _ => rfl
      | 19, _ => rfl
      | j + 20, hj => exact absurd (show j + 20 < 20 from hj) (by omega))
  | 59, _ => exact h.2 39 (by decide)
  | 60, _ => exact h.2 40 (by decide)
  | 61, _ => exact h.2 41 (by decide)
  | 62, _ => exact h.2 42 (by decide)
  | 63, _ => exact h.2 43 (by decide)
  | 64, _ => exact h.2 44 (by decide)
  | 65, _ => exact h.2 45 (by decide)
  | 66, _ => exact h.2 46 (by decide)
  | 67, _ => exact h.2 47 (by decide)
  | 68, _ => exact h.2 48 (by decide)
  | 69, _ => exact h.2 49 (by decide)
  | 70, _ => exact h.2 50 (by decide)
  | 71, _ => exact h.2 51 (by decide)
  | 72, _ => exact h.2 52 (by decide)
  | 73, _ => exact h.2 53 (by decide)
  | 74, _ => exact h.2 54 (by decide)
  | 75, _ => exact h.2 55 (by decide)
  | 76, _ => exact h.2 56 (by decide)
  | 77, _ => exact h.2 57 (by decide)
  | 78, _ => exact h.2 58 (by decide)
  | 79, _ => exact h.2 60 (by decide)
  | 80, _ => exact h.2 61 (by decide)
  | 81, _ => exact h.2 62 (by decide)
  | 82, _ => exact h.2 63 (by decide)
  | 83, _ => exact h.2 65 (by decide)
  | 84, _ => exact h.2 66 (by decide)
  | 85, _ => exact h.2 67 (by decide)
  | 86, _ => exact h.2 68 (by decide)
  | 87, _ => exact h.2 69 (by decide)
  | 88, _ => exact h.2 70 (by decide)
  | 89, _ => exact h.2 71 (by decide)
  | 90, _ => exact h.2 73 (by decide)
  | 91, _ => exact h.2 74 (by decide)
  | 92, _ => exact h.2 75 (by decide)
  | 93, _ => exact h.2 77 (by decide)
  | 94, _ => exact h.2 79 (by decide)
  | 95, _ => exact h.2 80 (by decide)
  | 96, _ => exact rows_eq (h.2 82 (by decide)) (fun j hj => by
      match j, hj with
      | 0, _ => rfl
      | 1, _ => rfl
      | 2, _ => rfl
      | 3, _ => rfl
      | j + 4, hj => exact absurd (show j + 4 < 4 from hj) (by omega))
  | 97, _ => exact h.2 83 (by decide)
  | 98, _ => exact h.2 84 (by decide)
  | 99, _ => exact h.2 85 (by decide)
  | 100, _ => exact h.2 86 (by decide)
  | 101, _ => exact h.2 88 (by decide)
  | 102, _ => exact h.2 89 (by decide)
  | 103, _ => exact h.2 103 (by decide)
  | 104, _ => exact h.2 104 (by decide)
  | 105, _ => exact h.2 105 (by decide)
  | 106, _ => exact h.2 106 (by decide)
  | 107, _ => exact h.2 107 (by decide)
  | 108, _ => exact h.2 108 (by decide)
  | 109, _ => exact h.2 109 (by decide)
  | 110, _ => exact h.2 110 (by decide)
  | 111, _ => exact h.2 111 (by decide)
  | 112, _ => exact h.2 112 (by decide)
  | 113, _ => exact h.2 113 (by decide)
  | 114, _ => exact h.2 114 (by decide)
  | 115, _ => exact h.2 115 (by decide)
  | 116, _ => exact h.2 116 (by decide)
  | 117, _ => exact h.2 117 (by decide)
  | 118, _ => exact h.2 118 (by decide)
  | 119, _ => exact h.2 119 (by decide)
  | 120, _ => exact h.2 120 (by decide)
  | 121, _ => exact h.2 121 (by decide)
  | 122, _ => exact h.2 122 (by decide)
  | 123, _ => exact h.2 123 (by decide)
  | 124, _ => exact h.2 124 (by decide)
  | 125, _ => exact h.2 125 (by decide)
  | 126, _ => exact h.2 126 (by decide)
  | 127, _ => exact h.2 127 (by decide)
  | 128, _ => exact h.2 128 (by decide)
  | 129, _ => exact h.2 129 (by decide)
  | 130, _ => exact h.2 130 (by decide)
  | 131, _ => exact h.2 131 (by decide)
  | 132, _ => exact h.2 132 (by decide)
  | 133, _ => exact h.2 133 (by decide)
  | 134, _ => exact h.2 134 (by decide)
  | 135, _ => exact h.2 135 (by decide)
  | 136, _ => exact h.2 136 (by decide)
  | 137, _ => exact h.2 137 (by decide)
  | 138, _ => exact h.2 138 (by decide)
  | k + 139, h => exact absurd (show k + 139 < 139 from h) (by omega)
