/-- the shape of the world: (kind, class or length, references) a cell -/
def shL : List (Nat × Nat × List (Option Nat)) := [(0, 9, [some 1, some 2, some 3, some 4, some 5, some 6, some 7, some 8, some 9]), (0, 8, [none, some 22, some 26, some 35, some 36, some 37, some 58]), (0, 4, [none, some 79, none, some 80, none, some 81, none, some 82, none]), (0, 2, [some 1, some 2, none, some 83, some 84, none, some 85, some 86, some 87, some 88, none, some 89]), (0, 5, [some 1, some 3, some 90, none, some 91, some 92]), (0, 7, [some 1, some 3, some 93]), (0, 3, [some 94, some 95, none]), (0, 1, [some 96, none, none]), (0, 0, [none, some 101, none, some 102, none, none]), (7, 6, [some 10]), (0, 6, [none, none, none, some 16]), (0, 6, [none, none, none, some 17]), (0, 6, [none, none, none, some 18]), (0, 6, [none, none, none, some 19]), (0, 6, [none, none, none, some 20]), (0, 6, [none, none, none, some 21]), (2, 60, []), (2, 60, []), (2, 60, []), (2, 60, []), (2, 60, []), (2, 60, []), (6, 3, [some 23]), (1, 5, []), (1, 5, []), (1, 5, []), (6, 8, [some 27]), (1, 8, []), (1, 8, []), (1, 8, []), (1, 8, []), (1, 8, []), (1, 8, []), (1, 8, []), (1, 8, []), (1, 5, []), (1, 20, []), (6, 20, [some 38]), (1, 8, []), (1, 8, []), (1, 8, []), (1, 8, []), (1, 8, []), (1, 8, []), (1, 8, []), (1, 8, []), (1, 8, []), (1, 8, []), (1, 8, []), (1, 8, []), (1, 8, []), (1, 8, []), (1, 8, []), (1, 8, []), (1, 8, []), (1, 8, []), (1, 8, []), (1, 8, []), (6, 20, [some 59]), (1, 8, []), (1, 8, []), (1, 8, []), (1, 8, []), (1, 8, []), (1, 8, []), (1, 8, []), (1, 8, []), (1, 8, []), (1, 8, []), (1, 8, []), (1, 8, []), (1, 8, []), (1, 8, []), (1, 8, []), (1, 8, []), (1, 8, []), (1, 8, []), (1, 8, []), (1, 8, []), (1, 120, []), (1, 121, []), (1, 121, []), (1, 121, []), (1, 1024, []), (1, 1024, []), (1, 5, []), (1, 5, []), (1, 160, []), (1, 1024, []), (1, 1024, []), (1, 1024, []), (1, 32, []), (1, 3208, []), (1, 5, []), (1, 4, []), (1, 4, []), (6, 4, [some 97]), (1, 40, []), (1, 40, []), (1, 40, []), (1, 40, []), (1, 50, []), (1, 24, []), (0, 10, [none, none, some 104, some 105, some 106, some 107, some 108, some 109, some 110, none, none, some 111, some 112, some 113, some 114, some 115, none, none, none, none, none, some 116, some 117, some 118, some 119, some 120, some 121, some 122, none, some 123, some 124, some 125, none, none, none, none, none, some 126, none, none, none, some 127, some 128, none, some 129, some 130, some 131, some 132, none, none, some 133, none, some 134, some 135, some 136, some 137, some 138]), (1, 5, []), (1, 5, []), (1, 5, []), (1, 5, []), (1, 20, []), (1, 160, []), (1, 64, []), (1, 40, []), (1, 40, []), (1, 40, []), (1, 40, []), (3, 120, []), (3, 260, []), (1, 260, []), (1, 2, []), (4, 122, []), (4, 122, []), (1, 6, []), (1, 130, []), (1, 160, []), (1, 100, []), (1, 160, []), (1, 1024, []), (1, 1024, []), (1, 1024, []), (1, 32, []), (1, 5, []), (1, 4, []), (1, 4, []), (1, 50, []), (1, 24, []), (1, 6, []), (1, 6, []), (2, 360, []), (2, 60, [])]
abbrev nW : Nat := 139
theorem shL_len : shL.length = nW := by decide +kernel
theorem sh_0 : shL[0]? = some (0, 9, [some 1, some 2, some 3, some 4, some 5, some 6, some 7, some 8, some 9]) := rfl
theorem sh_1 : shL[1]? = some (0, 8, [none, some 22, some 26, some 35, some 36, some 37, some 58]) := rfl
theorem sh_2 : shL[2]? = some (0, 4, [none, some 79, none, some 80, none, some 81, none, some 82, none]) := rfl
theorem sh_3 : shL[3]? = some (0, 2, [some 1, some 2, none, some 83, some 84, none, some 85, some 86, some 87, some 88, none, some 89]) := rfl
theorem sh_4 : shL[4]? = some (0, 5, [some 1, some 3, some 90, none, some 91, some 92]) := rfl
theorem sh_5 : shL[5]? = some (0, 7, [some 1, some 3, some 93]) := rfl
theorem sh_6 : shL[6]? = some (0, 3, [some 94, some 95, none]) := rfl
theorem sh_7 : shL[7]? = some (0, 1, [some 96, none, none]) := rfl
theorem sh_8 : shL[8]? = some (0, 0, [none, some 101, none, some 102, none, none]) := rfl
theorem sh_9 : shL[9]? = some (7, 6, [some 10]) := rfl
theorem sh_10 : shL[10]? = some (0, 6, [none, none, none, some 16]) := rfl
theorem sh_11 : shL[11]? = some (0, 6, [none, none, none, some 17]) := rfl
theorem sh_12 : shL[12]? = some (0, 6, [none, none, none, some 18]) := rfl
theorem sh_13 : shL[13]? = some (0, 6, [none, none, none, some 19]) := rfl
theorem sh_14 : shL[14]? = some (0, 6, [none, none, none, some 20]) := rfl
theorem sh_15 : shL[15]? = some (0, 6, [none, none, none, some 21]) := rfl
theorem sh_16 : shL[16]? = some (2, 60, []) := rfl
theorem sh_17 : shL[17]? = some (2, 60, []) := rfl
theorem sh_18 : shL[18]? = some (2, 60, []) := rfl
theorem sh_19 : shL[19]? = some (2, 60, []) := rfl
theorem sh_20 : shL[20]? = some (2, 60, []) := rfl
theorem sh_21 : shL[21]? = some (2, 60, []) := rfl
theorem sh_22 : shL[22]? = some (6, 3, [some 23]) := rfl
theorem sh_23 : shL[23]? = some (1, 5, []) := rfl
theorem sh_24 : shL[24]? = some (1, 5, []) := rfl
theorem sh_25 : shL[25]? = some (1, 5, []) := rfl
theorem sh_26 : shL[26]? = some (6, 8, [some 27]) := rfl
theorem sh_27 : shL[27]? = some (1, 8, []) := rfl
theorem sh_28 : shL[28]? = some (1, 8, []) := rfl
theorem sh_29 : shL[29]? = some (1, 8, []) := rfl
theorem sh_30 : shL[30]? = some (1, 8, []) := rfl
theorem sh_31 : shL[31]? = some (1, 8, []) := rfl
theorem sh_32 : shL[32]? = some (1, 8, []) := rfl
theorem sh_33 : shL[33]? = some (1, 8, []) := rfl
theorem sh_34 : shL[34]? = some (1, 8, []) := rfl
theorem sh_35 : shL[35]? = some (1, 5, []) := rfl
theorem sh_36 : shL[36]? = some (1, 20, []) := rfl
theorem sh_37 : shL[37]? = some (6, 20, [some 38]) := rfl
theorem sh_38 : shL[38]? = some (1, 8, []) := rfl
theorem sh_39 : shL[39]? = some (1, 8, []) := rfl
theorem sh_40 : shL[40]? = some (1, 8, []) := rfl
theorem sh_41 : shL[41]? = some (1, 8, []) := rfl
theorem sh_42 : shL[42]? = some (1, 8, []) := rfl
theorem sh_43 : shL[43]? = some (1, 8, []) := rfl
theorem sh_44 : shL[44]? = some (1, 8, []) := rfl
theorem sh_45 : shL[45]? = some (1, 8, []) := rfl
theorem sh_46 : shL[46]? = some (1, 8, []) := rfl
theorem sh_47 : shL[47]? = some (1, 8, []) := rfl
theorem sh_48 : shL[48]? = some (1, 8, []) := rfl
theorem sh_49 : shL[49]? = some (1, 8, []) := rfl
theorem sh_50 : shL[50]? = some (1, 8, []) := rfl
theorem sh_51 : shL[51]? = some (1, 8, []) := rfl
theorem sh_52 : shL[52]? = some (1, 8, []) := rfl
theorem sh_53 : shL[53]? = some (1, 8, []) := rfl
theorem sh_54 : shL[54]? = some (1, 8, []) := rfl
theorem sh_55 : shL[55]? = some (1, 8, []) := rfl
theorem sh_56 : shL[56]? = some (1, 8, []) := rfl
theorem sh_57 : shL[57]? = some (1, 8, []) := rfl
theorem sh_58 : shL[58]? = some (6, 20, [some 59]) := rfl
theorem sh_59 : shL[59]? = some (1, 8, []) := rfl
theorem sh_60 : shL[60]? = some (1, 8, []) := rfl
theorem sh_61 : shL[61]? = some (1, 8, []) := rfl
theorem sh_62 : shL[62]? = some (1, 8, []) := rfl
theorem sh_63 : shL[63]? = some (1, 8, []) := rfl
theorem sh_64 : shL[64]? = some (1, 8, []) := rfl
theorem sh_65 : shL[65]? = some (1, 8, []) := rfl
theorem sh_66 : shL[66]? = some (1, 8, []) := rfl
theorem sh_67 : shL[67]? = some (1, 8, []) := rfl
theorem sh_68 : shL[68]? = some (1, 8, []) := rfl
theorem sh_69 : shL[69]? = some (1, 8, []) := rfl
theorem sh_70 : shL[70]? = some (1, 8, []) := rfl
theorem sh_71 : shL[71]? = some (1, 8, []) := rfl
theorem sh_72 : shL[72]? = some (1, 8, []) := rfl
theorem sh_73 : shL[73]? = some (1, 8, []) := rfl
theorem sh_74 : shL[74]? = some (1, 8, []) := rfl
theorem sh_75 : shL[75]? = some (1, 8, []) := rfl
theorem sh_76 : shL[76]? = some (1, 8, []) := rfl
theorem sh_77 : shL[77]? = some (1, 8, []) := rfl
theorem sh_78 : shL[78]? = some (1, 8, []) := rfl
theorem sh_79 : shL[79]? = some (1, 120, []) := rfl
theorem sh_80 : shL[80]? = some (1, 121, []) := rfl
theorem sh_81 : shL[81]? = some (1, 121, []) := rfl
theorem sh_82 : shL[82]? = some (1, 121, []) := rfl
theorem sh_83 : shL[83]? = some (1, 1024, []) := rfl
theorem sh_84 : shL[84]? = some (1, 1024, []) := rfl
theorem sh_85 : shL[85]? = some (1, 5, []) := rfl
theorem sh_86 : shL[86]? = some (1, 5, []) := rfl
theorem sh_87 : shL[87]? = some (1, 160, []) := rfl
theorem sh_88 : shL[88]? = some (1, 1024, []) := rfl
theorem sh_89 : shL[89]? = some (1, 1024, []) := rfl
theorem sh_90 : shL[90]? = some (1, 1024, []) := rfl
theorem sh_91 : shL[91]? = some (1, 32, []) := rfl
theorem sh_92 : shL[92]? = some (1, 3208, []) := rfl
theorem sh_93 : shL[93]? = some (1, 5, []) := rfl
theorem sh_94 : shL[94]? = some (1, 4, []) := rfl
theorem sh_95 : shL[95]? = some (1, 4, []) := rfl
theorem sh_96 : shL[96]? = some (6, 4, [some 97]) := rfl
theorem sh_97 : shL[97]? = some (1, 40, []) := rfl
theorem sh_98 : shL[98]? = some (1, 40, []) := rfl
theorem sh_99 : shL[99]? = some (1, 40, []) := rfl
theorem sh_100 : shL[100]? = some (1, 40, []) := rfl
theorem sh_101 : shL[101]? = some (1, 50, []) := rfl
theorem sh_102 : shL[102]? = some (1, 24, []) := rfl
theorem sh_103 : shL[103]? = some (0, 10, [none, none, some 104, some 105, some 106, some 107, some 108, some 109, some 110, none, none, some 111, some 112, some 113, some 114, some 115, none, none, none, none, none, some 116, some 117, some 118, some 119, some 120, some 121, some 122, none, some 123, some 124, some 125, none, none, none, none, none, some 126, none, none, none, some 127, some 128, none, some 129, some 130, some 131, some 132, none, none, some 133, none, some 134, some 135, some 136, some 137, some 138]) := rfl
theorem sh_104 : shL[104]? = some (1, 5, []) := rfl
theorem sh_105 : shL[105]? = some (1, 5, []) := rfl
theorem sh_106 : shL[106]? = some (1, 5, []) := rfl
theorem sh_107 : shL[107]? = some (1, 5, []) := rfl
theorem sh_108 : shL[108]? = some (1, 20, []) := rfl
theorem sh_109 : shL[109]? = some (1, 160, []) := rfl
theorem sh_110 : shL[110]? = some (1, 64, []) := rfl
theorem sh_111 : shL[111]? = some (1, 40, []) := rfl
theorem sh_112 : shL[112]? = some (1, 40, []) := rfl
theorem sh_113 : shL[113]? = some (1, 40, []) := rfl
theorem sh_114 : shL[114]? = some (1, 40, []) := rfl
theorem sh_115 : shL[115]? = some (3, 120, []) := rfl
theorem sh_116 : shL[116]? = some (3, 260, []) := rfl
theorem sh_117 : shL[117]? = some (1, 260, []) := rfl
theorem sh_118 : shL[118]? = some (1, 2, []) := rfl
theorem sh_119 : shL[119]? = some (4, 122, []) := rfl
theorem sh_120 : shL[120]? = some (4, 122, []) := rfl
theorem sh_121 : shL[121]? = some (1, 6, []) := rfl
theorem sh_122 : shL[122]? = some (1, 130, []) := rfl
theorem sh_123 : shL[123]? = some (1, 160, []) := rfl
theorem sh_124 : shL[124]? = some (1, 100, []) := rfl
theorem sh_125 : shL[125]? = some (1, 160, []) := rfl
theorem sh_126 : shL[126]? = some (1, 1024, []) := rfl
theorem sh_127 : shL[127]? = some (1, 1024, []) := rfl
theorem sh_128 : shL[128]? = some (1, 1024, []) := rfl
theorem sh_129 : shL[129]? = some (1, 32, []) := rfl
theorem sh_130 : shL[130]? = some (1, 5, []) := rfl
theorem sh_131 : shL[131]? = some (1, 4, []) := rfl
theorem sh_132 : shL[132]? = some (1, 4, []) := rfl
theorem sh_133 : shL[133]? = some (1, 50, []) := rfl
theorem sh_134 : shL[134]? = some (1, 24, []) := rfl
theorem sh_135 : shL[135]? = some (1, 6, []) := rfl
theorem sh_136 : shL[136]? = some (1, 6, []) := rfl
theorem sh_137 : shL[137]? = some (2, 360, []) := rfl
theorem sh_138 : shL[138]? = some (2, 60, []) := rfl
theorem shf_10 : ∀ k : Nat, k < 6 → shL[10 + k]? = some (0, 6, [none, none, none, some (16 + k)]) := by
  intro k hk
  match k, hk with
  | 0, _ => rfl
  | 1, _ => rfl
  | 2, _ => rfl
  | 3, _ => rfl
  | 4, _ => rfl
  | 5, _ => rfl
  | k + 6, h => exact absurd h (by omega)
theorem shf_16 : ∀ k : Nat, k < 6 → shL[16 + k]? = some (2, 60, []) := by
  intro k hk
  match k, hk with
  | 0, _ => rfl
  | 1, _ => rfl
  | 2, _ => rfl
  | 3, _ => rfl
  | 4, _ => rfl
  | 5, _ => rfl
  | k + 6, h => exact absurd h (by omega)
theorem shf_23 : ∀ k : Nat, k < 3 → shL[23 + k]? = some (1, 5, []) := by
  intro k hk
  match k, hk with
  | 0, _ => rfl
  | 1, _ => rfl
  | 2, _ => rfl
  | k + 3, h => exact absurd h (by omega)
theorem shf_27 : ∀ k : Nat, k < 8 → shL[27 + k]? = some (1, 8, []) := by
  intro k hk
  match k, hk with
  | 0, _ => rfl
  | 1, _ => rfl
  | 2, _ => rfl
  | 3, _ => rfl
  | 4, _ => rfl
  | 5, _ => rfl
  | 6, _ => rfl
  | 7, _ => rfl
  | k + 8, h => exact absurd h (by omega)
theorem shf_38 : ∀ k : Nat, k < 20 → shL[38 + k]? = some (1, 8, []) := by
  intro k hk
  match k, hk with
  | 0, _ => rfl
  | 1, _ => rfl
  | 2, _ => rfl
  | 3, _ => rfl
  | 4, _ => rfl
  | 5, _ => rfl
  | 6, _ => rfl
  | 7, _ => rfl
  | 8, _ => rfl
  | 9, _ => rfl
  | 10, _ => rfl
  | 11, _ => rfl
  | 12, _ => rfl
  | 13, _ => rfl
  | 14, _ => rfl
  | 15, _ => rfl
  | 16, _ => rfl
  | 17, _ => rfl
  | 18, _ => rfl
  | 19, _ => rfl
  | k + 20, h => exact absurd h (by omega)
theorem shf_59 : ∀ k : Nat, k < 20 → shL[59 + k]? = some (1, 8, []) := by
  intro k hk
  match k, hk with
  | 0, _ => rfl
  | 1, _ => rfl
  | 2, _ => rfl
  | 3, _ => rfl
  | 4, _ => rfl
  | 5, _ => rfl
  | 6, _ => rfl
  | 7, _ => rfl
  | 8, _ => rfl
  | 9, _ => rfl
  | 10, _ => rfl
  | 11, _ => rfl
  | 12, _ => rfl
  | 13, _ => rfl
  | 14, _ => rfl
  | 15, _ => rfl
  | 16, _ => rfl
  | 17, _ => rfl
  | 18, _ => rfl
  | 19, _ => rfl
  | k + 20, h => exact absurd h (by omega)
theorem shf_97 : ∀ k : Nat, k < 4 → shL[97 + k]? = some (1, 40, []) := by
  intro k hk
  match k, hk with
  | 0, _ => rfl
  | 1, _ => rfl
  | 2, _ => rfl
  | 3, _ => rfl
  | k + 4, h => exact absurd h (by omega)

/-- the words that every method here may use -/
def TWx : List Cond := lw_tbl.filter goodWord
theorem tw_of {w : Cond} (h : w ∈ lw_tbl) (hg : goodWord w = true) : w ∈ TWx := List.mem_filter.mpr ⟨h, hg⟩
theorem tw_t {w : Cond} (h : w ∈ tables_1) (hg : goodWord w = true) : w ∈ TWx := tw_of (List.mem_append_right _ h) hg
theorem tb_1 {w : Cond} (h : w ∈ tables_1_1) : w ∈ tables_1 := List.mem_append_left _ h
theorem tb_2 {w : Cond} (h : w ∈ tables_1_2) : w ∈ tables_1 := List.mem_append_right _ (List.mem_append_left _ h)
theorem tb_3 {w : Cond} (h : w ∈ tables_1_3) : w ∈ tables_1 := List.mem_append_right _ (List.mem_append_right _ (List.mem_append_left _ h))
theorem tb_4 {w : Cond} (h : w ∈ tables_1_4) : w ∈ tables_1 := List.mem_append_right _ (List.mem_append_right _ (List.mem_append_right _ (List.mem_append_left _ h)))
theorem tb_5 {w : Cond} (h : w ∈ tables_1_5) : w ∈ tables_1 := List.mem_append_right _ (List.mem_append_right _ (List.mem_append_right _ (List.mem_append_right _ (List.mem_append_left _ h))))
theorem tb_6 {w : Cond} (h : w ∈ tables_1_6) : w ∈ tables_1 := List.mem_append_right _ (List.mem_append_right _ (List.mem_append_right _ (List.mem_append_right _ (List.mem_append_right _ (List.mem_append_left _ h)))))
theorem tb_7 {w : Cond} (h : w ∈ tables_1_7) : w ∈ tables_1 := List.mem_append_right _ (List.mem_append_right _ (List.mem_append_right _ (List.mem_append_right _ (List.mem_append_right _ (List.mem_append_right _ h)))))
theorem tb_s {q : MethodName × Nat} (h : q ∈ lw_privs) : Cond.selects q.1.cls q.1 q.1 ∈ lw_tbl := List.mem_append_left _ (List.mem_map.mpr ⟨q, h, rfl⟩)
/-! THE WORLD: cells by number; what is in them is a pair of functions (ints, longs); their shape stays -/
abbrev Sx : Type := (Nat → Nat → Int32) × (Nat → Nat → Int64)
def siI (σ : Sx) (i j : Nat) : Int32 := σ.1 i j
def siL (σ : Sx) (i j : Nat) : Int64 := σ.2 i j
def upI (σ : Sx) (i j : Nat) (v : Int32) : Sx := (fun a b => if a = i ∧ b = j then v else σ.1 a b, σ.2)
def upL (σ : Sx) (i j : Nat) (v : Int64) : Sx := (σ.1, fun a b => if a = i ∧ b = j then v else σ.2 a b)
def fvx (al : Nat → Nat) (v : Int32) (r : Option Nat) : Value := match r with | none => .int v | some t => .ref (al t)
def fsx (al : Nat → Nat) (σ : Sx) (i : Nat) (refs : List (Option Nat)) : List Value := (List.range refs.length).map (fun j => fvx al (siI σ i j) (refs.getD j none))
/-- (kind, class or length, references): kind 0 an object, 1 ints, 2 longs, 3 bytes, 4 shorts, 6 rows of ints, 7 shelves -/
def enx (al : Nat → Nat) (cA : Nat → ClassId) (σ : Sx) (i : Nat) (q : Nat × Nat × List (Option Nat)) : va_E :=
  if q.1 = 0 then .inr (q.2.1, fsx al σ i q.2.2)
  else if q.1 = 2 then .inl (cA q.1, q.2.1, .inr (.inl (siL σ i)))
  else if q.1 = 6 ∨ q.1 = 7 then .inl (cA q.1, q.2.1, .inr (.inr (.inr (.inr (fun j => some (al ((q.2.2.getD 0 none).getD 0 + j)))))))
  else .inl (cA q.1, q.2.1, .inl (siI σ i))
def wlx (al : Nat → Nat) (cA : Nat → ClassId) (σ : Sx) : va_W := (List.range nW).map (fun i => (al i, enx al cA σ i (shL.getD i (0, 0, []))))
abbrev tyL (cA : Nat → ClassId) : List (ClassId × FieldType) := [(cA 1, .int), (cA 2, .long), (cA 3, .byte), (cA 4, .short), (cA 6, .array .int), (cA 7, .object "FootstepsAhead$Shelf")]
def alOK (al : Nat → Nat) (ba : Nat) : Prop := (∀ i j : Nat, i < nW → j < nW → al i = al j → i = j) ∧ ∀ i : Nat, i < nW → ba ≤ al i
abbrev Ax (ba : Nat) : Nat → Prop := fun q => ba ≤ q
theorem wlx_at {al : Nat → Nat} {cA : Nat → ClassId} {σ : Sx} {i : Nat} {q : Nat × Nat × List (Option Nat)} (h : shL[i]? = some q) : (wlx al cA σ)[i]? = some (al i, enx al cA σ i q) := by
  have hl : i < nW := by
    have := (List.getElem?_eq_some_iff.mp h).1
    rw [shL_len] at this
    exact this
  unfold wlx
  rw [List.getElem?_map, List.getElem?_range hl]
  simp [List.getD, h]
theorem wlx_inv {al : Nat → Nat} {cA : Nat → ClassId} {σ : Sx} {i : Nat} {z : Nat × va_E} (h : (wlx al cA σ)[i]? = some z) : i < nW ∧ z = (al i, enx al cA σ i (shL.getD i (0, 0, []))) := by
  unfold wlx at h
  rw [List.getElem?_map] at h
  by_cases hl : i < nW
  · rw [List.getElem?_range hl] at h
    exact ⟨hl, (Option.some.inj h).symm⟩
  · rw [List.getElem?_eq_none (by simpa using hl)] at h
    cases h
theorem wlx_D {al : Nat → Nat} {cA : Nat → ClassId} {σ : Sx} {ba : Nat} (h : alOK al ba) : va_D (Ax ba) (wlx al cA σ) := by
  refine ⟨fun i j p q hi hj hpq => ?_, fun k q hk => ?_⟩
  · obtain ⟨h1, rfl⟩ := wlx_inv hi
    obtain ⟨h2, rfl⟩ := wlx_inv hj
    exact h.1 i j h1 h2 hpq
  · obtain ⟨h1, rfl⟩ := wlx_inv hk
    exact h.2 k h1
/-- a world behind one change: the cell i alone is another -/
theorem wlx_set {al : Nat → Nat} {cA : Nat → ClassId} {σ σ2 : Sx} {i : Nat} {q : Nat × Nat × List (Option Nat)} {D : va_G} {e : va_E} {H : Heap} (hs : shL[i]? = some q) (he : e = enx al cA σ2 i q) (ho : ∀ k, k ≠ i → ∀ r, enx al cA σ2 k r = enx al cA σ k r)
    (h : va_P D vwCl ((wlx al cA σ).set i (al i, e)) H) : va_P D vwCl (wlx al cA σ2) H := by
  intro k z hz
  obtain ⟨hk, rfl⟩ := wlx_inv hz
  by_cases hki : k = i
  · subst hki
    refine h k _ ?_
    rw [List.getElem?_set_self (by have := (List.getElem?_eq_some_iff.mp (wlx_at (al := al) (cA := cA) (σ := σ) hs)).1; exact this)]
    rw [he]
    simp [List.getD, hs]
  · refine h k _ ?_
    rw [List.getElem?_set_ne (Ne.symm hki)]
    rw [ho k hki]
    have hl : k < shL.length := by rw [shL_len]; exact hk
    have h2 : shL[k]? = some (shL.getD k (0, 0, [])) := by simp [List.getD, hl]
    exact wlx_at h2
theorem enx_upI_ne {al : Nat → Nat} {cA : Nat → ClassId} {σ : Sx} {i j k : Nat} {v : Int32} (h : k ≠ i) (r : Nat × Nat × List (Option Nat)) : enx al cA (upI σ i j v) k r = enx al cA σ k r := by
  have e1 : siI (upI σ i j v) k = siI σ k := by funext b; simp [siI, upI, h]
  have e2 : ∀ refs, fsx al (upI σ i j v) k refs = fsx al σ k refs := fun refs => by unfold fsx; rw [e1]
  have e3 : siL (upI σ i j v) k = siL σ k := rfl
  unfold enx
  rw [e1, e2, e3]
theorem enx_upL_ne {al : Nat → Nat} {cA : Nat → ClassId} {σ : Sx} {i j k : Nat} {v : Int64} (h : k ≠ i) (r : Nat × Nat × List (Option Nat)) : enx al cA (upL σ i j v) k r = enx al cA σ k r := by
  have e1 : siI (upL σ i j v) k = siI σ k := rfl
  have e2 : ∀ refs, fsx al (upL σ i j v) k refs = fsx al σ k refs := fun refs => rfl
  have e3 : siL (upL σ i j v) k = siL σ k := by funext b; simp [siL, upL, h]
  unfold enx
  rw [e1, e2, e3]
theorem fsx_len {al : Nat → Nat} {σ : Sx} {i : Nat} {refs : List (Option Nat)} : (fsx al σ i refs).length = refs.length := by simp [fsx]
theorem fsx_at {al : Nat → Nat} {σ : Sx} {i j : Nat} {refs : List (Option Nat)} {r : Option Nat} (h : refs[j]? = some r) : (fsx al σ i refs)[j]? = some (fvx al (siI σ i j) r) := by
  have hl := (List.getElem?_eq_some_iff.mp h).1
  unfold fsx
  rw [List.getElem?_map, List.getElem?_range hl]
  simp [List.getD, h]
theorem fsx_set {al : Nat → Nat} {σ : Sx} {i j : Nat} {refs : List (Option Nat)} {v : Int32} (h : refs[j]? = some none) : (fsx al σ i refs).set j (.int v) = fsx al (upI σ i j v) i refs := by
  apply List.ext_getElem?
  intro k
  have hl := (List.getElem?_eq_some_iff.mp h).1
  by_cases hk : k = j
  · subst hk
    rw [List.getElem?_set_self (by rw [fsx_len]; exact hl), fsx_at h]
    simp [fvx, siI, upI]
  · rw [List.getElem?_set_ne (Ne.symm hk)]
    by_cases hk2 : k < refs.length
    · have h2 : refs[k]? = some (refs[k]) := List.getElem?_eq_getElem hk2
      rw [fsx_at h2, fsx_at h2]
      simp [siI, upI, hk]
    · rw [List.getElem?_eq_none (by rw [fsx_len]; omega), List.getElem?_eq_none (by rw [fsx_len]; omega)]
/-- static rows of ints that are read: class, field, what they hold -/
abbrev stL : List (String × String × List Int32) := [("FootstepsAhead$World", "LEAST", [0, 0, 0, 1]), ("FootstepsAhead$World", "MOST", [60, 200, 99, 30]), ("FootstepsAhead$Bodies", "ABOVE", [-1, 0, 0, 2, 1, 3, 0, 6])]
def stx (ba : Nat) (U : State) : Prop := (∀ (k : Nat) (q : String × String × List Int32), stL[k]? = some q → ∃ t : Nat, va_Z q.1 q.2.1 "[I" (.ref t) (Ax ba) U U.heap ∧ va_T .int t q.2.2.length (fun j => .int (q.2.2.getD j 0)) (Ax ba) U U.heap) ∧ va_Nw (.methodLinkNest "FootstepsAhead$World" 59 yX9_isPlace "FootstepsAhead") U
def WDx (D : va_G) (al : Nat → Nat) (cA : Nat → ClassId) (ba : Nat) (σ : Sx) (U : State) : Prop := va_P D vwCl (wlx al cA σ) U.heap ∧ va_K D vwCl (tyL cA) U ∧ alOK al ba ∧ ba ≤ U.heap.size ∧ stx ba U
theorem stx_moved {ba : Nat} {u U : State} (hW : u.WarmedH U.vm) (hk : ∀ a : Nat, a < u.heap.size → ¬ Ax ba a → U.heap[a]? = u.heap[a]?) (h : stx ba u) : stx ba U := by
  refine ⟨fun k q hq => ?_, va_Nw.warmM hW h.2⟩
  obtain ⟨t, h1, h2⟩ := h.1 k q hq
  exact ⟨t, (h1.moved hW.alike).kept hk, (h2.moved hW.alike).kept hk⟩
theorem WDx_blind {D : va_G} {al : Nat → Nat} {cA : Nat → ClassId} {ba : Nat} {σ : Sx} {av : List Value} : FrameBlind (va_Pc av (WDx D al cA ba σ)) := by
  intro a U g mk ⟨e, h1, h2, h3, h4, h5, h6⟩
  refine ⟨e, h1, va_K.moved (u := U) (U := U.calling g mk a) (Vm.Alike.refl U.vm) h2, h3, h4, fun k q hq => ?_, va_Nw.same rfl rfl h6⟩
  obtain ⟨t, g1, g2⟩ := h5 k q hq
  exact ⟨t, va_Z.moved (u := U) (U := U.calling g mk a) (Vm.Alike.refl U.vm) g1, va_T.moved (u := U) (U := U.calling g mk a) (Vm.Alike.refl U.vm) g2⟩
theorem TWx_self : GoodIn TWx TWx := goodIn_sub (fun _ h => h) (List.all_eq_true.mpr fun _ h => (List.mem_filter.mp h).2)
/-- what a method's body stands on -/
def GXx (p : Program) (l : Launch) (s : State) (m : MethodId) (args : Array Value) (meth : Method) (c : Code) (D : va_G) (al : Nat → Nat) (cA : Nat → ClassId) (ba : Nat) (cc : ByteArray) (own : String) (nL : Nat) : Prop :=
  p.tables.exec = Jvm.exec ∧ c.code = cc ∧ c.maxLocals = nL ∧ s.vm.findClass own = some m.cls ∧ (∀ w ∈ TWx, w.before args s = true) ∧ va_K D vwCl (tyL cA) s ∧ alOK al ba ∧ ba ≤ s.heap.size ∧ stx ba s ∧ meth.locks = false
def Qx {α : Type} (rv : α → Option Value) (D : va_G) (al : Nat → Nat) (cA : Nat → ClassId) (ba : Nat) (out : α × Sx) : Array Value → State → Outcome → State → Prop := fun _ st o t => o = .returned (rv out.1) ∧ WDx D al cA ba out.2 t ∧ va_F (Ax ba) st t
def MQx {α : Type} (rv : α → Option Value) (D : va_G) (al : Nat → Nat) (cA : Nat → ClassId) (ba : Nat) (below : List Frame) (args : Array Value) (s : State) (out : α × Sx) : State → Prop := MQ below (Qx rv D al cA ba out) args s 0 0 (Ax ba)
/-- from here the method comes to the end that K tells, if K tells one -/
def XTx (p : Program) (l : Launch) (e : Env) (R : Room) (s : State) (m : MethodId) (args : Array Value) (below : List Frame) (meth : Method) (c : Code) (D : va_G) (al : Nat → Nat) (cA : Nat → ClassId) (ba nL : Nat) {α : Type} (Qf : α × Sx → State → Prop) (kc ks : Nat) (pc : Nat) (lv : List (Nat × Value)) (st : List Value) (σ : Sx) (K : Option (α × Sx)) : Prop :=
  ∀ out, K = some out → ∀ (H : Heap) (locs : List Loc) (ls : Array Slot), va_P D vwCl (wlx al cA σ) H → va_S (Ax ba) s.heap H locs → lv_has ls nL lv → W p l e R s m args below meth c H locs kc ks (Qf out) (F0 m pc ls st)
/-- a method's contract: wherever F tells an end, it comes to it -/
def MCx (D : va_G) (al : Nat → Nat) (cA : Nat → ClassId) (ba : Nat) (y : MethodName) (cc : ByteArray) (nL : Nat) (ret : Option FieldType) (fr lo : Nat) {α : Type} (rv : α → Option Value) (av : List Value) (F : Sx → Option (α × Sx)) : Prop :=
  ∀ (l : Launch) (σ : Sx) (out : α × Sx), F σ = some out → Met l y (.code y cc nL ret :: TWx) { frames := fr, cells := 0, slots := 0, locals := lo } (va_Pc av (WDx D al cA ba σ)) (Qx rv D al cA ba out) 0 0 (Ax ba)
abbrev rvI : Int32 → Option Value := fun v => some (.int v)
abbrev rvL : Int64 → Option Value := fun v => some (.long v)
abbrev rvU : Unit → Option Value := fun _ => none
theorem Met_ofF {y : MethodName} {ws ws' : List Cond} {rm : Room} {Pc : Array Value → State → Prop} {Qc : Array Value → State → Outcome → State → Prop} {l : Launch} {mc ms : Nat} {free : Addr → Prop} {cc : ByteArray} {maxL : Nat} {ret : Option FieldType} (hy : plainFor y = true) (hw : ws = Cond.code y cc maxL ret :: ws')
    (body : ∀ p e s m args below meth c s₁, BodyLoose p l y (headSpec ws rm) cc maxL ret e s m args below meth c s₁ → c.maxLocals = maxL → Pc args s → W p l e (headSpec ws rm).room s m args below meth c s.heap [] 0 0 (MQ below Qc args s mc ms free) (entryFrame m args maxL)) : Met l y ws rm Pc Qc mc ms free := by
  refine MetFree.of_bodySF (code := cc) (maxLocals := maxL) (ret := ret) hy (fun args s m h hn => ?_) (fun p e s m args below meth c s₁ B hml hP _ => ?_)
  · obtain ⟨meth, c, h1, h2, h3, h4, h5, h6, -⟩ := Cond.code_spec hn (atoms_spec (ws := ws) h _ (by rw [hw]; exact List.mem_cons_self))
    exact ⟨meth, c, h1, h2, h3, h4, h5, h6⟩
  · have hh0 : s₁.heap = s.heap := by rw [B.state]; rfl
    obtain ⟨t, a1, o, b1, b2, b3⟩ := body p e s m args below meth c s₁ B hml hP s₁ hh0 (Stand.of_body B)
    exact ⟨t, o, a1, b1, b2, ⟨b3.1, b3.2⟩⟩
theorem MCx_of {D : va_G} {al : Nat → Nat} {cA : Nat → ClassId} {ba : Nat} {y : MethodName} {cc : ByteArray} {nL : Nat} {ret : Option FieldType} {fr lo : Nat} {α : Type} {rv : α → Option Value} {av : List Value} {F : Sx → Option (α × Sx)} (hy : plainFor y = true) (hn : (lg_sl av).length ≤ nL)
    (body : ∀ (p : Program) (l : Launch) (e : Env) (s : State) (m : MethodId) (args : Array Value) (below : List Frame) (meth : Method) (c : Code) (σ : Sx), GXx p l s m args meth c D al cA ba cc y.cls nL → meth.sig.returnType = ret → XTx p l e { frames := fr, cells := 0, slots := 0, locals := lo } s m args below meth c D al cA ba nL (MQx rv D al cA ba below args s) 0 0 0 (lv_args 0 av) [] σ (F σ)) : MCx D al cA ba y cc nL ret fr lo rv av F := by
  intro l σ out ho
  refine Met_ofF (cc := cc) (maxL := nL) (ret := ret) hy rfl ?_
  intro p e s m args below meth c s₁ B hml hv
  obtain ⟨rfl, hP, hK, hal, hba, hst⟩ := hv
  have hts := atoms_spec (ws := .code y cc nL ret :: TWx) B.pre
  have hown : s.vm.findClass y.cls = some m.cls := findClass_of_methodNamed B.named
  have hl := lv_entry av hn
  rw [lg_entry_eq]
  exact body p l e s m _ below meth c σ ⟨B.exec, B.bytes, hml, hown, fun w h => hts w (List.mem_cons_of_mem _ h), hK, hal, hba, hst, B.notSynchronized⟩ B.returns out ho s.heap [] _ hP va_S.rf hl
