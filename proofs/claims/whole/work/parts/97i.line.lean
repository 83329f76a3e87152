/-! THE TWO READERS OF A LAW: lines -/
/-- a line: the steps of its test (none: no test) and of its value -/
abbrev Ln : Type := List Tk × List Tk
def cLn (l : Ln) : List Int32 := (if l.1 = [] then [] else l.1.map tC ++ [nI 10063]) ++ (l.2.map tC ++ [nI 10059])
def okL (l : Ln) : Prop := (l.1 = [] ∨ ∃ v, Ex l.1 v) ∧ ∃ v, Ex l.2 v
def spL (Ls : List Ln) : List Tk := Ls.flatMap (fun l => l.1 ++ l.2)
def cdL (Ls : List Ln) : List Int32 := Ls.flatMap cLn
theorem spL_snoc (Ls : List Ln) (l : Ln) : spL (Ls ++ [l]) = spL Ls ++ (l.1 ++ l.2) := by
  unfold spL
  rw [List.flatMap_append]
  simp
theorem cdL_snoc (Ls : List Ln) (l : Ln) : cdL (Ls ++ [l]) = cdL Ls ++ cLn l := by
  unfold cdL
  rw [List.flatMap_append]
  simp
/-- the marks of the lines, in the M reader's arrays from the place o -/
def mkL (o : Nat) (Ls : List Ln) (σ : Sx) : Prop := ∀ i, i < Ls.length → siI σ 119 (o + i) = nI ((spL (Ls.take i)).length + (Ls.getD i ([], [])).1.length) ∧ siI σ 120 (o + i) = nI ((spL (Ls.take i)).length + ((Ls.getD i ([], [])).1.length + (Ls.getD i ([], [])).2.length))
set_option maxRecDepth 100000 in
theorem t16 : ∀ b, b < 256 → (nI b).toInt16.toInt32 = nI b := by decide
theorem nar_s (x : Int32) : vp_nar .short x.toInt16.toInt32 = x.toInt16.toInt32 := by
  show (x.toInt16.toInt32).toInt16.toInt32 = _
  rw [Int16.toInt16_toInt32]
theorem Ex.ne {E : List Tk} {v : (Nat → Int32) → Int32} (h : Ex E v) : E ≠ [] := h (fun E _ => E ≠ []) (fun _ _ => by simp) (fun _ _ => by simp) (fun _ _ _ => by simp) (fun _ _ _ => by simp) (fun _ _ _ _ _ _ _ _ => by simp)
