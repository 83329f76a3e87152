theorem vr_outer2 (c : ClassId) (N h0 : Nat) : ∀ i : Nat, Jvm.Free.Multi.outerC c N h0 i = arrV c N (fun j => va_rf (if j < i then some (h0 + 1 + j) else none))
  | 0 => by
    show ({ cls := c, slots := Array.replicate N .null, vm := .none } : Cell) = _
    rw [arrV_new]
    refine congrArg (arrV c N) (funext fun j => ?_)
    simp [va_rf]
  | i + 1 => by
    show (Jvm.Free.Multi.outerC c N h0 i).setSlot i (.ref (h0 + 1 + i)) = _
    rw [vr_outer2 c N h0 i, arrV_store]
    congr 1
    funext j
    by_cases e : j = i
    · subst e
      simp [updV, va_rf]
    · by_cases h : j < i
      · simp [updV, e, h, Nat.lt_succ_of_lt h]
      · simp [updV, e, h, show ¬ j < i + 1 by omega]
def ewl (ba n : Nat) (hp : Nat → va_E) : va_W := (List.range n).map (fun k => (ba + k, hp k))
def upE (hp : Nat → va_E) (k : Nat) (e : va_E) : Nat → va_E := fun j => if j = k then e else hp j
def upR (hp : Nat → va_E) (a N : Nat) (e : va_E) : Nat → va_E := fun j => if a ≤ j ∧ j < a + N then e else hp j
theorem ewl_at {ba n k : Nat} {hp : Nat → va_E} (h : k < n) : (ewl ba n hp)[k]? = some (ba + k, hp k) := by
  unfold ewl
  rw [List.getElem?_map, List.getElem?_range h]
  rfl
theorem ewl_inv {ba n k : Nat} {hp : Nat → va_E} {z : Nat × va_E} (h : (ewl ba n hp)[k]? = some z) : k < n ∧ z = (ba + k, hp k) := by
  by_cases hl : k < n
  · rw [ewl_at hl] at h
    exact ⟨hl, (Option.some.inj h).symm⟩
  · unfold ewl at h
    rw [List.getElem?_map, List.getElem?_eq_none (by simpa using hl)] at h
    cases h
def EWx (D : va_G) (ba n : Nat) (hp : Nat → va_E) (H : Heap) : Prop := H.size = ba + n ∧ ∀ k, k < n → va_at D vwCl (ba + k, hp k) H
theorem EWx.P {D : va_G} {ba n : Nat} {hp : Nat → va_E} {H : Heap} (h : EWx D ba n hp H) : va_P D vwCl (ewl ba n hp) H := fun k z hz => by
  obtain ⟨hk, rfl⟩ := ewl_inv hz
  exact h.2 k hk
theorem EWx.put {D : va_G} {ba n k : Nat} {hp : Nat → va_E} {e : va_E} {H H1 : Heap} (h : EWx D ba n hp H) (z : H1.size = H.size) (oq : ∀ q, q ≠ ba + k → H1[q]? = H[q]?) (he : va_at D vwCl (ba + k, e) H1) : EWx D ba n (upE hp k e) H1 := by
  refine ⟨z.trans h.1, fun j hj => ?_⟩
  unfold upE
  by_cases hjk : j = k
  · subst hjk
    rw [if_pos rfl]
    exact he
  · rw [if_neg hjk]
    exact (h.2 j hj).kept (oq _ (by show ba + j ≠ ba + k; omega))
theorem EWx.push {D : va_G} {ba n : Nat} {hp : Nat → va_E} {e : va_E} {H H1 : Heap} (h : EWx D ba n hp H) (z : H1.size = H.size + 1) (oq : ∀ q, q < H.size → H1[q]? = H[q]?) (he : va_at D vwCl (ba + n, e) H1) : EWx D ba (n + 1) (upE hp n e) H1 := by
  refine ⟨by rw [z, h.1]; omega, fun j hj => ?_⟩
  unfold upE
  by_cases hjk : j = n
  · subst hjk
    rw [if_pos rfl]
    exact he
  · rw [if_neg hjk]
    exact (h.2 j (by omega)).kept (oq _ (by show ba + j < _; rw [h.1]; omega))
def aoI (U : State) : Prop := (Cond.arrayOver (.array .int)).before #[] U = true
def nestU (U : State) : Prop := va_Nw (.methodLinkNest "FootstepsAhead" 57 yX1_init "FootstepsAhead") U ∧ va_Nw (.methodLinkNest "FootstepsAhead" 64 yX0_init "FootstepsAhead") U ∧ va_Nw (.methodLinkNest "FootstepsAhead" 71 yX6_init "FootstepsAhead") U
theorem aoI.moved {u U : State} (hvm : u.vm.Alike U.vm) (h : aoI u) : aoI U := by
  obtain ⟨comp, c, k, h1, h2, h3, h4, h5⟩ := arrayOverA_spec h
  obtain ⟨k', hk', he⟩ := hvm.2.2 _ _ h3
  have hi : (U.vm.classes.findIdx? fun (x : Class) => match x.kind with | .array component _ => component == comp | _ => false) = some c := by
    refine (va_idx_bare _ _).symm.trans ?_
    first | rw [hvm.bare_eq] | rw [← hvm.bare_eq]
    exact (va_idx_bare _ _).trans h2
  have hkind : k'.kind = .array comp (.array .int) := by rw [he]; exact h4
  have f1 : U.vm.findClass (FieldType.array .int).toString = some comp := by rw [hvm.findClass]; exact h1
  have f2 : U.vm.findClass ("[" ++ (FieldType.array .int).toString) = some c := by rw [hvm.findClass]; exact h5
  unfold aoI Cond.before Cond.holds
  simp only [Cond.value]
  rw [f1, Option.bind_some]
  refine (congrArg (fun o : Option Nat => (o.bind (fun c => (U.vm.classes[c]?).map fun (k : Class) => match k.kind with | .array _ ty => decide (ty = FieldType.array .int) && decide (U.vm.findClass ("[" ++ (FieldType.array .int).toString) = some c) | _ => false) == some true)) hi).trans ?_
  simp [hk', hkind, f2]
def CUx (D : va_G) (cA : Nat → ClassId) (U : State) : Prop := va_K D vwCl (tyL cA) U ∧ aoI U ∧ va_AO "FootstepsAhead$Shelf" U ∧ nestU U
theorem CUx.moved {D : va_G} {cA : Nat → ClassId} {u U : State} (hW : u.WarmedH U.vm) (h : CUx D cA u) : CUx D cA U := ⟨va_K.moved hW.alike h.1, h.2.1.moved hW.alike, h.2.2.1.moved hW.alike, va_Nw.warmM hW h.2.2.2.1, va_Nw.warmM hW h.2.2.2.2.1, va_Nw.warmM hW h.2.2.2.2.2⟩
def EUx (D : va_G) (cA : Nat → ClassId) (ba n : Nat) (hp : Nat → va_E) (U : State) : Prop := EWx D ba n hp U.heap ∧ CUx D cA U
theorem EUx_blind {D : va_G} {cA : Nat → ClassId} {ba n : Nat} {hp : Nat → va_E} {av : List Value} : FrameBlind (va_Pc av (EUx D cA ba n hp)) := by
  intro a U g mk ⟨e, h1, h2, h3, h4, h5, h6, h7⟩
  exact ⟨e, h1, va_K.moved (u := U) (U := U.calling g mk a) (Vm.Alike.refl U.vm) h2, h3.moved (u := U) (U := U.calling g mk a) (Vm.Alike.refl U.vm), h4.moved (u := U) (U := U.calling g mk a) (Vm.Alike.refl U.vm), va_Nw.same rfl rfl h5, va_Nw.same rfl rfl h6, va_Nw.same rfl rfl h7⟩
def GCx (p : Program) (l : Launch) (s : State) (m : MethodId) (args : Array Value) (meth : Method) (c : Code) (D : va_G) (cA : Nat → ClassId) (ba : Nat) (cc : ByteArray) (own : String) (nL : Nat) : Prop :=
  p.tables.exec = Jvm.exec ∧ c.code = cc ∧ c.maxLocals = nL ∧ s.vm.findClass own = some m.cls ∧ (∀ w ∈ TWx, w.before args s = true) ∧ CUx D cA s ∧ ba ≤ s.heap.size ∧ meth.locks = false
def XCx (p : Program) (l : Launch) (e : Env) (R : Room) (s : State) (m : MethodId) (args : Array Value) (below : List Frame) (meth : Method) (c : Code) (D : va_G) (ba nL : Nat) (Qf : State → Prop) (kc ks pc : Nat) (lv : List (Nat × Value)) (st : List Value) (n : Nat) (hp : Nat → va_E) : Prop :=
  ∀ (H : Heap) (locs : List Loc) (ls : Array Slot), EWx D ba n hp H → va_S (Ax ba) s.heap H locs → lv_has ls nL lv → W p l e R s m args below meth c H locs kc ks Qf (F0 m pc ls st)
def QCx (D : va_G) (cA : Nat → ClassId) (ba n : Nat) (hp : Nat → va_E) : Array Value → State → Outcome → State → Prop := fun _ st o t => o = .returned none ∧ EUx D cA ba n hp t ∧ va_F (Ax ba) st t
def CCx (D : va_G) (cA : Nat → ClassId) (ba : Nat) (y : MethodName) (cc : ByteArray) (nL fr lo mc ms : Nat) (av : List Value) (n : Nat) (hp : Nat → va_E) (n2 : Nat) (hp2 : Nat → va_E) : Prop :=
  ∀ l : Launch, Met l y (.code y cc nL none :: TWx) { frames := fr, cells := mc, slots := ms, locals := lo } (va_Pc av (EUx D cA ba n hp)) (QCx D cA ba n2 hp2) mc ms (Ax ba)
theorem CCx_of {D : va_G} {cA : Nat → ClassId} {ba : Nat} {y : MethodName} {cc : ByteArray} {nL fr lo mc ms n n2 : Nat} {av : List Value} {hp hp2 : Nat → va_E} (hy : plainFor y = true) (hn : (lg_sl av).length ≤ nL)
    (body : ∀ (p : Program) (l : Launch) (e : Env) (s : State) (m : MethodId) (args : Array Value) (below : List Frame) (meth : Method) (c : Code), GCx p l s m args meth c D cA ba cc y.cls nL → meth.sig.returnType = none → meth.name = y.name → XCx p l e { frames := fr, cells := mc, slots := ms, locals := lo } s m args below meth c D ba nL (MQ below (QCx D cA ba n2 hp2) args s mc ms (Ax ba)) 0 0 0 (lv_args 0 av) [] n hp) : CCx D cA ba y cc nL fr lo mc ms av n hp n2 hp2 := by
  intro l
  refine Met_ofF (cc := cc) (maxL := nL) (ret := none) hy rfl ?_
  intro p e s m args below meth c s₁ B hml hv
  obtain ⟨rfl, hE, hC⟩ := hv
  have hts := atoms_spec (ws := .code y cc nL none :: TWx) B.pre
  have hown : s.vm.findClass y.cls = some m.cls := findClass_of_methodNamed B.named
  have hl := lv_entry av hn
  rw [lg_entry_eq]
  exact body p l e s m _ below meth c ⟨B.exec, B.bytes, hml, hown, fun w h => hts w (List.mem_cons_of_mem _ h), hC, by rw [hE.1]; omega, B.notSynchronized⟩ B.returns (name_of_methodNamed B.named B.method).1 s.heap [] _ hE va_S.rf hl
section XC
variable {p : Program} {l : Launch} {e : Env} {R : Room} {s : State} {m : MethodId} {args : Array Value} {below : List Frame} {meth : Method} {c : Code} {D : va_G} {cA : Nat → ClassId} {ba nL : Nat} {cc : ByteArray} {own : String} {Qf : State → Prop} {kc ks pc tgt n : Nat} {lv lv' : List (Nat × Value)} {st : List Value} {hp : Nat → va_E}
theorem c_iconst (g : GCx p l s m args meth c D cA ba cc own nL) {q : Int} {v : Int32} (hv : Int32.ofInt q = v) (hd : decode cc pc = .ok (.iconst q, 1)) (kk : XCx p l e R s m args below meth c D ba nL Qf (kc) (ks) (pc + 1) (lv) (.int v :: st) (n) (hp)) : XCx p l e R s m args below meth c D ba nL Qf (kc) (ks) (pc) (lv) (st) (n) (hp) := fun H locs ls hP hS hl => lv_iconst g.1 g.2.1 hd hv (kk H locs ls hP hS hl)
theorem c_bipush (g : GCx p l s m args meth c D cA ba cc own nL) {q : Int} {v : Int32} (hv : (Int8.ofInt q).toInt32 = v) (hd : decode cc pc = .ok (.bipush q, 2)) (kk : XCx p l e R s m args below meth c D ba nL Qf (kc) (ks) (pc + 2) (lv) (.int v :: st) (n) (hp)) : XCx p l e R s m args below meth c D ba nL Qf (kc) (ks) (pc) (lv) (st) (n) (hp) := fun H locs ls hP hS hl => lv_bipush g.1 g.2.1 hd hv (kk H locs ls hP hS hl)
theorem c_sipush (g : GCx p l s m args meth c D cA ba cc own nL) {q : Int} {v : Int32} (hv : (Int16.ofInt q).toInt32 = v) (hd : decode cc pc = .ok (.sipush q, 3)) (kk : XCx p l e R s m args below meth c D ba nL Qf (kc) (ks) (pc + 3) (lv) (.int v :: st) (n) (hp)) : XCx p l e R s m args below meth c D ba nL Qf (kc) (ks) (pc) (lv) (st) (n) (hp) := fun H locs ls hP hS hl => lv_sipush g.1 g.2.1 hd hv (kk H locs ls hP hS hl)
theorem c_iload (g : GCx p l s m args meth c D cA ba cc own nL) {i : Nat} {x : Int32} (k : Nat) (hk : lv[k]? = some (i, .int x)) (hd : decode cc pc = .ok (.iload i, 2)) (kk : XCx p l e R s m args below meth c D ba nL Qf (kc) (ks) (pc + 2) (lv) (.int x :: st) (n) (hp)) : XCx p l e R s m args below meth c D ba nL Qf (kc) (ks) (pc) (lv) (st) (n) (hp) := fun H locs ls hP hS hl => lv_iload g.1 g.2.1 hd (lv_at hl k hk) (kk H locs ls hP hS hl)
theorem c_iload_n (g : GCx p l s m args meth c D cA ba cc own nL) {f : Fin 4} {i : Nat} {x : Int32} (hi : (f : Nat) = i) (k : Nat) (hk : lv[k]? = some (i, .int x)) (hd : decode cc pc = .ok (.iload_n f, 1)) (kk : XCx p l e R s m args below meth c D ba nL Qf (kc) (ks) (pc + 1) (lv) (.int x :: st) (n) (hp)) : XCx p l e R s m args below meth c D ba nL Qf (kc) (ks) (pc) (lv) (st) (n) (hp) := fun H locs ls hP hS hl => lv_iload_n g.1 g.2.1 hd hi (lv_at hl k hk) (kk H locs ls hP hS hl)
theorem c_aload (g : GCx p l s m args meth c D cA ba cc own nL) {i : Nat} {x : Nat} (k : Nat) (hk : lv[k]? = some (i, .ref x)) (hd : decode cc pc = .ok (.aload i, 2)) (kk : XCx p l e R s m args below meth c D ba nL Qf (kc) (ks) (pc + 2) (lv) (.ref x :: st) (n) (hp)) : XCx p l e R s m args below meth c D ba nL Qf (kc) (ks) (pc) (lv) (st) (n) (hp) := fun H locs ls hP hS hl => lv_aload g.1 g.2.1 hd (lv_at hl k hk) (kk H locs ls hP hS hl)
theorem c_aload_n (g : GCx p l s m args meth c D cA ba cc own nL) {f : Fin 4} {i : Nat} {x : Nat} (hi : (f : Nat) = i) (k : Nat) (hk : lv[k]? = some (i, .ref x)) (hd : decode cc pc = .ok (.aload_n f, 1)) (kk : XCx p l e R s m args below meth c D ba nL Qf (kc) (ks) (pc + 1) (lv) (.ref x :: st) (n) (hp)) : XCx p l e R s m args below meth c D ba nL Qf (kc) (ks) (pc) (lv) (st) (n) (hp) := fun H locs ls hP hS hl => lv_aload_n g.1 g.2.1 hd hi (lv_at hl k hk) (kk H locs ls hP hS hl)
theorem c_istore (g : GCx p l s m args meth c D cA ba cc own nL) {i : Nat} {x : Int32} (hn : i < nL) (hf : (i, Value.int x) :: lv.filter (fun q => !(q.1 == i) && !(q.1 + 1 == i && q.2.category == 2)) = lv') (hd : decode cc pc = .ok (.istore i, 2)) (kk : XCx p l e R s m args below meth c D ba nL Qf (kc) (ks) (pc + 2) (lv') (st) (n) (hp)) : XCx p l e R s m args below meth c D ba nL Qf (kc) (ks) (pc) (lv) (.int x :: st) (n) (hp) := fun H locs ls hP hS hl => lv_istore g.1 g.2.1 hd hl hn hf (fun ls2 hl2 => kk H locs ls2 hP hS hl2)
theorem c_istore_n (g : GCx p l s m args meth c D cA ba cc own nL) {f : Fin 4} {i : Nat} {x : Int32} (hi : (f : Nat) = i) (hn : i < nL) (hf : (i, Value.int x) :: lv.filter (fun q => !(q.1 == i) && !(q.1 + 1 == i && q.2.category == 2)) = lv') (hd : decode cc pc = .ok (.istore_n f, 1)) (kk : XCx p l e R s m args below meth c D ba nL Qf (kc) (ks) (pc + 1) (lv') (st) (n) (hp)) : XCx p l e R s m args below meth c D ba nL Qf (kc) (ks) (pc) (lv) (.int x :: st) (n) (hp) := fun H locs ls hP hS hl => lv_istore_n g.1 g.2.1 hd hi hl hn hf (fun ls2 hl2 => kk H locs ls2 hP hS hl2)
theorem c_astore (g : GCx p l s m args meth c D cA ba cc own nL) {i : Nat} {x : Nat} (hn : i < nL) (hf : (i, Value.ref x) :: lv.filter (fun q => !(q.1 == i) && !(q.1 + 1 == i && q.2.category == 2)) = lv') (hd : decode cc pc = .ok (.astore i, 2)) (kk : XCx p l e R s m args below meth c D ba nL Qf (kc) (ks) (pc + 2) (lv') (st) (n) (hp)) : XCx p l e R s m args below meth c D ba nL Qf (kc) (ks) (pc) (lv) (.ref x :: st) (n) (hp) := fun H locs ls hP hS hl => lv_astore g.1 g.2.1 hd hl hn hf (fun ls2 hl2 => kk H locs ls2 hP hS hl2)
theorem c_astore_n (g : GCx p l s m args meth c D cA ba cc own nL) {f : Fin 4} {i : Nat} {x : Nat} (hi : (f : Nat) = i) (hn : i < nL) (hf : (i, Value.ref x) :: lv.filter (fun q => !(q.1 == i) && !(q.1 + 1 == i && q.2.category == 2)) = lv') (hd : decode cc pc = .ok (.astore_n f, 1)) (kk : XCx p l e R s m args below meth c D ba nL Qf (kc) (ks) (pc + 1) (lv') (st) (n) (hp)) : XCx p l e R s m args below meth c D ba nL Qf (kc) (ks) (pc) (lv) (.ref x :: st) (n) (hp) := fun H locs ls hP hS hl => lv_astore_n g.1 g.2.1 hd hi hl hn hf (fun ls2 hl2 => kk H locs ls2 hP hS hl2)
theorem c_iinc (g : GCx p l s m args meth c D cA ba cc own nL) {i : Nat} {q : Int} {x v : Int32} (k : Nat) (hk : lv[k]? = some (i, .int x)) (hv : x + Int32.ofInt q = v) (hn : i < nL) (hf : (i, Value.int v) :: lv.filter (fun q => !(q.1 == i) && !(q.1 + 1 == i && q.2.category == 2)) = lv') (hd : decode cc pc = .ok (.iinc i q, 3)) (kk : XCx p l e R s m args below meth c D ba nL Qf (kc) (ks) (pc + 3) (lv') (st) (n) (hp)) : XCx p l e R s m args below meth c D ba nL Qf (kc) (ks) (pc) (lv) (st) (n) (hp) := fun H locs ls hP hS hl => lv_iinc g.1 g.2.1 hd hl hk hv hn hf (fun ls2 hl2 => kk H locs ls2 hP hS hl2)
theorem c_dup (g : GCx p l s m args meth c D cA ba cc own nL) {va : Value} (hva : va.category = 1) (hd : decode cc pc = .ok (.dup, 1)) (kk : XCx p l e R s m args below meth c D ba nL Qf (kc) (ks) (pc + 1) (lv) (va :: va :: st) (n) (hp)) : XCx p l e R s m args below meth c D ba nL Qf (kc) (ks) (pc) (lv) (va :: st) (n) (hp) := fun H locs ls hP hS hl => lv_dup g.1 g.2.1 hd hva (kk H locs ls hP hS hl)
theorem c_goto (g : GCx p l s m args meth c D cA ba cc own nL) {off : Int} (ht : (pc : Int) + off = (tgt : Int)) (hd : decode cc pc = .ok (.goto off, 3)) (kk : XCx p l e R s m args below meth c D ba nL Qf (kc) (ks) (tgt) (lv) (st) (n) (hp)) : XCx p l e R s m args below meth c D ba nL Qf (kc) (ks) (pc) (lv) (st) (n) (hp) := fun H locs ls hP hS hl => lv_goto g.1 g.2.1 hd ht (kk H locs ls hP hS hl)
theorem c_ge_t (g : GCx p l s m args meth c D cA ba cc own nL) {x y : Int32} {off : Int} (h : y ≤ x) (ht : (pc : Int) + off = (tgt : Int)) (hd : decode cc pc = .ok (.if_icmp .ge off, 3)) (kk : XCx p l e R s m args below meth c D ba nL Qf (kc) (ks) (tgt) (lv) (st) (n) (hp)) : XCx p l e R s m args below meth c D ba nL Qf (kc) (ks) (pc) (lv) (.int y :: .int x :: st) (n) (hp) := fun H locs ls hP hS hl => lv_icmp_ge g.1 g.2.1 hd ht (fun _ => kk H locs ls hP hS hl) (fun q => absurd h q)
theorem c_ge_f (g : GCx p l s m args meth c D cA ba cc own nL) {x y : Int32} {off : Int} (h : ¬ y ≤ x) (ht : (pc : Int) + off = (tgt : Int)) (hd : decode cc pc = .ok (.if_icmp .ge off, 3)) (kk : XCx p l e R s m args below meth c D ba nL Qf (kc) (ks) (pc + 3) (lv) (st) (n) (hp)) : XCx p l e R s m args below meth c D ba nL Qf (kc) (ks) (pc) (lv) (.int y :: .int x :: st) (n) (hp) := fun H locs ls hP hS hl => lv_icmp_ge g.1 g.2.1 hd ht (fun q => absurd q h) (fun _ => kk H locs ls hP hS hl)
theorem c_ge (g : GCx p l s m args meth c D cA ba cc own nL) {x y : Int32} {off : Int} (ht : (pc : Int) + off = (tgt : Int)) (hd : decode cc pc = .ok (.if_icmp .ge off, 3)) (k1 : y ≤ x → XCx p l e R s m args below meth c D ba nL Qf (kc) (ks) (tgt) (lv) (st) (n) (hp)) (k2 : ¬ y ≤ x → XCx p l e R s m args below meth c D ba nL Qf (kc) (ks) (pc + 3) (lv) (st) (n) (hp)) : XCx p l e R s m args below meth c D ba nL Qf (kc) (ks) (pc) (lv) (.int y :: .int x :: st) (n) (hp) := fun H locs ls hP hS hl => lv_icmp_ge g.1 g.2.1 hd ht (fun q => k1 q H locs ls hP hS hl) (fun q => k2 q H locs ls hP hS hl)
theorem c_alen (g : GCx p l s m args meth c D cA ba cc own nL) {k N : Nat} {f : Nat → Int32} (hk : k < n) (he : hp k = .inl (cA 1, N, .inl f)) (hd : decode cc pc = .ok (.arraylength, 1)) (kk : XCx p l e R s m args below meth c D ba nL Qf (kc) (ks) (pc + 1) (lv) (.int (Int32.ofNat N) :: st) (n) (hp)) : XCx p l e R s m args below meth c D ba nL Qf (kc) (ks) (pc) (lv) (.ref (ba + k) :: st) (n) (hp) := fun H locs ls hP hS hl => va_alen g.1 g.2.1 g.2.2.2.2.2.1.1 hP.P k 0 (by rw [ewl_at hk, he]) rfl rfl hd (kk H locs ls hP hS hl)
theorem ob_in : Cond.instanceMethod Lib.objectInit ∈ TWx := tw_t (tb_1 (List.mem_of_getElem? (i := 22) rfl)) rfl
theorem ob_co : Cond.code Lib.objectInit ⟨#[0xb1]⟩ 1 none ∈ TWx := tw_t (tb_1 (List.mem_of_getElem? (i := 23) rfl)) rfl
theorem c_obj (g : GCx p l s m args meth c D cA ba cc own nL) {a idx : Nat} (hw : Cond.methodLink own idx Lib.objectInit ∈ TWx) (hfr : 1 ≤ R.frames) (hlo : 20 ≤ R.locals) (hst : (st.map fun v => v.category).sum ≤ 8) (hd : decode cc pc = .ok (.invokespecial idx, 3)) (kk : XCx p l e R s m args below meth c D ba nL Qf (kc) (ks) (pc + 3) (lv) (st) (n) (hp)) : XCx p l e R s m args below meth c D ba nL Qf (kc) (ks) (pc) (lv) (.ref a :: st) (n) (hp) := fun H locs ls hP hS hl => W.objInit g.1 g.2.1 g.2.2.2.1 (g.2.2.2.2.1 _ hw) (g.2.2.2.2.1 _ ob_in) (g.2.2.2.2.1 _ ob_co) rfl (by rw [g.2.2.1]; exact hl.1) rfl hd hfr (by show 2 * (F0 m pc ls []).monitorRoom + _ + 12 ≤ _; have : (F0 m pc ls []).monitorRoom = 0 := rfl; rw [this]; omega) (W.eq (g2 := F0 m (pc + 3) ls st) rfl (kk H locs ls hP hS hl))
theorem c_new (g : GCx p l s m args meth c D cA ba cc own nL) {C : String} {T : u_T} {N ci idx : Nat} {tyf : Nat → FieldType} (fs : List Value) (hcl : vwCl[ci]? = some (C, T, N)) (hin : ∀ w ∈ u_ws C T N, w ∈ TWx) (hty : ∀ k, k < N → parseFieldDescriptor (T k).2.2.1 = some (tyf k)) (hw : Cond.classLink own idx C ∈ TWx) (hi : Cond.instantiable C N ∈ TWx) (hz : Cond.initialized C ∈ TWx) (hfs : ∀ j, j < N → defaultValue (tyf j) = vp_V fs j) (hk1 : kc + 1 ≤ R.cells) (hk2 : ks + N ≤ R.slots) (hd : decode cc pc = .ok (.new idx, 3)) (kk : XCx p l e R s m args below meth c D ba nL Qf (kc + 1) (ks + N) (pc + 3) (lv) (.ref (ba + n) :: st) (n + 1) (upE hp n (.inr (ci, fs)))) : XCx p l e R s m args below meth c D ba nL Qf (kc) (ks) (pc) (lv) (st) (n) (hp) := fun H locs ls hP hS hl => by
  have hKn := g.2.2.2.2.2.1.1.1 ci _ hcl
  refine W.newcK g.1 g.2.1 g.2.2.2.1 (g.2.2.2.2.1 _ hw) (g.2.2.2.2.1 _ hi) (g.2.2.2.2.1 _ hz) rfl hd hk1 hk2 hKn.2.1 hP.1 (fun H1 kC hkC e1 z1 o1 => ?_)
  exact kk H1 locs ls (hP.push (by rw [z1, hP.1]) (fun q hq => o1 q (by rw [← hP.1]; exact hq)) ⟨_, hcl, (u_born tyf g.2.2.2.2.1 hin hKn hkC e1 hty).to hfs⟩) ⟨Nat.le_trans hS.1 (by rw [z1, hP.1]; omega), fun x h1 h2 => (o1 x (by rw [← hP.1]; exact Nat.lt_of_lt_of_le h1 hS.1)).trans (hS.2.1 x h1 h2), hS.2.2⟩ hl
theorem c_newa (g : GCx p l s m args meth c D cA ba cc own nL) {at0 : ArrayType} {ty : FieldType} {N t : Nat} {v : Int32} {a0 : vp_A} (hty : newarray.typeOf at0 = ty) (hw : Cond.arrayClass ty ∈ TWx) (ht : (tyL cA)[t]? = some (cA (t + 1), ty)) (hpr : ∀ U c, va_RA U c ty = (U.vm.findClass ("[" ++ ty.toString) = some c)) (ha : ∀ c : ClassId, vp_cell c a0 = arrV c N (fun _ => defaultValue ty)) (hn : ¬ v < 0) (hN : v.toNatClampNeg = N) (hb : N * componentBytes ty ≤ 536870912) (hk1 : kc + 1 ≤ R.cells) (hk2 : ks + N ≤ R.slots) (hd : decode cc pc = .ok (.newarray at0, 2)) (kk : XCx p l e R s m args below meth c D ba nL Qf (kc + 1) (ks + N) (pc + 2) (lv) (.ref (ba + n) :: st) (n + 1) (upE hp n (.inl (cA (t + 1), a0)))) : XCx p l e R s m args below meth c D ba nL Qf (kc) (ks) (pc) (lv) (.int v :: st) (n) (hp) := fun H locs ls hP hS hl => by
  subst hty
  refine va_newaK g.1 g.2.1 (g.2.2.2.2.1 _ hw) rfl hd rfl hn hN hb hk1 hk2 hP.1 (fun H1 c1 e1 z1 o1 _ hc1 => ?_)
  have hc2 := (g.2.2.2.2.2.1.1.2 t _ ht).2
  rw [hpr] at hc2
  have hcc : c1 = cA (t + 1) := Option.some.inj (hc1.symm.trans hc2)
  subst hcc
  exact kk H1 locs ls (hP.push (by rw [z1, hP.1]) (fun q hq => o1 q (by rw [← hP.1]; exact hq)) (by show H1[ba + n]? = some (vp_cell _ a0); rw [ha]; exact e1)) ⟨Nat.le_trans hS.1 (by rw [z1, hP.1]; omega), fun x h1 h2 => (o1 x (by rw [← hP.1]; exact Nat.lt_of_lt_of_le h1 hS.1)).trans (hS.2.1 x h1 h2), hS.2.2⟩ hl
theorem c_newq (g : GCx p l s m args meth c D cA ba cc own nL) {N idx : Nat} {v : Int32} (hw : Cond.classLink own idx "FootstepsAhead$Shelf" ∈ TWx) (hn : ¬ v < 0) (hN : v.toNatClampNeg = N) (hb : N * 4 ≤ 536870912) (hk1 : kc + 1 ≤ R.cells) (hk2 : ks + N ≤ R.slots) (hd : decode cc pc = .ok (.anewarray idx, 3)) (kk : XCx p l e R s m args below meth c D ba nL Qf (kc + 1) (ks + N) (pc + 3) (lv) (.ref (ba + n) :: st) (n + 1) (upE hp n (.inl (cA 7, N, .inr (.inr (.inr (.inr (fun _ => none)))))))) : XCx p l e R s m args below meth c D ba nL Qf (kc) (ks) (pc) (lv) (.int v :: st) (n) (hp) := fun H locs ls hP hS hl => by
  subst hN
  refine W.anew g.1 g.2.1 g.2.2.2.1 (g.2.2.2.2.1 _ hw) (va_AO.use g.2.2.2.2.2.1.2.2.1) rfl hd rfl hn hb hk1 hk2 (fun c1 kA comp f1 f2 f3 f4 => ?_)
  obtain ⟨kA2, comp2, q1, q2, q3, q4⟩ := (g.2.2.2.2.2.1.1.2 5 _ rfl).2
  have hcc : c1 = cA 7 := Option.some.inj (f1.symm.trans q4)
  subst hcc
  rw [hP.1]
  refine kk _ locs ls ?_ ⟨Nat.le_trans hS.1 (by rw [Array.size_push]; omega), fun x h1 h2 => ?_, hS.2.2⟩ hl
  · refine hP.push (by rw [Array.size_push]) (fun q hq => by rw [Array.getElem?_push, if_neg (Nat.ne_of_lt hq)]) ?_
    show _ = some (vp_cell _ _)
    rw [← hP.1, Array.getElem?_push_size, vp_cell_q, ← arrV_new]
    rfl
  · have hx : x < H.size := Nat.lt_of_lt_of_le h1 hS.1
    rw [Array.getElem?_push, if_neg (Nat.ne_of_lt hx)]
    exact hS.2.1 x h1 h2
theorem c_mna (g : GCx p l s m args meth c D cA ba cc own nL) {N K idx : Nat} {v w : Int32} (hw : Cond.classLink own idx "[[I" ∈ TWx) (hwa : Cond.arrayClass .int ∈ TWx) (hn : ¬ v < 0) (hN : v.toNatClampNeg = N) (hm : ¬ w < 0) (hM : w.toNatClampNeg = K) (hb1 : N * 4 ≤ 536870912) (hb2 : K * 4 ≤ 536870912) (hk1 : kc + (1 + N) ≤ R.cells) (hk2 : ks + (N + N * K) ≤ R.slots) (hd : decode cc pc = .ok (.multianewarray idx 2, 4)) (kk : XCx p l e R s m args below meth c D ba nL Qf (kc + 1 + N) (ks + N + N * K) (pc + 4) (lv) (.ref (ba + n) :: st) (n + 1 + N) (upR (upE hp n (.inl (cA 6, N, .inr (.inr (.inr (.inr (fun j => if j < N then some (ba + n + 1 + j) else none))))))) (n + 1) N (.inl (cA 1, K, .inl (fun _ => 0))))) : XCx p l e R s m args below meth c D ba nL Qf (kc) (ks) (pc) (lv) (.int w :: .int v :: st) (n) (hp) := fun H locs ls hP hS hl => by
  subst hN
  subst hM
  intro T hT Xs
  obtain ⟨vm₁, c6, c1, -, fA, fC, -, -, X', step⟩ := Xs.multianewarray2F g.1 (ty := .int) g.2.2.2.1 (g.2.2.2.2.1 _ hw) g.2.2.2.2.2.1.2.1 (g.2.2.2.2.1 _ hwa) (g := F0 m pc ls (.int w :: .int v :: st)) rfl (by rw [g.2.1]; exact hd) rfl hn hm hb1 hb2 (Nat.le_trans (by omega) hb2) (by decide) (by decide) hk1 hk2
  have e6 : c6 = cA 6 := Option.some.inj (fA.symm.trans (g.2.2.2.2.2.1.1.2 4 _ rfl).2)
  have e1 : c1 = cA 1 := Option.some.inj (fC.symm.trans (g.2.2.2.2.2.1.1.2 0 _ rfl).2)
  subst e6
  subst e1
  generalize hF : Jvm.Free.Multi.fill (T.setVm vm₁) (cA 6) (cA 1) v.toNatClampNeg w.toNatClampNeg (defaultValue .int) v.toNatClampNeg = F at X' step
  have hTh : (T.setVm vm₁).heap = H := hT
  obtain ⟨f1, f2, -, -⟩ := Jvm.Free.Multi.fill_facts (T.setVm vm₁) (cA 6) (cA 1) v.toNatClampNeg w.toNatClampNeg (defaultValue .int) v.toNatClampNeg
  rw [hF, hTh] at f1 f2
  have hold : ∀ x : Nat, x < H.size → F.heap[x]? = H[x]? := fun x hx => by
    have := Jvm.Free.Multi.fill_old (T.setVm vm₁) (cA 6) (cA 1) v.toNatClampNeg w.toNatClampNeg (defaultValue .int) (a := x) (by rw [hTh]; exact hx) v.toNatClampNeg
    rw [hF, hTh] at this
    exact this
  have hrow : ∀ j : Nat, j < v.toNatClampNeg → F.heap[H.size + 1 + j]? = some (vp_cell (cA 1) (w.toNatClampNeg, .inl (fun _ => 0))) := fun j hj => by
    have := Jvm.Free.Multi.fill_inner (T.setVm vm₁) (cA 6) (cA 1) v.toNatClampNeg w.toNatClampNeg (defaultValue .int) v.toNatClampNeg j hj
    rw [hF, hTh] at this
    rw [this, vp_cell_i]
    show some ({ cls := cA 1, slots := Array.replicate w.toNatClampNeg (defaultValue .int), vm := .none } : Cell) = _
    rw [arrV_new]
    rfl
  have hout : ∀ i : Nat, Jvm.Free.Multi.outerC (cA 6) v.toNatClampNeg H.size i = vp_cell (cA 6) (v.toNatClampNeg, .inr (.inr (.inr (.inr (fun j => if j < i then some (H.size + 1 + j) else none))))) := fun i => by
    rw [vp_cell_q]
    exact vr_outer2 (cA 6) v.toNatClampNeg H.size i
  rw [hout] at f2
  have hE : EWx D ba (n + 1 + v.toNatClampNeg) (upR (upE hp n (.inl (cA 6, v.toNatClampNeg, .inr (.inr (.inr (.inr (fun j => if j < v.toNatClampNeg then some (ba + n + 1 + j) else none))))))) (n + 1) v.toNatClampNeg (.inl (cA 1, w.toNatClampNeg, .inl (fun _ => 0)))) F.heap := by
    refine ⟨by rw [f1, hP.1]; omega, fun k hk => ?_⟩
    unfold upR
    by_cases hr : n + 1 ≤ k ∧ k < n + 1 + v.toNatClampNeg
    · rw [if_pos hr]
      show F.heap[ba + k]? = some (vp_cell _ _)
      have := hrow (k - (n + 1)) (by omega)
      rw [show H.size + 1 + (k - (n + 1)) = ba + k by rw [hP.1]; omega] at this
      exact this
    · rw [if_neg hr]
      unfold upE
      by_cases hkn : k = n
      · subst hkn
        rw [if_pos rfl]
        show F.heap[ba + k]? = some (vp_cell _ _)
        rw [← hP.1]
        exact f2
      · rw [if_neg hkn]
        exact (hP.2 k (by omega)).kept (hold _ (by show ba + k < _; rw [hP.1]; omega))
  obtain ⟨t, a1, b1⟩ := kk F.heap locs ls hE ⟨Nat.le_trans hS.1 (by rw [f1]; omega), fun x h1 h2 => (hold x (Nat.lt_of_lt_of_le h1 hS.1)).trans (hS.2.1 x h1 h2), hS.2.2⟩ hl F rfl X'
  refine ⟨t, step t ?_, b1⟩
  rw [show T.heap.size = ba + n by rw [hT, hP.1]]
  exact a1
theorem c_put (g : GCx p l s m args meth c D cA ba cc own nL) {idx ci j k : Nat} {ty : FieldType} {fin : Bool} {fs fs2 : List Value} {v : Value} (hk : k < n) (he : hp k = .inr (ci, fs)) (hfs2 : fs.set j v = fs2) (f : FLx own idx ci j ty fin) (hin2 : fin = true → meth.name = "<init>" ∧ ∀ C T N, vwCl[ci]? = some (C, T, N) → (T j).1 = own) (hnar : narrow ty v = v) (hfit : fits ty v = true) (hlen : j < fs.length) (hd : decode cc pc = .ok (.putfield idx, 3)) (kk : XCx p l e R s m args below meth c D ba nL Qf (kc) (ks) (pc + 3) (lv) (st) (n) (upE hp k (.inr (ci, fs2)))) : XCx p l e R s m args below meth c D ba nL Qf (kc) (ks) (pc) (lv) (v :: .ref (ba + k) :: st) (n) (hp) := fun H locs ls hP hS hl => by
  obtain ⟨C, T, N, tyf, h1, h2, h3, h4, h5, h6, h7, h8⟩ := f
  subst h7
  subst hfs2
  have hK := g.2.2.2.2.2.1.1
  have hap := va_apart (own := own) g.2.2.2.2.1 h3 tyf h4 h5 hK h1
  have hc := hP.2 k hk
  rw [he] at hc
  obtain ⟨r, hr, cell, q1, q2, q3, q4⟩ := hc
  cases hr.symm.trans h1
  obtain ⟨hSl, hfc, kC, hkC, hkind⟩ := hK.1 ci _ h1
  obtain ⟨cf, kf, fi, f, hi, hsl⟩ := hSl j h2
  have hlay := g.2.2.2.2.1 _ (h3 _ (u_in_lay h2))
  have hst := (u_facts hfc hkC (u_lays g.2.2.2.2.1 h3 h2) hi).1
  have fin1 : ∀ (H1 : Heap), H1[ba + k]? = some (cell.setSlot f.slot v) → H1.size = H.size → (∀ q, q ≠ ba + k → H1[q]? = H[q]?) → W p l e R s m args below meth c H1 (locs ++ [⟨ba + k, f.slot⟩]) kc ks Qf (F0 m (pc + 3) ls st) := fun H1 e1 e2 e3 => by
    rw [hsl] at e1
    refine kk H1 _ ls (hP.put e2 e3 ⟨_, h1, t_OB.to (V := updV (vp_V fs) j v) ⟨_, e1, q2, q3, t_set q4 hap h2 v⟩ (fun j2 _ => vp_updV_set hlen v j2)⟩) (hS.put e2 e3 (Nat.le_add_right ba k)) hl
  cases hfin : (T j).2.2.2 with
  | false =>
    unfold u_lay at hlay
    rw [if_neg (by rw [hfin]; decide)] at hlay
    have h6b := u_store hfc hkC hkind hlay hi (h4 j h2) hnar hfit
    exact W.putK g.1 g.2.1 (f := f) ⟨g.2.2.2.1, g.2.2.2.2.1 _ h6, ⟨_, _, _, hi⟩, hst⟩ (by rw [q2]; exact h6b) q1 q3 (by rw [hsl]; exact k2_hasslot (q4 j h2)) rfl rfl hd fin1
  | true =>
    have hft : fin = true := by rw [← h8]; exact hfin
    obtain ⟨hmn, hdc⟩ := hin2 hft
    have hdecl := hdc C T N h1
    unfold u_lay at hlay
    rw [if_pos hfin] at hlay
    have hcf : m.cls = cf := by
      obtain ⟨_, _, c', _, _, _, -, -, hf', -, -, -, hown2, -⟩ := Cond.laysFinal_spec hlay
      have e1 : c' = cf := by have := hi.symm.trans hf'; simp at this; exact this.1.symm
      rw [hdecl] at hown2
      rw [← e1]; exact Option.some.inj (g.2.2.2.1.symm.trans hown2)
    have h6b := u_fits hfc hkC hkind (Or.inr hlay) hi (h4 j h2) hnar hfit
    exact W.putFinK g.1 g.2.1 g.2.2.2.1 (g.2.2.2.2.1 _ h6) hi hst hcf hmn (by rw [q2]; exact h6b) q1 q3 (by rw [hsl]; exact k2_hasslot (q4 j h2)) rfl rfl hd fin1
theorem c_get (g : GCx p l s m args meth c D cA ba cc own nL) {idx ci j k : Nat} {ty : FieldType} {fin : Bool} {fs : List Value} (v : Value) (hk : k < n) (he : hp k = .inr (ci, fs)) (f : FLx own idx ci j ty fin) (hv : fs[j]? = some v) (hd : decode cc pc = .ok (.getfield idx, 3)) (kk : XCx p l e R s m args below meth c D ba nL Qf (kc) (ks) (pc + 3) (lv) (v :: st) (n) (hp)) : XCx p l e R s m args below meth c D ba nL Qf (kc) (ks) (pc) (lv) (.ref (ba + k) :: st) (n) (hp) := fun H locs ls hP hS hl => by
  obtain ⟨C, T, N, tyf, h1, h2, h3, h4, h5, h6, -⟩ := f
  exact va_get g.1 g.2.1 g.2.2.2.2.1 h3 g.2.2.2.1 g.2.2.2.2.2.1.1 hP.P k (by rw [ewl_at hk, he]) h1 j h2 (g.2.2.2.2.1 _ h6) (fun _ h => h) hv hd (kk H locs ls hP hS hl)
theorem c_aald (g : GCx p l s m args meth c D cA ba cc own nL) {k N : Nat} {v : Int32} {f : Nat → Option Nat} (r : Nat) (hk : k < n) (he : hp k = .inl (cA 6, N, .inr (.inr (.inr (.inr f))))) (hin : vp_in v N) (hr : f v.toNatClampNeg = some r) (hd : decode cc pc = .ok (.aaload, 1)) (kk : XCx p l e R s m args below meth c D ba nL Qf (kc) (ks) (pc + 1) (lv) (.ref r :: st) (n) (hp)) : XCx p l e R s m args below meth c D ba nL Qf (kc) (ks) (pc) (lv) (.int v :: .ref (ba + k) :: st) (n) (hp) := fun H locs ls hP hS hl => by
  have hc := hP.2 k hk
  rw [he] at hc
  have hlt := vpx_lt hin
  exact W.aald (v := .ref r) (ty := .array .int) g.1 g.2.1 hc ((g.2.2.2.2.2.1.1.2 4 _ rfl).1 N (fun j => va_rf (f j))) rfl (fun q => by cases q) (by show ¬ (v < 0 ∨ (arrV _ _ _).slots.size ≤ _); rw [arrV_size]; exact hin) (by show (arrV _ _ _).slots[_]? = _; rw [arrV_read _ _ hlt, hr]; rfl) rfl rfl hd (kk H locs ls hP hS hl)
theorem c_iast (g : GCx p l s m args meth c D cA ba cc own nL) {k N : Nat} {v x : Int32} {f : Nat → Int32} (hk : k < n) (he : hp k = .inl (cA 1, N, .inl f)) (hin : vp_in v N) (hd : decode cc pc = .ok (.iastore, 1)) (kk : XCx p l e R s m args below meth c D ba nL Qf (kc) (ks) (pc + 1) (lv) (st) (n) (upE hp k (.inl (cA 1, N, .inl (upd f v.toNatClampNeg x))))) : XCx p l e R s m args below meth c D ba nL Qf (kc) (ks) (pc) (lv) (.int x :: .int v :: .ref (ba + k) :: st) (n) (hp) := fun H locs ls hP hS hl => by
  have hc := hP.2 k hk
  rw [he] at hc
  refine W.iast g.1 g.2.1 hc ((g.2.2.2.2.2.1.1.2 0 _ rfl).1 N (fun j => .int (f j))) (fun q => by cases q) (by show ¬ (v < 0 ∨ (arrV _ _ _).slots.size ≤ _); rw [arrV_size]; exact hin) rfl rfl hd (fun H1 e1 z1 oq => ?_)
  refine kk H1 _ ls (hP.put z1 oq ?_) (hS.put z1 oq (Nat.le_add_right ba k)) hl
  show H1[ba + k]? = some (vp_cell _ _)
  rw [e1, vp_cell_i, vp_cell_i, arrV_store]
  congr 2
  funext q
  by_cases hq : q = v.toNatClampNeg <;> simp [updV, upd, hq]
theorem c_aast (g : GCx p l s m args meth c D cA ba cc own nL) {k N j : Nat} {v : Int32} {fs : List Value} {f : Nat → Option Nat} (hk : k < n) (he : hp k = .inl (cA 7, N, .inr (.inr (.inr (.inr f))))) (hj : j < n) (hv : hp j = .inr (6, fs)) (hin : vp_in v N) (hd : decode cc pc = .ok (.aastore, 1)) (kk : XCx p l e R s m args below meth c D ba nL Qf (kc) (ks) (pc + 1) (lv) (st) (n) (upE hp k (.inl (cA 7, N, .inr (.inr (.inr (.inr (va_up f v.toNatClampNeg (some (ba + j)))))))))) : XCx p l e R s m args below meth c D ba nL Qf (kc) (ks) (pc) (lv) (.ref (ba + j) :: .int v :: .ref (ba + k) :: st) (n) (hp) := fun H locs ls hP hS hl => by
  have hc := hP.2 k hk
  rw [he] at hc
  have hc2 := hP.2 j hj
  rw [hv] at hc2
  obtain ⟨r', hr', cellV, g1, g2, g3, -⟩ := hc2
  have hK := g.2.2.2.2.2.1.1
  have hcls := (hK.1 6 _ rfl).2
  cases hr'
  obtain ⟨kA, comp, k1, k2, k3, -⟩ := (hK.2 5 _ rfl).2
  have hcomp : comp = D.1 6 := Option.some.inj (k3.symm.trans hcls.1)
  subst hcomp
  obtain ⟨kC, hkC, -⟩ := hcls.2
  have hlt := vpx_lt hin
  refine W.aast g.1 g.2.1 hc (fun q h => by cases h) (fun h => by cases h) k1 k2 rfl hkC ⟨fun q => hin (Or.inl q), by show _ < (arrV _ _ _).slots.size; rw [arrV_size]; exact hlt⟩ g1 (fun q h => by rw [g3] at h; cases h) (by rw [g2]; exact hkC) (by rw [g2]; exact va_assign hcls) rfl rfl hd (fun H1 e1 z1 oq => ?_)
  refine kk H1 _ ls (hP.put z1 oq ?_) (hS.put z1 oq (Nat.le_add_right ba k)) hl
  show H1[ba + k]? = some (vp_cell _ _)
  rw [e1, vp_cell_q, vp_cell_q, arrV_store]
  congr 2
  funext q
  by_cases hq : q = v.toNatClampNeg
  · subst hq
    simp [updV, va_up, va_rf]
  · simp [updV, va_up, hq]
theorem c_callI (g : GCx p l s m args meth c D cA ba cc own nL) {y : MethodName} {ccy : ByteArray} {nLy fr lo mc ms idx nA b n2 : Nat} {hp2 : Nat → va_E} {As : List Value} {stk : List Value} (hM : CCx D cA ba y ccy nLy fr lo mc ms (.ref b :: As) n hp n2 hp2) (hw1 : Cond.methodLink own idx y ∈ TWx) (hin : Cond.instanceMethod y ∈ TWx) (hy1 : y.name = "<init>") (hw4 : Cond.initialized y.cls ∈ TWx) (hw5 : Cond.code y ccy nLy none ∈ TWx) (hdd : y.cls ≠ "java/lang/invoke/MethodHandle" ∧ y.cls ≠ "java/lang/invoke/VarHandle" ∧ (parseMethodDescriptor y.desc).map (fun d => d.parameters.length) = some nA) (hn : As.length = nA) (hR : fr + 1 ≤ R.frames ∧ 8 + (nLy + 11) + lo ≤ R.locals) (hk : kc + mc ≤ R.cells ∧ ks + ms ≤ R.slots) (hst : stk = As.reverse ++ .ref b :: st) (hroom : (st.map fun v => v.category).sum ≤ 8) (hd : decode cc pc = .ok (.invokespecial idx, 3)) (kk : XCx p l e R s m args below meth c D ba nL Qf (kc + mc) (ks + ms) (pc + 3) (lv) (st) (n2) (hp2)) : XCx p l e R s m args below meth c D ba nL Qf (kc) (ks) (pc) (lv) (stk) (n) (hp) := fun H locs ls hP hS hl => by
  subst hst
  have hpre : ∀ U : State, U.heap = H → s.WarmedH U.vm → va_Pc (.ref b :: As) (EUx D cA ba n hp) ((.ref b :: As) : List Value).toArray U := fun U hU hW => ⟨rfl, by rw [hU]; exact hP, g.2.2.2.2.2.1.moved hW⟩
  have hrun := va_runI (args := args) (e := e) (below := below) (meth := meth) (locs := locs) (As := As) (rest := st) (nL := nL) (own := own) (cells := kc) (slots := ks) (g := F0 m pc ls (As.reverse ++ .ref b :: st)) ⟨g.1, g.2.1, g.2.2.1, g.2.2.2.1, g.2.2.2.2.1⟩ (hM l) ⟨callB_of (own := own) (index := idx) nA g.2.2.2.2.1 (ws := .code y ccy nLy none :: TWx) (fun w h => (List.mem_cons.mp h).elim (fun e => by subst e; exact TWx_self _ hw5) (fun h => TWx_self w h)) rfl rfl rfl (g.2.2.2.2.1 _ hw4) (g.2.2.2.2.1 _ hw1) hdd hR, hy1, g.2.2.2.2.1 _ hin⟩ ⟨EUx_blind, hpre⟩ rfl hn hl.1 rfl (lv_room hroom) hd hk
  intro T hT X
  obtain ⟨v, st₀, t, T', L, h0, X', hL, e1, e2, ⟨hv, hB, hz, hk2⟩, stp⟩ := hrun T hT X
  have hv2 : v = none := by cases hv; rfl
  subst hv2
  rw [h0] at hz hk2
  obtain ⟨t2, a1, b1⟩ := kk T'.heap (locs ++ L) ls (by rw [e1]; exact hB.1) ⟨Nat.le_trans hS.1 (by rw [e1]; exact hz), fun q h1 h2 => by rw [e1, hk2 q (Nat.lt_of_lt_of_le h1 hS.1) h2]; exact hS.2.1 q h1 h2, fun q hq => by
      rcases List.mem_append.mp hq with h | h
      · exact hS.2.2 q h
      · exact hL q h⟩ hl T' rfl X'
  exact ⟨t2, stp t2 a1, b1⟩
theorem c_callN (g : GCx p l s m args meth c D cA ba cc own nL) {y : MethodName} {ccy : ByteArray} {nLy fr lo mc ms idx nA b n2 : Nat} {hp2 : Nat → va_E} {As : List Value} {stk : List Value} (hM : CCx D cA ba y ccy nLy fr lo mc ms (.ref b :: As) n hp n2 hp2) {host : String} (hw1 : va_Nw (.methodLinkNest own idx y host) s) (hin : Cond.instanceMethod y ∈ TWx) (hy1 : y.name = "<init>") (hw4 : Cond.initialized y.cls ∈ TWx) (hw5 : Cond.code y ccy nLy none ∈ TWx) (hdd : y.cls ≠ "java/lang/invoke/MethodHandle" ∧ y.cls ≠ "java/lang/invoke/VarHandle" ∧ (parseMethodDescriptor y.desc).map (fun d => d.parameters.length) = some nA) (hn : As.length = nA) (hR : fr + 1 ≤ R.frames ∧ 8 + (nLy + 11) + lo ≤ R.locals) (hk : kc + mc ≤ R.cells ∧ ks + ms ≤ R.slots) (hst : stk = As.reverse ++ .ref b :: st) (hroom : (st.map fun v => v.category).sum ≤ 8) (hd : decode cc pc = .ok (.invokespecial idx, 3)) (kk : XCx p l e R s m args below meth c D ba nL Qf (kc + mc) (ks + ms) (pc + 3) (lv) (st) (n2) (hp2)) : XCx p l e R s m args below meth c D ba nL Qf (kc) (ks) (pc) (lv) (stk) (n) (hp) := fun H locs ls hP hS hl => by
  subst hst
  have hpre : ∀ U : State, U.heap = H → s.WarmedH U.vm → va_Pc (.ref b :: As) (EUx D cA ba n hp) ((.ref b :: As) : List Value).toArray U := fun U hU hW => ⟨rfl, by rw [hU]; exact hP, g.2.2.2.2.2.1.moved hW⟩
  have hrun := va_runIN (args := args) (e := e) (below := below) (meth := meth) (locs := locs) (As := As) (rest := st) (nL := nL) (own := own) (cells := kc) (slots := ks) (g := F0 m pc ls (As.reverse ++ .ref b :: st)) ⟨g.1, g.2.1, g.2.2.1, g.2.2.2.1, g.2.2.2.2.1⟩ (hM l) ⟨va_cnB (own := own) (index := idx) nA g.2.2.2.2.1 (ws := .code y ccy nLy none :: TWx) (fun w h => (List.mem_cons.mp h).elim (fun e => by subst e; exact TWx_self _ hw5) (fun h => TWx_self w h)) rfl rfl rfl hw1 (g.2.2.2.2.1 _ hw4) hdd hR, hy1, g.2.2.2.2.1 _ hin⟩ ⟨EUx_blind, hpre⟩ rfl hn hl.1 rfl (lv_room hroom) hd hk
  intro T hT X
  obtain ⟨v, st₀, t, T', L, h0, X', hL, e1, e2, ⟨hv, hB, hz, hk2⟩, stp⟩ := hrun T hT X
  have hv2 : v = none := by cases hv; rfl
  subst hv2
  rw [h0] at hz hk2
  obtain ⟨t2, a1, b1⟩ := kk T'.heap (locs ++ L) ls (by rw [e1]; exact hB.1) ⟨Nat.le_trans hS.1 (by rw [e1]; exact hz), fun q h1 h2 => by rw [e1, hk2 q (Nat.lt_of_lt_of_le h1 hS.1) h2]; exact hS.2.1 q h1 h2, fun q hq => by
      rcases List.mem_append.mp hq with h | h
      · exact hS.2.2 q h
      · exact hL q h⟩ hl T' rfl X'
  exact ⟨t2, stp t2 a1, b1⟩
theorem c_callS (g : GCx p l s m args meth c D cA ba cc own nL) {y : MethodName} {ccy : ByteArray} {nLy fr lo mc ms idx nA n2 : Nat} {hp2 : Nat → va_E} {As : List Value} {stk : List Value} (hM : CCx D cA ba y ccy nLy fr lo mc ms As n hp n2 hp2) (hw1 : Cond.methodLink own idx y ∈ TWx) (hin : Cond.static y ∈ TWx) (hw4 : Cond.initialized y.cls ∈ TWx) (hw5 : Cond.code y ccy nLy none ∈ TWx) (hdd : y.cls ≠ "java/lang/invoke/MethodHandle" ∧ y.cls ≠ "java/lang/invoke/VarHandle" ∧ (parseMethodDescriptor y.desc).map (fun d => d.parameters.length) = some nA) (hn : As.length = nA) (hR : fr + 1 ≤ R.frames ∧ 8 + (nLy + 11) + lo ≤ R.locals) (hk : kc + mc ≤ R.cells ∧ ks + ms ≤ R.slots) (hst : stk = As.reverse ++ st) (hroom : (st.map fun v => v.category).sum ≤ 8) (hd : decode cc pc = .ok (.invokestatic idx, 3)) (kk : XCx p l e R s m args below meth c D ba nL Qf (kc + mc) (ks + ms) (pc + 3) (lv) (st) (n2) (hp2)) : XCx p l e R s m args below meth c D ba nL Qf (kc) (ks) (pc) (lv) (stk) (n) (hp) := fun H locs ls hP hS hl => by
  subst hst
  have hpre : ∀ U : State, U.heap = H → s.WarmedH U.vm → va_Pc As (EUx D cA ba n hp) (As : List Value).toArray U := fun U hU hW => ⟨rfl, by rw [hU]; exact hP, g.2.2.2.2.2.1.moved hW⟩
  have hrun := va_runS (args := args) (e := e) (below := below) (meth := meth) (locs := locs) (As := As) (rest := st) (nL := nL) (own := own) (cells := kc) (slots := ks) (g := F0 m pc ls (As.reverse ++ st)) ⟨g.1, g.2.1, g.2.2.1, g.2.2.2.1, g.2.2.2.2.1⟩ (hM l) ⟨callB_of (own := own) (index := idx) nA g.2.2.2.2.1 (ws := .code y ccy nLy none :: TWx) (fun w h => (List.mem_cons.mp h).elim (fun e => by subst e; exact TWx_self _ hw5) (fun h => TWx_self w h)) rfl rfl rfl (g.2.2.2.2.1 _ hw4) (g.2.2.2.2.1 _ hw1) hdd hR, g.2.2.2.2.1 _ hin⟩ ⟨EUx_blind, hpre⟩ rfl hn hl.1 rfl (lv_room hroom) hd hk
  intro T hT X
  obtain ⟨v, st₀, t, T', L, h0, X', hL, e1, e2, ⟨hv, hB, hz, hk2⟩, stp⟩ := hrun T hT X
  have hv2 : v = none := by cases hv; rfl
  subst hv2
  rw [h0] at hz hk2
  obtain ⟨t2, a1, b1⟩ := kk T'.heap (locs ++ L) ls (by rw [e1]; exact hB.1) ⟨Nat.le_trans hS.1 (by rw [e1]; exact hz), fun q h1 h2 => by rw [e1, hk2 q (Nat.lt_of_lt_of_le h1 hS.1) h2]; exact hS.2.1 q h1 h2, fun q hq => by
      rcases List.mem_append.mp hq with h | h
      · exact hS.2.2 q h
      · exact hL q h⟩ hl T' rfl X'
  exact ⟨t2, stp t2 a1, b1⟩
theorem c_ret {mc ms n2 : Nat} {hp2 : Nat → va_E} (g : GCx p l s m args meth c D cA ba cc own nL) (hrt : meth.sig.returnType = none) (hk : kc = mc ∧ ks = ms) (hn2 : n = n2) (hp2e : hp = hp2) (hd : decode cc pc = .ok (.return_, 1)) : XCx p l e R s m args below meth c D ba nL (MQ below (QCx D cA ba n2 hp2) args s mc ms (Ax ba)) kc ks pc lv [] n hp := fun H locs ls hP hS hl => by
  obtain ⟨rfl, rfl⟩ := hk
  subst hn2
  subst hp2e
  exact W.vret g.1 g.2.1 hrt (fun t ht hW => ⟨rfl, ⟨by rw [ht]; exact hP, g.2.2.2.2.2.1.moved hW⟩, hS.F ht⟩) hS.2.2 hd g.2.2.2.2.2.2.2
end XC
set_option maxRecDepth 100000 in
set_option maxHeartbeats 4000000 in
theorem cc_fill {D : va_G} {cA : Nat → ClassId} {ba n k N : Nat} {hp : Nat → va_E} {f : Nat → Int32} (v : Int32) (hk : k < n) (hN : N < 2 ^ 31) (he : hp k = .inl (cA 1, N, .inl f)) : CCx D cA ba yJ7_fill_53178 cJ7_fill_53178 4 0 0 0 0 [.ref (ba + k), .int v] n hp n (upE hp k (.inl (cA 1, N, .inl (fun j => if j < N then v else f j)))) := by
  refine CCx_of (by decide +kernel) (Nat.le_of_ble_eq_true rfl) ?_
  intro p l e s m args below meth c g hrt _
  refine c_iconst (pc := 0) (v := (0 : Int32)) g (by decide) dJ7_fill_53178_0 ?_
  refine c_istore_n (pc := 1) (lv' := [(2, .int (0 : Int32)), (0, .ref (ba + k)), (1, .int v)]) g rfl (by decide) rfl dJ7_fill_53178_1 ?_
  refine c_aload_n (pc := 2) g rfl 1 rfl dJ7_fill_53178_2 ?_
  refine c_alen (pc := 3) g hk he dJ7_fill_53178_3 ?_
  refine c_istore_n (pc := 4) (lv' := [(3, .int (nI N)), (2, .int (0 : Int32)), (0, .ref (ba + k)), (1, .int v)]) g rfl (by decide) rfl dJ7_fill_53178_4 ?_
  have key : ∀ (d i : Nat) (x : Int32), i + d = N → x = nI i → ∀ lv, lv = [(3, Value.int (nI N)), (2, .int x), (0, .ref (ba + k)), (1, .int v)] ∨ lv = [(2, .int x), (3, Value.int (nI N)), (0, .ref (ba + k)), (1, .int v)] → XCx p l e { frames := 0, cells := 0, slots := 0, locals := 0 } s m args below meth c D ba 4 (MQ below (QCx D cA ba n (upE hp k (.inl (cA 1, N, .inl (fun j => if j < N then v else f j))))) args s 0 0 (Ax ba)) 0 0 5 lv [] n (upE hp k (.inl (cA 1, N, .inl (fun j => if j < i then v else f j)))) := by
    intro d
    induction d with
    | zero =>
      intro i x hi hx lv hlv
      have hiN : i = N := by omega
      subst hiN
      subst hx
      rcases hlv with rfl | rfl
      · refine c_iload_n (pc := 5) g rfl 1 rfl dJ7_fill_53178_5 ?_
        refine c_iload_n (pc := 6) g rfl 0 rfl dJ7_fill_53178_6 ?_
        refine c_ge_t (pc := 7) (tgt := 20) g (nI_le (Nat.le_refl _) hN) (by decide) dJ7_fill_53178_7 ?_
        exact c_ret (pc := 20) g hrt ⟨rfl, rfl⟩ rfl rfl dJ7_fill_53178_20
      · refine c_iload_n (pc := 5) g rfl 0 rfl dJ7_fill_53178_5 ?_
        refine c_iload_n (pc := 6) g rfl 1 rfl dJ7_fill_53178_6 ?_
        refine c_ge_t (pc := 7) (tgt := 20) g (nI_le (Nat.le_refl _) hN) (by decide) dJ7_fill_53178_7 ?_
        exact c_ret (pc := 20) g hrt ⟨rfl, rfl⟩ rfl rfl dJ7_fill_53178_20
    | succ d ih =>
      intro i x hi hx lv hlv
      subst hx
      have hlt : i < N := by omega
      have hstep : XCx p l e { frames := 0, cells := 0, slots := 0, locals := 0 } s m args below meth c D ba 4 (MQ below (QCx D cA ba n (upE hp k (.inl (cA 1, N, .inl (fun j => if j < N then v else f j))))) args s 0 0 (Ax ba)) 0 0 13 lv [.int v, .int (nI i), .ref (ba + k)] n (upE hp k (.inl (cA 1, N, .inl (fun j => if j < i then v else f j)))) := by
        refine c_iast (pc := 13) g (f := fun j => if j < i then v else f j) hk (by unfold upE; rw [if_pos rfl]) (vp_in_nI hlt hN) dJ7_fill_53178_13 ?_
        have hh : upE (upE hp k (.inl (cA 1, N, .inl (fun j => if j < i then v else f j)))) k (.inl (cA 1, N, .inl (upd (fun j => if j < i then v else f j) (nI i).toNatClampNeg v))) = upE hp k (.inl (cA 1, N, .inl (fun j => if j < i + 1 then v else f j))) := by
          have h1 : upd (fun j => if j < i then v else f j) (nI i).toNatClampNeg v = fun j => if j < i + 1 then v else f j := by
            rw [nI_clamp (by omega)]
            funext j
            unfold upd
            by_cases h : j = i
            · subst h
              simp
            · by_cases h2 : j < i
              · simp [h, h2, Nat.lt_succ_of_lt h2]
              · simp [h, h2, show ¬ j < i + 1 by omega]
          rw [h1]
          funext q
          unfold upE
          by_cases h : q = k <;> simp [h]
        rw [hh]
        rcases hlv with rfl | rfl
        · refine c_iinc (pc := 14) (v := nI (i + 1)) (lv' := [(2, .int (nI (i + 1))), (3, .int (nI N)), (0, .ref (ba + k)), (1, .int v)]) g 1 rfl (by rw [nI_succ]; rfl) (by decide) rfl dJ7_fill_53178_14 ?_
          refine c_goto (pc := 17) (tgt := 5) g (by decide) dJ7_fill_53178_17 ?_
          exact ih (i + 1) _ (by omega) rfl _ (Or.inr rfl)
        · refine c_iinc (pc := 14) (v := nI (i + 1)) (lv' := [(2, .int (nI (i + 1))), (3, .int (nI N)), (0, .ref (ba + k)), (1, .int v)]) g 0 rfl (by rw [nI_succ]; rfl) (by decide) rfl dJ7_fill_53178_14 ?_
          refine c_goto (pc := 17) (tgt := 5) g (by decide) dJ7_fill_53178_17 ?_
          exact ih (i + 1) _ (by omega) rfl _ (Or.inr rfl)
      rcases hlv with rfl | rfl
      · refine c_iload_n (pc := 5) g rfl 1 rfl dJ7_fill_53178_5 ?_
        refine c_iload_n (pc := 6) g rfl 0 rfl dJ7_fill_53178_6 ?_
        refine c_ge_f (pc := 7) (tgt := 20) g (nI_ge hlt hN) (by decide) dJ7_fill_53178_7 ?_
        refine c_aload_n (pc := 10) g rfl 2 rfl dJ7_fill_53178_10 ?_
        refine c_iload_n (pc := 11) g rfl 1 rfl dJ7_fill_53178_11 ?_
        refine c_iload_n (pc := 12) g rfl 3 rfl dJ7_fill_53178_12 ?_
        exact hstep
      · refine c_iload_n (pc := 5) g rfl 0 rfl dJ7_fill_53178_5 ?_
        refine c_iload_n (pc := 6) g rfl 1 rfl dJ7_fill_53178_6 ?_
        refine c_ge_f (pc := 7) (tgt := 20) g (nI_ge hlt hN) (by decide) dJ7_fill_53178_7 ?_
        refine c_aload_n (pc := 10) g rfl 2 rfl dJ7_fill_53178_10 ?_
        refine c_iload_n (pc := 11) g rfl 0 rfl dJ7_fill_53178_11 ?_
        refine c_iload_n (pc := 12) g rfl 3 rfl dJ7_fill_53178_12 ?_
        exact hstep
  have h0 : upE hp k (.inl (cA 1, N, .inl (fun j => if j < 0 then v else f j))) = hp := by
    funext q
    unfold upE
    by_cases h : q = k
    · subst h
      rw [if_pos rfl, he]
      simp
    · rw [if_neg h]
  have := key N 0 0 (by omega) rfl _ (Or.inl rfl)
  rw [h0] at this
  exact this
