theorem cp_nat : Cond.native arraycopyName ∈ TWx := tw_t (tb_2 (List.mem_of_getElem? (i := 164) rfl)) rfl
theorem cp_sta : Cond.static arraycopyName ∈ TWx := tw_t (tb_2 (List.mem_of_getElem? (i := 163) rfl)) rfl
theorem cp_ini : Cond.initialized "java/lang/System" ∈ TWx := tw_t (tb_1 (List.mem_of_getElem? (i := 13) rfl)) rfl
section XR
variable {p : Program} {l : Launch} {e : Env} {R : Room} {s : State} {m : MethodId} {args : Array Value} {below : List Frame} {meth : Method} {c : Code} {D : va_G} {al : Nat → Nat} {cA : Nat → ClassId} {ba nL : Nat} {cc : ByteArray} {own : String} {α : Type} {Qf : α × Sx → State → Prop} {kc ks : Nat} {pc tgt : Nat} {lv lv' : List (Nat × Value)} {st : List Value} {σ : Sx} {K K1 K2 : Option (α × Sx)}
theorem x_iconst (g : GXx p l s m args meth c D al cA ba cc own nL) {n : Int} {v : Int32} (hv : Int32.ofInt n = v) (hd : decode cc pc = .ok (.iconst n, 1)) (kk : XTx p l e R s m args below meth c D al cA ba nL Qf kc ks (pc + 1) (lv) (.int v :: st) (σ) (K)) : XTx p l e R s m args below meth c D al cA ba nL Qf kc ks (pc) (lv) (st) (σ) (K) := fun out ho H locs ls hP hS hl => lv_iconst g.1 g.2.1 hd hv (kk out ho H locs ls hP hS hl)
theorem x_bipush (g : GXx p l s m args meth c D al cA ba cc own nL) {n : Int} {v : Int32} (hv : (Int8.ofInt n).toInt32 = v) (hd : decode cc pc = .ok (.bipush n, 2)) (kk : XTx p l e R s m args below meth c D al cA ba nL Qf kc ks (pc + 2) (lv) (.int v :: st) (σ) (K)) : XTx p l e R s m args below meth c D al cA ba nL Qf kc ks (pc) (lv) (st) (σ) (K) := fun out ho H locs ls hP hS hl => lv_bipush g.1 g.2.1 hd hv (kk out ho H locs ls hP hS hl)
theorem x_sipush (g : GXx p l s m args meth c D al cA ba cc own nL) {n : Int} {v : Int32} (hv : (Int16.ofInt n).toInt32 = v) (hd : decode cc pc = .ok (.sipush n, 3)) (kk : XTx p l e R s m args below meth c D al cA ba nL Qf kc ks (pc + 3) (lv) (.int v :: st) (σ) (K)) : XTx p l e R s m args below meth c D al cA ba nL Qf kc ks (pc) (lv) (st) (σ) (K) := fun out ho H locs ls hP hS hl => lv_sipush g.1 g.2.1 hd hv (kk out ho H locs ls hP hS hl)
theorem x_lconst (g : GXx p l s m args meth c D al cA ba cc own nL) {n : Fin 2} {v : Int64} (hv : Int64.ofNat (n : Nat) = v) (hd : decode cc pc = .ok (.lconst n, 1)) (kk : XTx p l e R s m args below meth c D al cA ba nL Qf kc ks (pc + 1) (lv) (.long v :: st) (σ) (K)) : XTx p l e R s m args below meth c D al cA ba nL Qf kc ks (pc) (lv) (st) (σ) (K) := fun out ho H locs ls hP hS hl => lv_lconst g.1 g.2.1 hd hv (kk out ho H locs ls hP hS hl)
theorem x_iload (g : GXx p l s m args meth c D al cA ba cc own nL) {i : Nat} {x : Int32} (k : Nat) (hk : lv[k]? = some (i, .int x)) (hd : decode cc pc = .ok (.iload i, 2)) (kk : XTx p l e R s m args below meth c D al cA ba nL Qf kc ks (pc + 2) (lv) (.int x :: st) (σ) (K)) : XTx p l e R s m args below meth c D al cA ba nL Qf kc ks (pc) (lv) (st) (σ) (K) := fun out ho H locs ls hP hS hl => lv_iload g.1 g.2.1 hd (lv_at hl k hk) (kk out ho H locs ls hP hS hl)
theorem x_iload_n (g : GXx p l s m args meth c D al cA ba cc own nL) {f : Fin 4} {i : Nat} {x : Int32} (hi : (f : Nat) = i) (k : Nat) (hk : lv[k]? = some (i, .int x)) (hd : decode cc pc = .ok (.iload_n f, 1)) (kk : XTx p l e R s m args below meth c D al cA ba nL Qf kc ks (pc + 1) (lv) (.int x :: st) (σ) (K)) : XTx p l e R s m args below meth c D al cA ba nL Qf kc ks (pc) (lv) (st) (σ) (K) := fun out ho H locs ls hP hS hl => lv_iload_n g.1 g.2.1 hd hi (lv_at hl k hk) (kk out ho H locs ls hP hS hl)
theorem x_lload (g : GXx p l s m args meth c D al cA ba cc own nL) {i : Nat} {x : Int64} (k : Nat) (hk : lv[k]? = some (i, .long x)) (hd : decode cc pc = .ok (.lload i, 2)) (kk : XTx p l e R s m args below meth c D al cA ba nL Qf kc ks (pc + 2) (lv) (.long x :: st) (σ) (K)) : XTx p l e R s m args below meth c D al cA ba nL Qf kc ks (pc) (lv) (st) (σ) (K) := fun out ho H locs ls hP hS hl => lv_lload g.1 g.2.1 hd (lv_at hl k hk) (kk out ho H locs ls hP hS hl)
theorem x_lload_n (g : GXx p l s m args meth c D al cA ba cc own nL) {f : Fin 4} {i : Nat} {x : Int64} (hi : (f : Nat) = i) (k : Nat) (hk : lv[k]? = some (i, .long x)) (hd : decode cc pc = .ok (.lload_n f, 1)) (kk : XTx p l e R s m args below meth c D al cA ba nL Qf kc ks (pc + 1) (lv) (.long x :: st) (σ) (K)) : XTx p l e R s m args below meth c D al cA ba nL Qf kc ks (pc) (lv) (st) (σ) (K) := fun out ho H locs ls hP hS hl => lv_lload_n g.1 g.2.1 hd hi (lv_at hl k hk) (kk out ho H locs ls hP hS hl)
theorem x_aload (g : GXx p l s m args meth c D al cA ba cc own nL) {i : Nat} {x : Nat} (k : Nat) (hk : lv[k]? = some (i, .ref x)) (hd : decode cc pc = .ok (.aload i, 2)) (kk : XTx p l e R s m args below meth c D al cA ba nL Qf kc ks (pc + 2) (lv) (.ref x :: st) (σ) (K)) : XTx p l e R s m args below meth c D al cA ba nL Qf kc ks (pc) (lv) (st) (σ) (K) := fun out ho H locs ls hP hS hl => lv_aload g.1 g.2.1 hd (lv_at hl k hk) (kk out ho H locs ls hP hS hl)
theorem x_aload_n (g : GXx p l s m args meth c D al cA ba cc own nL) {f : Fin 4} {i : Nat} {x : Nat} (hi : (f : Nat) = i) (k : Nat) (hk : lv[k]? = some (i, .ref x)) (hd : decode cc pc = .ok (.aload_n f, 1)) (kk : XTx p l e R s m args below meth c D al cA ba nL Qf kc ks (pc + 1) (lv) (.ref x :: st) (σ) (K)) : XTx p l e R s m args below meth c D al cA ba nL Qf kc ks (pc) (lv) (st) (σ) (K) := fun out ho H locs ls hP hS hl => lv_aload_n g.1 g.2.1 hd hi (lv_at hl k hk) (kk out ho H locs ls hP hS hl)
theorem x_istore (g : GXx p l s m args meth c D al cA ba cc own nL) {i : Nat} {x : Int32} (hn : i < nL) (hf : (i, Value.int x) :: lv.filter (fun q => !(q.1 == i) && !(q.1 + 1 == i && q.2.category == 2)) = lv') (hd : decode cc pc = .ok (.istore i, 2)) (kk : XTx p l e R s m args below meth c D al cA ba nL Qf kc ks (pc + 2) (lv') (st) (σ) (K)) : XTx p l e R s m args below meth c D al cA ba nL Qf kc ks (pc) (lv) (.int x :: st) (σ) (K) := fun out ho H locs ls hP hS hl => lv_istore g.1 g.2.1 hd hl hn hf (fun ls2 hl2 => kk out ho H locs ls2 hP hS hl2)
theorem x_istore_n (g : GXx p l s m args meth c D al cA ba cc own nL) {f : Fin 4} {i : Nat} {x : Int32} (hi : (f : Nat) = i) (hn : i < nL) (hf : (i, Value.int x) :: lv.filter (fun q => !(q.1 == i) && !(q.1 + 1 == i && q.2.category == 2)) = lv') (hd : decode cc pc = .ok (.istore_n f, 1)) (kk : XTx p l e R s m args below meth c D al cA ba nL Qf kc ks (pc + 1) (lv') (st) (σ) (K)) : XTx p l e R s m args below meth c D al cA ba nL Qf kc ks (pc) (lv) (.int x :: st) (σ) (K) := fun out ho H locs ls hP hS hl => lv_istore_n g.1 g.2.1 hd hi hl hn hf (fun ls2 hl2 => kk out ho H locs ls2 hP hS hl2)
theorem x_astore (g : GXx p l s m args meth c D al cA ba cc own nL) {i : Nat} {x : Nat} (hn : i < nL) (hf : (i, Value.ref x) :: lv.filter (fun q => !(q.1 == i) && !(q.1 + 1 == i && q.2.category == 2)) = lv') (hd : decode cc pc = .ok (.astore i, 2)) (kk : XTx p l e R s m args below meth c D al cA ba nL Qf kc ks (pc + 2) (lv') (st) (σ) (K)) : XTx p l e R s m args below meth c D al cA ba nL Qf kc ks (pc) (lv) (.ref x :: st) (σ) (K) := fun out ho H locs ls hP hS hl => lv_astore g.1 g.2.1 hd hl hn hf (fun ls2 hl2 => kk out ho H locs ls2 hP hS hl2)
theorem x_astore_n (g : GXx p l s m args meth c D al cA ba cc own nL) {f : Fin 4} {i : Nat} {x : Nat} (hi : (f : Nat) = i) (hn : i < nL) (hf : (i, Value.ref x) :: lv.filter (fun q => !(q.1 == i) && !(q.1 + 1 == i && q.2.category == 2)) = lv') (hd : decode cc pc = .ok (.astore_n f, 1)) (kk : XTx p l e R s m args below meth c D al cA ba nL Qf kc ks (pc + 1) (lv') (st) (σ) (K)) : XTx p l e R s m args below meth c D al cA ba nL Qf kc ks (pc) (lv) (.ref x :: st) (σ) (K) := fun out ho H locs ls hP hS hl => lv_astore_n g.1 g.2.1 hd hi hl hn hf (fun ls2 hl2 => kk out ho H locs ls2 hP hS hl2)
theorem x_iinc (g : GXx p l s m args meth c D al cA ba cc own nL) {i : Nat} {n : Int} {x v : Int32} (k : Nat) (hk : lv[k]? = some (i, .int x)) (hv : x + Int32.ofInt n = v) (hn : i < nL) (hf : (i, Value.int v) :: lv.filter (fun q => !(q.1 == i) && !(q.1 + 1 == i && q.2.category == 2)) = lv') (hd : decode cc pc = .ok (.iinc i n, 3)) (kk : XTx p l e R s m args below meth c D al cA ba nL Qf kc ks (pc + 3) (lv') (st) (σ) (K)) : XTx p l e R s m args below meth c D al cA ba nL Qf kc ks (pc) (lv) (st) (σ) (K) := fun out ho H locs ls hP hS hl => lv_iinc g.1 g.2.1 hd hl hk hv hn hf (fun ls2 hl2 => kk out ho H locs ls2 hP hS hl2)
def jrem (x y : Int32) : Int32 := x - x / y * y
def jshl (x y : Int32) : Int32 := x <<< (y &&& 31)
def jshr (x y : Int32) : Int32 := x >>> (y &&& 31)
def jushr (x y : Int32) : Int32 := (x.toUInt32 >>> (y.toUInt32 &&& Int32.toUInt32 31)).toInt32
def jlshl (x : Int64) (y : Int32) : Int64 := x <<< (y.toInt64 &&& 63)
theorem x_iadd (g : GXx p l s m args meth c D al cA ba cc own nL) {x y : Int32} (hd : decode cc pc = .ok (.iadd, 1)) (kk : XTx p l e R s m args below meth c D al cA ba nL Qf kc ks (pc + 1) (lv) (.int (x + y) :: st) (σ) (K)) : XTx p l e R s m args below meth c D al cA ba nL Qf kc ks (pc) (lv) (.int y :: .int x :: st) (σ) (K) := fun out ho H locs ls hP hS hl => lv_iadd g.1 g.2.1 hd (kk out ho H locs ls hP hS hl)
theorem x_isub (g : GXx p l s m args meth c D al cA ba cc own nL) {x y : Int32} (hd : decode cc pc = .ok (.isub, 1)) (kk : XTx p l e R s m args below meth c D al cA ba nL Qf kc ks (pc + 1) (lv) (.int (x - y) :: st) (σ) (K)) : XTx p l e R s m args below meth c D al cA ba nL Qf kc ks (pc) (lv) (.int y :: .int x :: st) (σ) (K) := fun out ho H locs ls hP hS hl => lv_isub g.1 g.2.1 hd (kk out ho H locs ls hP hS hl)
theorem x_imul (g : GXx p l s m args meth c D al cA ba cc own nL) {x y : Int32} (hd : decode cc pc = .ok (.imul, 1)) (kk : XTx p l e R s m args below meth c D al cA ba nL Qf kc ks (pc + 1) (lv) (.int (x * y) :: st) (σ) (K)) : XTx p l e R s m args below meth c D al cA ba nL Qf kc ks (pc) (lv) (.int y :: .int x :: st) (σ) (K) := fun out ho H locs ls hP hS hl => lv_imul g.1 g.2.1 hd (kk out ho H locs ls hP hS hl)
theorem x_iand (g : GXx p l s m args meth c D al cA ba cc own nL) {x y : Int32} (hd : decode cc pc = .ok (.iand, 1)) (kk : XTx p l e R s m args below meth c D al cA ba nL Qf kc ks (pc + 1) (lv) (.int (x &&& y) :: st) (σ) (K)) : XTx p l e R s m args below meth c D al cA ba nL Qf kc ks (pc) (lv) (.int y :: .int x :: st) (σ) (K) := fun out ho H locs ls hP hS hl => lv_iand g.1 g.2.1 hd (kk out ho H locs ls hP hS hl)
theorem x_ior (g : GXx p l s m args meth c D al cA ba cc own nL) {x y : Int32} (hd : decode cc pc = .ok (.ior, 1)) (kk : XTx p l e R s m args below meth c D al cA ba nL Qf kc ks (pc + 1) (lv) (.int (x ||| y) :: st) (σ) (K)) : XTx p l e R s m args below meth c D al cA ba nL Qf kc ks (pc) (lv) (.int y :: .int x :: st) (σ) (K) := fun out ho H locs ls hP hS hl => lv_ior g.1 g.2.1 hd (kk out ho H locs ls hP hS hl)
theorem x_ixor (g : GXx p l s m args meth c D al cA ba cc own nL) {x y : Int32} (hd : decode cc pc = .ok (.ixor, 1)) (kk : XTx p l e R s m args below meth c D al cA ba nL Qf kc ks (pc + 1) (lv) (.int (x ^^^ y) :: st) (σ) (K)) : XTx p l e R s m args below meth c D al cA ba nL Qf kc ks (pc) (lv) (.int y :: .int x :: st) (σ) (K) := fun out ho H locs ls hP hS hl => lv_ixor g.1 g.2.1 hd (kk out ho H locs ls hP hS hl)
theorem x_ishl (g : GXx p l s m args meth c D al cA ba cc own nL) {x y : Int32} (hd : decode cc pc = .ok (.ishl, 1)) (kk : XTx p l e R s m args below meth c D al cA ba nL Qf kc ks (pc + 1) (lv) (.int (jshl x y) :: st) (σ) (K)) : XTx p l e R s m args below meth c D al cA ba nL Qf kc ks (pc) (lv) (.int y :: .int x :: st) (σ) (K) := fun out ho H locs ls hP hS hl => lv_ishl g.1 g.2.1 hd (kk out ho H locs ls hP hS hl)
theorem x_ishr (g : GXx p l s m args meth c D al cA ba cc own nL) {x y : Int32} (hd : decode cc pc = .ok (.ishr, 1)) (kk : XTx p l e R s m args below meth c D al cA ba nL Qf kc ks (pc + 1) (lv) (.int (jshr x y) :: st) (σ) (K)) : XTx p l e R s m args below meth c D al cA ba nL Qf kc ks (pc) (lv) (.int y :: .int x :: st) (σ) (K) := fun out ho H locs ls hP hS hl => lv_ishr g.1 g.2.1 hd (kk out ho H locs ls hP hS hl)
theorem x_iushr (g : GXx p l s m args meth c D al cA ba cc own nL) {x y : Int32} (hd : decode cc pc = .ok (.iushr, 1)) (kk : XTx p l e R s m args below meth c D al cA ba nL Qf kc ks (pc + 1) (lv) (.int (jushr x y) :: st) (σ) (K)) : XTx p l e R s m args below meth c D al cA ba nL Qf kc ks (pc) (lv) (.int y :: .int x :: st) (σ) (K) := fun out ho H locs ls hP hS hl => lv_iushr g.1 g.2.1 hd rfl (kk out ho H locs ls hP hS hl)
theorem x_idiv (g : GXx p l s m args meth c D al cA ba cc own nL) {x y : Int32} (hne : ¬ y = 0) (hd : decode cc pc = .ok (.idiv, 1)) (kk : XTx p l e R s m args below meth c D al cA ba nL Qf kc ks (pc + 1) (lv) (.int (x / y) :: st) (σ) (K)) : XTx p l e R s m args below meth c D al cA ba nL Qf kc ks (pc) (lv) (.int y :: .int x :: st) (σ) (K) := fun out ho H locs ls hP hS hl => lv_idiv g.1 g.2.1 hd hne (kk out ho H locs ls hP hS hl)
theorem x_irem (g : GXx p l s m args meth c D al cA ba cc own nL) {x y : Int32} (hne : ¬ y = 0) (hd : decode cc pc = .ok (.irem, 1)) (kk : XTx p l e R s m args below meth c D al cA ba nL Qf kc ks (pc + 1) (lv) (.int (jrem x y) :: st) (σ) (K)) : XTx p l e R s m args below meth c D al cA ba nL Qf kc ks (pc) (lv) (.int y :: .int x :: st) (σ) (K) := fun out ho H locs ls hP hS hl => lv_irem g.1 g.2.1 hd hne (kk out ho H locs ls hP hS hl)
theorem x_ineg (g : GXx p l s m args meth c D al cA ba cc own nL) {x : Int32} (hd : decode cc pc = .ok (.ineg, 1)) (kk : XTx p l e R s m args below meth c D al cA ba nL Qf kc ks (pc + 1) (lv) (.int (-x) :: st) (σ) (K)) : XTx p l e R s m args below meth c D al cA ba nL Qf kc ks (pc) (lv) (.int x :: st) (σ) (K) := fun out ho H locs ls hP hS hl => lv_ineg g.1 g.2.1 hd (kk out ho H locs ls hP hS hl)
theorem x_land (g : GXx p l s m args meth c D al cA ba cc own nL) {x y : Int64} (hd : decode cc pc = .ok (.land, 1)) (kk : XTx p l e R s m args below meth c D al cA ba nL Qf kc ks (pc + 1) (lv) (.long (x &&& y) :: st) (σ) (K)) : XTx p l e R s m args below meth c D al cA ba nL Qf kc ks (pc) (lv) (.long y :: .long x :: st) (σ) (K) := fun out ho H locs ls hP hS hl => lv_land g.1 g.2.1 hd (kk out ho H locs ls hP hS hl)
theorem x_lor (g : GXx p l s m args meth c D al cA ba cc own nL) {x y : Int64} (hd : decode cc pc = .ok (.lor, 1)) (kk : XTx p l e R s m args below meth c D al cA ba nL Qf kc ks (pc + 1) (lv) (.long (x ||| y) :: st) (σ) (K)) : XTx p l e R s m args below meth c D al cA ba nL Qf kc ks (pc) (lv) (.long y :: .long x :: st) (σ) (K) := fun out ho H locs ls hP hS hl => lv_lor g.1 g.2.1 hd (kk out ho H locs ls hP hS hl)
theorem x_lshl (g : GXx p l s m args meth c D al cA ba cc own nL) {x : Int64} {y : Int32} (hd : decode cc pc = .ok (.lshl, 1)) (kk : XTx p l e R s m args below meth c D al cA ba nL Qf kc ks (pc + 1) (lv) (.long (jlshl x y) :: st) (σ) (K)) : XTx p l e R s m args below meth c D al cA ba nL Qf kc ks (pc) (lv) (.int y :: .long x :: st) (σ) (K) := fun out ho H locs ls hP hS hl => lv_lshl g.1 g.2.1 hd rfl (kk out ho H locs ls hP hS hl)
theorem x_i2l (g : GXx p l s m args meth c D al cA ba cc own nL) {x : Int32} (hd : decode cc pc = .ok (.i2l, 1)) (kk : XTx p l e R s m args below meth c D al cA ba nL Qf kc ks (pc + 1) (lv) (.long x.toInt64 :: st) (σ) (K)) : XTx p l e R s m args below meth c D al cA ba nL Qf kc ks (pc) (lv) (.int x :: st) (σ) (K) := fun out ho H locs ls hP hS hl => lv_i2l g.1 g.2.1 hd rfl (kk out ho H locs ls hP hS hl)
theorem x_l2i (g : GXx p l s m args meth c D al cA ba cc own nL) {x : Int64} (hd : decode cc pc = .ok (.l2i, 1)) (kk : XTx p l e R s m args below meth c D al cA ba nL Qf kc ks (pc + 1) (lv) (.int x.toInt32 :: st) (σ) (K)) : XTx p l e R s m args below meth c D al cA ba nL Qf kc ks (pc) (lv) (.long x :: st) (σ) (K) := fun out ho H locs ls hP hS hl => lv_l2i g.1 g.2.1 hd rfl (kk out ho H locs ls hP hS hl)
theorem x_i2b (g : GXx p l s m args meth c D al cA ba cc own nL) {x : Int32} (hd : decode cc pc = .ok (.i2b, 1)) (kk : XTx p l e R s m args below meth c D al cA ba nL Qf kc ks (pc + 1) (lv) (.int x.toInt8.toInt32 :: st) (σ) (K)) : XTx p l e R s m args below meth c D al cA ba nL Qf kc ks (pc) (lv) (.int x :: st) (σ) (K) := fun out ho H locs ls hP hS hl => lv_i2b g.1 g.2.1 hd rfl (kk out ho H locs ls hP hS hl)
theorem x_i2s (g : GXx p l s m args meth c D al cA ba cc own nL) {x : Int32} (hd : decode cc pc = .ok (.i2s, 1)) (kk : XTx p l e R s m args below meth c D al cA ba nL Qf kc ks (pc + 1) (lv) (.int x.toInt16.toInt32 :: st) (σ) (K)) : XTx p l e R s m args below meth c D al cA ba nL Qf kc ks (pc) (lv) (.int x :: st) (σ) (K) := fun out ho H locs ls hP hS hl => lv_i2s g.1 g.2.1 hd rfl (kk out ho H locs ls hP hS hl)
theorem x_lcmp (g : GXx p l s m args meth c D al cA ba cc own nL) {x y : Int64} (hd : decode cc pc = .ok (.lcmp, 1)) (kk : XTx p l e R s m args below meth c D al cA ba nL Qf kc ks (pc + 1) (lv) (.int (lg_cmp x y) :: st) (σ) (K)) : XTx p l e R s m args below meth c D al cA ba nL Qf kc ks (pc) (lv) (.long y :: .long x :: st) (σ) (K) := fun out ho H locs ls hP hS hl => W.lcmp g.1 g.2.1 hd (kk out ho H locs ls hP hS hl)
theorem x_dup (g : GXx p l s m args meth c D al cA ba cc own nL) {va : Value} (hva : va.category = 1) (hd : decode cc pc = .ok (.dup, 1)) (kk : XTx p l e R s m args below meth c D al cA ba nL Qf kc ks (pc + 1) (lv) (va :: va :: st) (σ) (K)) : XTx p l e R s m args below meth c D al cA ba nL Qf kc ks (pc) (lv) (va :: st) (σ) (K) := fun out ho H locs ls hP hS hl => lv_dup g.1 g.2.1 hd hva (kk out ho H locs ls hP hS hl)
theorem x_pop (g : GXx p l s m args meth c D al cA ba cc own nL) {va : Value} (hva : va.category = 1) (hd : decode cc pc = .ok (.pop, 1)) (kk : XTx p l e R s m args below meth c D al cA ba nL Qf kc ks (pc + 1) (lv) (st) (σ) (K)) : XTx p l e R s m args below meth c D al cA ba nL Qf kc ks (pc) (lv) (va :: st) (σ) (K) := fun out ho H locs ls hP hS hl => lv_pop g.1 g.2.1 hd hva (kk out ho H locs ls hP hS hl)
theorem x_dup2 (g : GXx p l s m args meth c D al cA ba cc own nL) {va vb : Value} (hva : va.category = 1) (hvb : vb.category = 1) (hd : decode cc pc = .ok (.dup2, 1)) (kk : XTx p l e R s m args below meth c D al cA ba nL Qf kc ks (pc + 1) (lv) (va :: vb :: va :: vb :: st) (σ) (K)) : XTx p l e R s m args below meth c D al cA ba nL Qf kc ks (pc) (lv) (va :: vb :: st) (σ) (K) := fun out ho H locs ls hP hS hl => lv_dup2_11 g.1 g.2.1 hd hva hvb (kk out ho H locs ls hP hS hl)
theorem x_ldc (g : GXx p l s m args meth c D al cA ba cc own nL) {index : Nat} {v : Int32} (hw : Cond.constant own index v ∈ TWx) (hd : decode cc pc = .ok (.ldc index, 2)) (kk : XTx p l e R s m args below meth c D al cA ba nL Qf kc ks (pc + 2) (lv) (.int v :: st) (σ) (K)) : XTx p l e R s m args below meth c D al cA ba nL Qf kc ks (pc) (lv) (st) (σ) (K) := fun out ho H locs ls hP hS hl => lv_ldc g.1 g.2.1 g.2.2.2.1 (g.2.2.2.2.1 _ hw) hd (kk out ho H locs ls hP hS hl)
theorem x_ldcw (g : GXx p l s m args meth c D al cA ba cc own nL) {index : Nat} {v : Int32} (hw : Cond.constant own index v ∈ TWx) (hd : decode cc pc = .ok (.ldc_w index, 3)) (kk : XTx p l e R s m args below meth c D al cA ba nL Qf kc ks (pc + 3) (lv) (.int v :: st) (σ) (K)) : XTx p l e R s m args below meth c D al cA ba nL Qf kc ks (pc) (lv) (st) (σ) (K) := fun out ho H locs ls hP hS hl => lv_ldcw g.1 g.2.1 g.2.2.2.1 (g.2.2.2.2.1 _ hw) hd (kk out ho H locs ls hP hS hl)
theorem x_ldc2 (g : GXx p l s m args meth c D al cA ba cc own nL) {index : Nat} {v : Int64} (hw : Cond.constantLong own index v ∈ TWx) (hd : decode cc pc = .ok (.ldc2_w index, 3)) (kk : XTx p l e R s m args below meth c D al cA ba nL Qf kc ks (pc + 3) (lv) (.long v :: st) (σ) (K)) : XTx p l e R s m args below meth c D al cA ba nL Qf kc ks (pc) (lv) (st) (σ) (K) := fun out ho H locs ls hP hS hl => lv_ldc2 g.1 g.2.1 g.2.2.2.1 (g.2.2.2.2.1 _ hw) hd (kk out ho H locs ls hP hS hl)
theorem x_goto (g : GXx p l s m args meth c D al cA ba cc own nL) {off : Int} (ht : (pc : Int) + off = (tgt : Int)) (hd : decode cc pc = .ok (.goto off, 3)) (kk : XTx p l e R s m args below meth c D al cA ba nL Qf kc ks (tgt) (lv) (st) (σ) (K)) : XTx p l e R s m args below meth c D al cA ba nL Qf kc ks (pc) (lv) (st) (σ) (K) := fun out ho H locs ls hP hS hl => lv_goto g.1 g.2.1 hd ht (kk out ho H locs ls hP hS hl)
theorem x_icmp_eq (g : GXx p l s m args meth c D al cA ba cc own nL) {x y : Int32} {off : Int} (ht : (pc : Int) + off = (tgt : Int)) (hd : decode cc pc = .ok (.if_icmp .eq off, 3)) (k1 : XTx p l e R s m args below meth c D al cA ba nL Qf kc ks (tgt) (lv) (st) (σ) (K1)) (k2 : XTx p l e R s m args below meth c D al cA ba nL Qf kc ks (pc + 3) (lv) (st) (σ) (K2)) : XTx p l e R s m args below meth c D al cA ba nL Qf kc ks (pc) (lv) (.int y :: .int x :: st) (σ) (if x = y then K1 else K2) := fun out ho H locs ls hP hS hl => lv_icmp_eq g.1 g.2.1 hd ht (fun h => k1 out ((if_pos h).symm.trans ho) H locs ls hP hS hl) (fun h => k2 out ((if_neg h).symm.trans ho) H locs ls hP hS hl)
theorem x_icmp_ne (g : GXx p l s m args meth c D al cA ba cc own nL) {x y : Int32} {off : Int} (ht : (pc : Int) + off = (tgt : Int)) (hd : decode cc pc = .ok (.if_icmp .ne off, 3)) (k1 : XTx p l e R s m args below meth c D al cA ba nL Qf kc ks (tgt) (lv) (st) (σ) (K2)) (k2 : XTx p l e R s m args below meth c D al cA ba nL Qf kc ks (pc + 3) (lv) (st) (σ) (K1)) : XTx p l e R s m args below meth c D al cA ba nL Qf kc ks (pc) (lv) (.int y :: .int x :: st) (σ) (if x = y then K1 else K2) := fun out ho H locs ls hP hS hl => lv_icmp_ne g.1 g.2.1 hd ht (fun h => k1 out ((if_neg h).symm.trans ho) H locs ls hP hS hl) (fun h => k2 out ((if_pos h).symm.trans ho) H locs ls hP hS hl)
theorem x_icmp_lt (g : GXx p l s m args meth c D al cA ba cc own nL) {x y : Int32} {off : Int} (ht : (pc : Int) + off = (tgt : Int)) (hd : decode cc pc = .ok (.if_icmp .lt off, 3)) (k1 : XTx p l e R s m args below meth c D al cA ba nL Qf kc ks (tgt) (lv) (st) (σ) (K1)) (k2 : XTx p l e R s m args below meth c D al cA ba nL Qf kc ks (pc + 3) (lv) (st) (σ) (K2)) : XTx p l e R s m args below meth c D al cA ba nL Qf kc ks (pc) (lv) (.int y :: .int x :: st) (σ) (if x < y then K1 else K2) := fun out ho H locs ls hP hS hl => lv_icmp_lt g.1 g.2.1 hd ht (fun h => k1 out ((if_pos h).symm.trans ho) H locs ls hP hS hl) (fun h => k2 out ((if_neg h).symm.trans ho) H locs ls hP hS hl)
theorem x_icmp_ge (g : GXx p l s m args meth c D al cA ba cc own nL) {x y : Int32} {off : Int} (ht : (pc : Int) + off = (tgt : Int)) (hd : decode cc pc = .ok (.if_icmp .ge off, 3)) (k1 : XTx p l e R s m args below meth c D al cA ba nL Qf kc ks (tgt) (lv) (st) (σ) (K1)) (k2 : XTx p l e R s m args below meth c D al cA ba nL Qf kc ks (pc + 3) (lv) (st) (σ) (K2)) : XTx p l e R s m args below meth c D al cA ba nL Qf kc ks (pc) (lv) (.int y :: .int x :: st) (σ) (if y ≤ x then K1 else K2) := fun out ho H locs ls hP hS hl => lv_icmp_ge g.1 g.2.1 hd ht (fun h => k1 out ((if_pos h).symm.trans ho) H locs ls hP hS hl) (fun h => k2 out ((if_neg h).symm.trans ho) H locs ls hP hS hl)
theorem x_icmp_gt (g : GXx p l s m args meth c D al cA ba cc own nL) {x y : Int32} {off : Int} (ht : (pc : Int) + off = (tgt : Int)) (hd : decode cc pc = .ok (.if_icmp .gt off, 3)) (k1 : XTx p l e R s m args below meth c D al cA ba nL Qf kc ks (tgt) (lv) (st) (σ) (K1)) (k2 : XTx p l e R s m args below meth c D al cA ba nL Qf kc ks (pc + 3) (lv) (st) (σ) (K2)) : XTx p l e R s m args below meth c D al cA ba nL Qf kc ks (pc) (lv) (.int y :: .int x :: st) (σ) (if y < x then K1 else K2) := fun out ho H locs ls hP hS hl => lv_icmp_gt g.1 g.2.1 hd ht (fun h => k1 out ((if_pos h).symm.trans ho) H locs ls hP hS hl) (fun h => k2 out ((if_neg h).symm.trans ho) H locs ls hP hS hl)
theorem x_icmp_le (g : GXx p l s m args meth c D al cA ba cc own nL) {x y : Int32} {off : Int} (ht : (pc : Int) + off = (tgt : Int)) (hd : decode cc pc = .ok (.if_icmp .le off, 3)) (k1 : XTx p l e R s m args below meth c D al cA ba nL Qf kc ks (tgt) (lv) (st) (σ) (K1)) (k2 : XTx p l e R s m args below meth c D al cA ba nL Qf kc ks (pc + 3) (lv) (st) (σ) (K2)) : XTx p l e R s m args below meth c D al cA ba nL Qf kc ks (pc) (lv) (.int y :: .int x :: st) (σ) (if x ≤ y then K1 else K2) := fun out ho H locs ls hP hS hl => lv_icmp_le g.1 g.2.1 hd ht (fun h => k1 out ((if_pos h).symm.trans ho) H locs ls hP hS hl) (fun h => k2 out ((if_neg h).symm.trans ho) H locs ls hP hS hl)
theorem x_if_eq (g : GXx p l s m args meth c D al cA ba cc own nL) {x : Int32} {off : Int} (ht : (pc : Int) + off = (tgt : Int)) (hd : decode cc pc = .ok (.ifCond .eq off, 3)) (k1 : XTx p l e R s m args below meth c D al cA ba nL Qf kc ks (tgt) (lv) (st) (σ) (K1)) (k2 : XTx p l e R s m args below meth c D al cA ba nL Qf kc ks (pc + 3) (lv) (st) (σ) (K2)) : XTx p l e R s m args below meth c D al cA ba nL Qf kc ks (pc) (lv) (.int x :: st) (σ) (if x = 0 then K1 else K2) := fun out ho H locs ls hP hS hl => lv_if_eq g.1 g.2.1 hd ht (fun h => k1 out ((if_pos h).symm.trans ho) H locs ls hP hS hl) (fun h => k2 out ((if_neg h).symm.trans ho) H locs ls hP hS hl)
theorem x_if_ne (g : GXx p l s m args meth c D al cA ba cc own nL) {x : Int32} {off : Int} (ht : (pc : Int) + off = (tgt : Int)) (hd : decode cc pc = .ok (.ifCond .ne off, 3)) (k1 : XTx p l e R s m args below meth c D al cA ba nL Qf kc ks (tgt) (lv) (st) (σ) (K2)) (k2 : XTx p l e R s m args below meth c D al cA ba nL Qf kc ks (pc + 3) (lv) (st) (σ) (K1)) : XTx p l e R s m args below meth c D al cA ba nL Qf kc ks (pc) (lv) (.int x :: st) (σ) (if x = 0 then K1 else K2) := fun out ho H locs ls hP hS hl => lv_if_ne g.1 g.2.1 hd ht (fun h => k1 out ((if_neg h).symm.trans ho) H locs ls hP hS hl) (fun h => k2 out ((if_pos h).symm.trans ho) H locs ls hP hS hl)
theorem x_if_lt (g : GXx p l s m args meth c D al cA ba cc own nL) {x : Int32} {off : Int} (ht : (pc : Int) + off = (tgt : Int)) (hd : decode cc pc = .ok (.ifCond .lt off, 3)) (k1 : XTx p l e R s m args below meth c D al cA ba nL Qf kc ks (tgt) (lv) (st) (σ) (K1)) (k2 : XTx p l e R s m args below meth c D al cA ba nL Qf kc ks (pc + 3) (lv) (st) (σ) (K2)) : XTx p l e R s m args below meth c D al cA ba nL Qf kc ks (pc) (lv) (.int x :: st) (σ) (if x < 0 then K1 else K2) := fun out ho H locs ls hP hS hl => lv_if_lt g.1 g.2.1 hd ht (fun h => k1 out ((if_pos h).symm.trans ho) H locs ls hP hS hl) (fun h => k2 out ((if_neg h).symm.trans ho) H locs ls hP hS hl)
theorem x_if_ge (g : GXx p l s m args meth c D al cA ba cc own nL) {x : Int32} {off : Int} (ht : (pc : Int) + off = (tgt : Int)) (hd : decode cc pc = .ok (.ifCond .ge off, 3)) (k1 : XTx p l e R s m args below meth c D al cA ba nL Qf kc ks (tgt) (lv) (st) (σ) (K1)) (k2 : XTx p l e R s m args below meth c D al cA ba nL Qf kc ks (pc + 3) (lv) (st) (σ) (K2)) : XTx p l e R s m args below meth c D al cA ba nL Qf kc ks (pc) (lv) (.int x :: st) (σ) (if 0 ≤ x then K1 else K2) := fun out ho H locs ls hP hS hl => lv_if_ge g.1 g.2.1 hd ht (fun h => k1 out ((if_pos h).symm.trans ho) H locs ls hP hS hl) (fun h => k2 out ((if_neg h).symm.trans ho) H locs ls hP hS hl)
theorem x_if_gt (g : GXx p l s m args meth c D al cA ba cc own nL) {x : Int32} {off : Int} (ht : (pc : Int) + off = (tgt : Int)) (hd : decode cc pc = .ok (.ifCond .gt off, 3)) (k1 : XTx p l e R s m args below meth c D al cA ba nL Qf kc ks (tgt) (lv) (st) (σ) (K1)) (k2 : XTx p l e R s m args below meth c D al cA ba nL Qf kc ks (pc + 3) (lv) (st) (σ) (K2)) : XTx p l e R s m args below meth c D al cA ba nL Qf kc ks (pc) (lv) (.int x :: st) (σ) (if 0 < x then K1 else K2) := fun out ho H locs ls hP hS hl => lv_if_gt g.1 g.2.1 hd ht (fun h => k1 out ((if_pos h).symm.trans ho) H locs ls hP hS hl) (fun h => k2 out ((if_neg h).symm.trans ho) H locs ls hP hS hl)
theorem x_if_le (g : GXx p l s m args meth c D al cA ba cc own nL) {x : Int32} {off : Int} (ht : (pc : Int) + off = (tgt : Int)) (hd : decode cc pc = .ok (.ifCond .le off, 3)) (k1 : XTx p l e R s m args below meth c D al cA ba nL Qf kc ks (tgt) (lv) (st) (σ) (K1)) (k2 : XTx p l e R s m args below meth c D al cA ba nL Qf kc ks (pc + 3) (lv) (st) (σ) (K2)) : XTx p l e R s m args below meth c D al cA ba nL Qf kc ks (pc) (lv) (.int x :: st) (σ) (if x ≤ 0 then K1 else K2) := fun out ho H locs ls hP hS hl => lv_if_le g.1 g.2.1 hd ht (fun h => k1 out ((if_pos h).symm.trans ho) H locs ls hP hS hl) (fun h => k2 out ((if_neg h).symm.trans ho) H locs ls hP hS hl)
def nmx {α β : Type} (v : β) (K : β → Option α) : Option α := K v
theorem x_nm {x : Int32} {Kf : Int32 → Option (α × Sx)} (kk : ∀ v : Int32, XTx p l e R s m args below meth c D al cA ba nL Qf kc ks (pc) (lv) (.int v :: st) (σ) (Kf v)) : XTx p l e R s m args below meth c D al cA ba nL Qf kc ks (pc) (lv) (.int x :: st) (σ) (nmx x Kf) := kk x
theorem x_nmS {Kf : Sx → Option (α × Sx)} (kk : ∀ σ : Sx, XTx p l e R s m args below meth c D al cA ba nL Qf kc ks (pc) (lv) (st) (σ) (Kf σ)) : XTx p l e R s m args below meth c D al cA ba nL Qf kc ks (pc) (lv) (st) (σ) (nmx σ Kf) := kk σ
theorem x_lv (pl : List Nat) (hf : lv_pick lv pl = lv') (kk : XTx p l e R s m args below meth c D al cA ba nL Qf kc ks (pc) (lv') (st) (σ) (K)) : XTx p l e R s m args below meth c D al cA ba nL Qf kc ks (pc) (lv) (st) (σ) (K) := fun out ho H locs ls hP hS hl => kk out ho H locs ls hP hS (lv_sub hl pl hf)
def gdx {α : Type} (P : Prop) [Decidable P] (K : Option α) : Option α := if P then K else none
theorem x_gd {P : Prop} [Decidable P] (kk : P → XTx p l e R s m args below meth c D al cA ba nL Qf kc ks (pc) (lv) (st) (σ) (K)) : XTx p l e R s m args below meth c D al cA ba nL Qf kc ks (pc) (lv) (st) (σ) (gdx P K) := fun out ho => by
  unfold gdx at ho
  by_cases h : P
  · rw [if_pos h] at ho
    exact kk h out ho
  · rw [if_neg h] at ho
    cases ho
def aIx {α : Type} (i n : Nat) (j : Int32) (σ : Sx) (K : Int32 → Option α) : Option α := if 0 ≤ j ∧ j < Int32.ofNat n then K (siI σ i j.toNatClampNeg) else none
def aLx {α : Type} (i n : Nat) (j : Int32) (σ : Sx) (K : Int64 → Option α) : Option α := if 0 ≤ j ∧ j < Int32.ofNat n then K (siL σ i j.toNatClampNeg) else none
def aRx {α : Type} (n : Nat) (j : Int32) (K : Nat → Option α) : Option α := if 0 ≤ j ∧ j < Int32.ofNat n then K j.toNatClampNeg else none
def sIx {α : Type} (i n : Nat) (j v : Int32) (σ : Sx) (K : Sx → Option α) : Option α := if 0 ≤ j ∧ j < Int32.ofNat n then K (upI σ i j.toNatClampNeg v) else none
def sLx {α : Type} (i n : Nat) (j : Int32) (v : Int64) (σ : Sx) (K : Sx → Option α) : Option α := if 0 ≤ j ∧ j < Int32.ofNat n then K (upL σ i j.toNatClampNeg v) else none
theorem vpx {j : Int32} {n : Nat} (hn : n < 2 ^ 31) (h : 0 ≤ j ∧ j < Int32.ofNat n) : vp_in j n := by
  rw [vp_in_iff]
  have h1 := Int32.le_iff_toInt_le.mp h.1
  have h2 := Int32.lt_iff_toInt_lt.mp h.2
  have h3 : (Int32.ofNat n).toInt = (n : Int) := nI_toInt hn
  rw [h3] at h2
  exact ⟨h1, h2⟩
theorem vpx_lt {j : Int32} {n : Nat} (h : vp_in j n) : j.toNatClampNeg < n := Nat.not_le.mp fun q => h (Or.inr q)
theorem x_iald (g : GXx p l s m args meth c D al cA ba cc own nL) {i n : Nat} {r : List (Option Nat)} {j : Int32} {Kf : Int32 → Option (α × Sx)} (hs : shL[i]? = some (1, n, r)) (hn : n < 2 ^ 31) (hd : decode cc pc = .ok (.iaload, 1)) (kk : ∀ v : Int32, XTx p l e R s m args below meth c D al cA ba nL Qf kc ks (pc + 1) (lv) (.int v :: st) (σ) (Kf v)) : XTx p l e R s m args below meth c D al cA ba nL Qf kc ks (pc) (lv) (.int j :: .ref (al i) :: st) (σ) (aIx i n j σ Kf) := fun out ho H locs ls hP hS hl => by
  unfold aIx at ho
  by_cases h : 0 ≤ j ∧ j < Int32.ofNat n
  · rw [if_pos h] at ho
    exact va_iald g.1 g.2.1 g.2.2.2.2.2.1 hP i 0 (wlx_at hs) rfl (vpx hn h) hd (kk _ out ho H locs ls hP hS hl)
  · rw [if_neg h] at ho
    cases ho
theorem x_lald (g : GXx p l s m args meth c D al cA ba cc own nL) {i n : Nat} {r : List (Option Nat)} {j : Int32} {Kf : Int64 → Option (α × Sx)} (hs : shL[i]? = some (2, n, r)) (hn : n < 2 ^ 31) (hd : decode cc pc = .ok (.laload, 1)) (kk : ∀ v : Int64, XTx p l e R s m args below meth c D al cA ba nL Qf kc ks (pc + 1) (lv) (.long v :: st) (σ) (Kf v)) : XTx p l e R s m args below meth c D al cA ba nL Qf kc ks (pc) (lv) (.int j :: .ref (al i) :: st) (σ) (aLx i n j σ Kf) := fun out ho H locs ls hP hS hl => by
  unfold aLx at ho
  by_cases h : 0 ≤ j ∧ j < Int32.ofNat n
  · rw [if_pos h] at ho
    exact va_lald g.1 g.2.1 g.2.2.2.2.2.1 hP i 1 (wlx_at hs) rfl (vpx hn h) hd (kk _ out ho H locs ls hP hS hl)
  · rw [if_neg h] at ho
    cases ho
theorem x_bald (g : GXx p l s m args meth c D al cA ba cc own nL) {i n : Nat} {r : List (Option Nat)} {j : Int32} {Kf : Int32 → Option (α × Sx)} (hs : shL[i]? = some (3, n, r)) (hn : n < 2 ^ 31) (hd : decode cc pc = .ok (.baload, 1)) (kk : ∀ v : Int32, XTx p l e R s m args below meth c D al cA ba nL Qf kc ks (pc + 1) (lv) (.int v :: st) (σ) (Kf v)) : XTx p l e R s m args below meth c D al cA ba nL Qf kc ks (pc) (lv) (.int j :: .ref (al i) :: st) (σ) (aIx i n j σ Kf) := fun out ho H locs ls hP hS hl => by
  unfold aIx at ho
  by_cases h : 0 ≤ j ∧ j < Int32.ofNat n
  · rw [if_pos h] at ho
    exact va_bald g.1 g.2.1 g.2.2.2.2.2.1 hP i 2 (wlx_at hs) rfl (vpx hn h) hd (kk _ out ho H locs ls hP hS hl)
  · rw [if_neg h] at ho
    cases ho
theorem x_sald (g : GXx p l s m args meth c D al cA ba cc own nL) {i n : Nat} {r : List (Option Nat)} {j : Int32} {Kf : Int32 → Option (α × Sx)} (hs : shL[i]? = some (4, n, r)) (hn : n < 2 ^ 31) (hd : decode cc pc = .ok (.saload, 1)) (kk : ∀ v : Int32, XTx p l e R s m args below meth c D al cA ba nL Qf kc ks (pc + 1) (lv) (.int v :: st) (σ) (Kf v)) : XTx p l e R s m args below meth c D al cA ba nL Qf kc ks (pc) (lv) (.int j :: .ref (al i) :: st) (σ) (aIx i n j σ Kf) := fun out ho H locs ls hP hS hl => by
  unfold aIx at ho
  by_cases h : 0 ≤ j ∧ j < Int32.ofNat n
  · rw [if_pos h] at ho
    exact va_sald g.1 g.2.1 g.2.2.2.2.2.1 hP i 3 (wlx_at hs) rfl (vpx hn h) hd (kk _ out ho H locs ls hP hS hl)
  · rw [if_neg h] at ho
    cases ho
theorem x_iast (g : GXx p l s m args meth c D al cA ba cc own nL) {i n : Nat} {r : List (Option Nat)} {j : Int32} {v : Int32} {Kf : Sx → Option (α × Sx)} (hs : shL[i]? = some (1, n, r)) (hn : n < 2 ^ 31) (hd : decode cc pc = .ok (.iastore, 1)) (kk : ∀ σ2 : Sx, XTx p l e R s m args below meth c D al cA ba nL Qf kc ks (pc + 1) (lv) (st) (σ2) (Kf σ2)) : XTx p l e R s m args below meth c D al cA ba nL Qf kc ks (pc) (lv) (.int v :: .int j :: .ref (al i) :: st) (σ) (sIx i n j v σ Kf) := fun out ho H locs ls hP hS hl => by
  unfold sIx at ho
  by_cases h : 0 ≤ j ∧ j < Int32.ofNat n
  · rw [if_pos h] at ho
    refine va_iast g.1 g.2.1 g.2.2.2.2.2.1 hP (wlx_D g.2.2.2.2.2.2.1) hS i 0 (wlx_at hs) rfl (vpx hn h) hd (fun H1 locs1 hP1 _ hS1 => kk _ out ho H1 locs1 ls (wlx_set hs ?_ (fun k hk r => enx_upI_ne hk r) hP1) hS1 hl)
    have hf : upd (siI σ i) j.toNatClampNeg v = siI (upI σ i j.toNatClampNeg v) i := by funext b; by_cases hb : b = j.toNatClampNeg <;> simp [upd, siI, siL, upI, upL, hb]
    rw [hf]
    rfl
  · rw [if_neg h] at ho
    cases ho
theorem x_last (g : GXx p l s m args meth c D al cA ba cc own nL) {i n : Nat} {r : List (Option Nat)} {j : Int32} {v : Int64} {Kf : Sx → Option (α × Sx)} (hs : shL[i]? = some (2, n, r)) (hn : n < 2 ^ 31) (hd : decode cc pc = .ok (.lastore, 1)) (kk : ∀ σ2 : Sx, XTx p l e R s m args below meth c D al cA ba nL Qf kc ks (pc + 1) (lv) (st) (σ2) (Kf σ2)) : XTx p l e R s m args below meth c D al cA ba nL Qf kc ks (pc) (lv) (.long v :: .int j :: .ref (al i) :: st) (σ) (sLx i n j v σ Kf) := fun out ho H locs ls hP hS hl => by
  unfold sLx at ho
  by_cases h : 0 ≤ j ∧ j < Int32.ofNat n
  · rw [if_pos h] at ho
    refine va_last g.1 g.2.1 g.2.2.2.2.2.1 hP (wlx_D g.2.2.2.2.2.2.1) hS i 1 (wlx_at hs) rfl (vpx hn h) hd (fun H1 locs1 hP1 _ hS1 => kk _ out ho H1 locs1 ls (wlx_set hs ?_ (fun k hk r => enx_upL_ne hk r) hP1) hS1 hl)
    have hf : vp_updL (siL σ i) j.toNatClampNeg v = siL (upL σ i j.toNatClampNeg v) i := by funext b; by_cases hb : b = j.toNatClampNeg <;> simp [vp_updL, siI, siL, upI, upL, hb]
    rw [hf]
    rfl
  · rw [if_neg h] at ho
    cases ho
theorem x_bast (g : GXx p l s m args meth c D al cA ba cc own nL) {i n : Nat} {r : List (Option Nat)} {j : Int32} {v : Int32} {Kf : Sx → Option (α × Sx)} (hs : shL[i]? = some (3, n, r)) (hn : n < 2 ^ 31) (hd : decode cc pc = .ok (.bastore, 1)) (kk : ∀ σ2 : Sx, XTx p l e R s m args below meth c D al cA ba nL Qf kc ks (pc + 1) (lv) (st) (σ2) (Kf σ2)) : XTx p l e R s m args below meth c D al cA ba nL Qf kc ks (pc) (lv) (.int v :: .int j :: .ref (al i) :: st) (σ) (sIx i n j (vp_nar .byte v) σ Kf) := fun out ho H locs ls hP hS hl => by
  unfold sIx at ho
  by_cases h : 0 ≤ j ∧ j < Int32.ofNat n
  · rw [if_pos h] at ho
    refine va_bast g.1 g.2.1 g.2.2.2.2.2.1 hP (wlx_D g.2.2.2.2.2.2.1) hS i 2 (wlx_at hs) rfl (vpx hn h) hd (fun H1 locs1 hP1 _ hS1 => kk _ out ho H1 locs1 ls (wlx_set hs ?_ (fun k hk r => enx_upI_ne hk r) hP1) hS1 hl)
    have hf : upd (siI σ i) j.toNatClampNeg (vp_nar .byte v) = siI (upI σ i j.toNatClampNeg (vp_nar .byte v)) i := by funext b; by_cases hb : b = j.toNatClampNeg <;> simp [upd, siI, siL, upI, upL, hb]
    rw [hf]
    rfl
  · rw [if_neg h] at ho
    cases ho
theorem x_sast (g : GXx p l s m args meth c D al cA ba cc own nL) {i n : Nat} {r : List (Option Nat)} {j : Int32} {v : Int32} {Kf : Sx → Option (α × Sx)} (hs : shL[i]? = some (4, n, r)) (hn : n < 2 ^ 31) (hd : decode cc pc = .ok (.sastore, 1)) (kk : ∀ σ2 : Sx, XTx p l e R s m args below meth c D al cA ba nL Qf kc ks (pc + 1) (lv) (st) (σ2) (Kf σ2)) : XTx p l e R s m args below meth c D al cA ba nL Qf kc ks (pc) (lv) (.int v :: .int j :: .ref (al i) :: st) (σ) (sIx i n j (vp_nar .short v) σ Kf) := fun out ho H locs ls hP hS hl => by
  unfold sIx at ho
  by_cases h : 0 ≤ j ∧ j < Int32.ofNat n
  · rw [if_pos h] at ho
    refine va_sast g.1 g.2.1 g.2.2.2.2.2.1 hP (wlx_D g.2.2.2.2.2.2.1) hS i 3 (wlx_at hs) rfl (vpx hn h) hd (fun H1 locs1 hP1 _ hS1 => kk _ out ho H1 locs1 ls (wlx_set hs ?_ (fun k hk r => enx_upI_ne hk r) hP1) hS1 hl)
    have hf : upd (siI σ i) j.toNatClampNeg (vp_nar .short v) = siI (upI σ i j.toNatClampNeg (vp_nar .short v)) i := by funext b; by_cases hb : b = j.toNatClampNeg <;> simp [upd, siI, siL, upI, upL, hb]
    rw [hf]
    rfl
  · rw [if_neg h] at ho
    cases ho
theorem x_aaldR (g : GXx p l s m args meth c D al cA ba cc own nL) {i n t0 : Nat} {j : Int32} {Kf : Nat → Option (α × Sx)} (hs : shL[i]? = some (6, n, [some t0])) (hn : n < 2 ^ 31) (hd : decode cc pc = .ok (.aaload, 1)) (kk : ∀ k : Nat, k < n → XTx p l e R s m args below meth c D al cA ba nL Qf kc ks (pc + 1) (lv) (.ref (al (t0 + k)) :: st) (σ) (Kf k)) : XTx p l e R s m args below meth c D al cA ba nL Qf kc ks (pc) (lv) (.int j :: .ref (al i) :: st) (σ) (aRx n j Kf) := fun out ho H locs ls hP hS hl => by
  unfold aRx at ho
  by_cases h : 0 ≤ j ∧ j < Int32.ofNat n
  · rw [if_pos h] at ho
    have hin := vpx hn h
    have hlt := vpx_lt hin
    exact W.aald (v := .ref (al (t0 + j.toNatClampNeg))) (ty := .array .int) g.1 g.2.1 (hP i _ (wlx_at hs)) ((g.2.2.2.2.2.1.2 4 _ rfl).1 n (fun k => va_rf (some (al (t0 + k))))) rfl (fun q => by cases q) (by show ¬ (j < 0 ∨ (arrV _ _ _).slots.size ≤ _); rw [arrV_size]; exact hin) (by show (arrV _ _ _).slots[_]? = _; rw [arrV_read _ _ hlt]; rfl) rfl rfl hd (kk _ hlt out ho H locs ls hP hS hl)
  · rw [if_neg h] at ho
    cases ho
theorem x_aaldS (g : GXx p l s m args meth c D al cA ba cc own nL) {i n t0 : Nat} {j : Int32} {Kf : Nat → Option (α × Sx)} (hs : shL[i]? = some (7, n, [some t0])) (hn : n < 2 ^ 31) (hd : decode cc pc = .ok (.aaload, 1)) (kk : ∀ k : Nat, k < n → XTx p l e R s m args below meth c D al cA ba nL Qf kc ks (pc + 1) (lv) (.ref (al (t0 + k)) :: st) (σ) (Kf k)) : XTx p l e R s m args below meth c D al cA ba nL Qf kc ks (pc) (lv) (.int j :: .ref (al i) :: st) (σ) (aRx n j Kf) := fun out ho H locs ls hP hS hl => by
  unfold aRx at ho
  by_cases h : 0 ≤ j ∧ j < Int32.ofNat n
  · rw [if_pos h] at ho
    exact va_aldq g.1 g.2.1 g.2.2.2.2.2.1 hP i 5 (wlx_at hs) rfl (vpx hn h) hd (kk _ (vpx_lt (vpx hn h)) out ho H locs ls hP hS hl)
  · rw [if_neg h] at ho
    cases ho
theorem x_alen (g : GXx p l s m args meth c D al cA ba cc own nL) {i k n t : Nat} {ty : FieldType} {r : List (Option Nat)} (hs : shL[i]? = some (k, n, r)) (hk : ¬ k = 0) (ht : (tyL cA)[t]? = some (cA k, ty)) (hd : decode cc pc = .ok (.arraylength, 1)) (kk : XTx p l e R s m args below meth c D al cA ba nL Qf kc ks (pc + 1) (lv) (.int (Int32.ofNat n) :: st) (σ) (K)) : XTx p l e R s m args below meth c D al cA ba nL Qf kc ks (pc) (lv) (.ref (al i) :: st) (σ) (K) := fun out ho H locs ls hP hS hl => by
  have h := wlx_at (al := al) (cA := cA) (σ := σ) hs
  by_cases h2 : k = 2
  · have he : enx al cA σ i (k, n, r) = .inl (cA k, n, .inr (.inl (siL σ i))) := by unfold enx; simp [h2]
    rw [he] at h
    exact va_alen g.1 g.2.1 g.2.2.2.2.2.1 hP i t h ht rfl hd (kk out ho H locs ls hP hS hl)
  · by_cases h3 : k = 6 ∨ k = 7
    · have he : enx al cA σ i (k, n, r) = .inl (cA k, n, .inr (.inr (.inr (.inr (fun j => some (al ((r.getD 0 none).getD 0 + j))))))) := by unfold enx; simp [hk, h2, h3]
      rw [he] at h
      exact va_alen g.1 g.2.1 g.2.2.2.2.2.1 hP i t h ht rfl hd (kk out ho H locs ls hP hS hl)
    · have he : enx al cA σ i (k, n, r) = .inl (cA k, n, .inl (siI σ i)) := by unfold enx; simp [hk, h2, h3]
      rw [he] at h
      exact va_alen g.1 g.2.1 g.2.2.2.2.2.1 hP i t h ht rfl hd (kk out ho H locs ls hP hS hl)
/-- a field j of class number ci, as the class 'own' links it by its entry idx: its type, whether final -/
def FLx (own : String) (idx ci j : Nat) (ty : FieldType) (fin : Bool) : Prop := ∃ (C : String) (T : u_T) (N : Nat) (tyf : Nat → FieldType), vwCl[ci]? = some (C, T, N) ∧ j < N ∧ (∀ w ∈ u_ws C T N, w ∈ TWx) ∧ (∀ k, k < N → parseFieldDescriptor (T k).2.2.1 = some (tyf k)) ∧ (∀ a, a < N → ∀ b, b < N → a ≠ b → (T a).2.1 ≠ (T b).2.1) ∧ Cond.fieldLink own idx (T j).1 (T j).2.1 (T j).2.2.1 ∈ TWx ∧ tyf j = ty ∧ (T j).2.2.2 = fin
theorem x_getI (g : GXx p l s m args meth c D al cA ba cc own nL) {i ci j idx : Nat} {ty : FieldType} {fin : Bool} {refs : List (Option Nat)} (hs : shL[i]? = some (0, ci, refs)) (f : FLx own idx ci j ty fin) (hr : refs[j]? = some none) (hd : decode cc pc = .ok (.getfield idx, 3)) (kk : XTx p l e R s m args below meth c D al cA ba nL Qf kc ks (pc + 3) (lv) (.int (siI σ i j) :: st) (σ) (K)) : XTx p l e R s m args below meth c D al cA ba nL Qf kc ks (pc) (lv) (.ref (al i) :: st) (σ) (K) := fun out ho H locs ls hP hS hl => by
  obtain ⟨C, T, N, tyf, h1, h2, h3, h4, h5, h6, -⟩ := f
  exact va_get g.1 g.2.1 g.2.2.2.2.1 h3 g.2.2.2.1 g.2.2.2.2.2.1 hP i (wlx_at hs) h1 j h2 (g.2.2.2.2.1 _ h6) (fun _ h => h) (fsx_at hr) hd (kk out ho H locs ls hP hS hl)
theorem x_getR (g : GXx p l s m args meth c D al cA ba cc own nL) {i ci j idx t : Nat} {ty : FieldType} {fin : Bool} {refs : List (Option Nat)} (hs : shL[i]? = some (0, ci, refs)) (f : FLx own idx ci j ty fin) (hr : refs[j]? = some (some t)) (hd : decode cc pc = .ok (.getfield idx, 3)) (kk : XTx p l e R s m args below meth c D al cA ba nL Qf kc ks (pc + 3) (lv) (.ref (al t) :: st) (σ) (K)) : XTx p l e R s m args below meth c D al cA ba nL Qf kc ks (pc) (lv) (.ref (al i) :: st) (σ) (K) := fun out ho H locs ls hP hS hl => by
  obtain ⟨C, T, N, tyf, h1, h2, h3, h4, h5, h6, -⟩ := f
  exact va_get g.1 g.2.1 g.2.2.2.2.1 h3 g.2.2.2.1 g.2.2.2.2.2.1 hP i (wlx_at hs) h1 j h2 (g.2.2.2.2.1 _ h6) (fun _ h => h) (fsx_at hr) hd (kk out ho H locs ls hP hS hl)
theorem x_putV (g : GXx p l s m args meth c D al cA ba cc own nL) {i ci j idx : Nat} {ty : FieldType} {refs : List (Option Nat)} {v : Int32} (hs : shL[i]? = some (0, ci, refs)) (f : FLx own idx ci j ty false) (hr : refs[j]? = some none) (hn : narrow ty (.int v) = .int v) (hfit : fits ty (.int v) = true) (hd : decode cc pc = .ok (.putfield idx, 3)) (kk : XTx p l e R s m args below meth c D al cA ba nL Qf kc ks (pc + 3) (lv) (st) (upI σ i j v) (K)) : XTx p l e R s m args below meth c D al cA ba nL Qf kc ks (pc) (lv) (.int v :: .ref (al i) :: st) (σ) (K) := fun out ho H locs ls hP hS hl => by
  obtain ⟨C, T, N, tyf, h1, h2, h3, h4, h5, h6, h7, h8⟩ := f
  subst h7
  have hj : j < (fsx al σ i refs).length := by rw [fsx_len]; exact (List.getElem?_eq_some_iff.mp hr).1
  refine va_put g.1 g.2.1 g.2.2.2.2.1 h3 tyf h4 h5 g.2.2.2.1 g.2.2.2.2.2.1 hP (wlx_D g.2.2.2.2.2.2.1) hS i (wlx_at hs) h1 j h2 (g.2.2.2.2.1 _ h6) (fun _ h => h) h8 (h4 j h2) hn hfit hj hd (fun H1 locs1 hP1 _ hS1 => kk out ho H1 locs1 ls (wlx_set hs ?_ (fun k hk r => enx_upI_ne hk r) hP1) hS1 hl)
  show _ = enx al cA (upI σ i j v) i (0, ci, refs)
  unfold enx
  rw [fsx_set hr]
  rfl
def pIx {α : Type} (i j : Nat) (v : Int32) (σ : Sx) (K : Sx → Option α) : Option α := K (upI σ i j v)
def pZx {α : Type} (i j : Nat) (v : Int32) (σ : Sx) (K : Sx → Option α) : Option α := if v = 0 ∨ v = 1 then K (upI σ i j v) else none
theorem x_putI (g : GXx p l s m args meth c D al cA ba cc own nL) {i ci j idx : Nat} {refs : List (Option Nat)} {v : Int32} {Kf : Sx → Option (α × Sx)} (hs : shL[i]? = some (0, ci, refs)) (f : FLx own idx ci j .int false) (hr : refs[j]? = some none) (hd : decode cc pc = .ok (.putfield idx, 3)) (kk : ∀ σ2 : Sx, XTx p l e R s m args below meth c D al cA ba nL Qf kc ks (pc + 3) (lv) (st) (σ2) (Kf σ2)) : XTx p l e R s m args below meth c D al cA ba nL Qf kc ks (pc) (lv) (.int v :: .ref (al i) :: st) (σ) (pIx i j v σ Kf) := x_putV g hs f hr rfl rfl hd (kk _)
theorem x_putZ (g : GXx p l s m args meth c D al cA ba cc own nL) {i ci j idx : Nat} {refs : List (Option Nat)} {v : Int32} {Kf : Sx → Option (α × Sx)} (hs : shL[i]? = some (0, ci, refs)) (f : FLx own idx ci j .boolean false) (hr : refs[j]? = some none) (hd : decode cc pc = .ok (.putfield idx, 3)) (kk : ∀ σ2 : Sx, XTx p l e R s m args below meth c D al cA ba nL Qf kc ks (pc + 3) (lv) (st) (σ2) (Kf σ2)) : XTx p l e R s m args below meth c D al cA ba nL Qf kc ks (pc) (lv) (.int v :: .ref (al i) :: st) (σ) (pZx i j v σ Kf) := fun out ho => by
  unfold pZx at ho
  by_cases h : v = 0 ∨ v = 1
  · rw [if_pos h] at ho
    rcases h with rfl | rfl
    · exact x_putV g hs f hr (by decide) (by decide) hd (kk _) out ho
    · exact x_putV g hs f hr (by decide) (by decide) hd (kk _) out ho
  · rw [if_neg h] at ho
    cases ho
def aSx {α : Type} (l : List Int32) (j : Int32) (K : Int32 → Option α) : Option α := if 0 ≤ j ∧ j < Int32.ofNat l.length then K (l.getD j.toNatClampNeg 0) else none
theorem x_gets (g : GXx p l s m args meth c D al cA ba cc own nL) {idx k : Nat} {q : String × String × List Int32} (hq : stL[k]? = some q) (hw : Cond.fieldLink own idx q.1 q.2.1 "[I" ∈ TWx) (hd : decode cc pc = .ok (.getstatic idx, 3)) (kk : ∀ t : Nat, va_T .int t q.2.2.length (fun j => .int (q.2.2.getD j 0)) (Ax ba) s s.heap → XTx p l e R s m args below meth c D al cA ba nL Qf kc ks (pc + 3) (lv) (.ref t :: st) (σ) (K)) : XTx p l e R s m args below meth c D al cA ba nL Qf kc ks (pc) (lv) (st) (σ) (K) := fun out ho H locs ls hP hS hl => by
  obtain ⟨t, h1, h2⟩ := g.2.2.2.2.2.2.2.2.1.1 k q hq
  exact va_gets g.1 g.2.1 h1 hS g.2.2.2.1 (g.2.2.2.2.1 _ hw) (fun _ h => h) hd (kk t h2 out ho H locs ls hP hS hl)
theorem x_tald (g : GXx p l s m args meth c D al cA ba cc own nL) {t : Nat} {L : List Int32} {j : Int32} {Kf : Int32 → Option (α × Sx)} (hT : va_T .int t L.length (fun j => .int (L.getD j 0)) (Ax ba) s s.heap) (hn : L.length < 2 ^ 31) (hd : decode cc pc = .ok (.iaload, 1)) (kk : ∀ v : Int32, XTx p l e R s m args below meth c D al cA ba nL Qf kc ks (pc + 1) (lv) (.int v :: st) (σ) (Kf v)) : XTx p l e R s m args below meth c D al cA ba nL Qf kc ks (pc) (lv) (.int j :: .ref t :: st) (σ) (aSx L j Kf) := fun out ho H locs ls hP hS hl => by
  unfold aSx at ho
  by_cases h : 0 ≤ j ∧ j < Int32.ofNat L.length
  · rw [if_pos h] at ho
    exact va_ti g.1 g.2.1 hT hS (vpx hn h) rfl hd (kk _ out ho H locs ls hP hS hl)
  · rw [if_neg h] at ho
    cases ho
theorem x_ireturn {σ : Sx} (g : GXx p l s m args meth c D al cA ba cc own nL) (hrt : meth.sig.returnType = some .int) {v : Int32} (hd : decode cc pc = .ok (.ireturn, 1)) : XTx p l e R s m args below meth c D al cA ba nL (MQx rvI D al cA ba below args s) 0 0 pc lv [.int v] σ (some (v, σ)) := fun out ho H locs ls hP hS hl => by
  cases ho
  exact W.iret g.1 g.2.1 hrt (fun t ht hW => ⟨rfl, ⟨by rw [ht]; exact hP, va_K.moved hW.alike g.2.2.2.2.2.1, g.2.2.2.2.2.2.1, by rw [ht]; exact Nat.le_trans g.2.2.2.2.2.2.2.1 hS.1, stx_moved hW (fun a h1 h2 => by rw [ht]; exact hS.2.1 a h1 h2) g.2.2.2.2.2.2.2.2.1⟩, hS.F ht⟩) hS.2.2 hd g.2.2.2.2.2.2.2.2.2
theorem x_zreturn {σ : Sx} (g : GXx p l s m args meth c D al cA ba cc own nL) (hrt : meth.sig.returnType = some .boolean) {v : Int32} (hn : narrow .boolean (.int v) = .int v) (hd : decode cc pc = .ok (.ireturn, 1)) : XTx p l e R s m args below meth c D al cA ba nL (MQx rvI D al cA ba below args s) 0 0 pc lv [.int v] σ (some (v, σ)) := fun out ho H locs ls hP hS hl => by
  cases ho
  exact W.zret g.1 g.2.1 hrt hn (fun t ht hW => ⟨rfl, ⟨by rw [ht]; exact hP, va_K.moved hW.alike g.2.2.2.2.2.1, g.2.2.2.2.2.2.1, by rw [ht]; exact Nat.le_trans g.2.2.2.2.2.2.2.1 hS.1, stx_moved hW (fun a h1 h2 => by rw [ht]; exact hS.2.1 a h1 h2) g.2.2.2.2.2.2.2.2.1⟩, hS.F ht⟩) hS.2.2 hd g.2.2.2.2.2.2.2.2.2
theorem x_lreturn {σ : Sx} (g : GXx p l s m args meth c D al cA ba cc own nL) (hrt : meth.sig.returnType = some .long) {v : Int64} (hd : decode cc pc = .ok (.lreturn, 1)) : XTx p l e R s m args below meth c D al cA ba nL (MQx rvL D al cA ba below args s) 0 0 pc lv [.long v] σ (some (v, σ)) := fun out ho H locs ls hP hS hl => by
  cases ho
  exact W.lret g.1 g.2.1 hrt (fun t ht hW => ⟨rfl, ⟨by rw [ht]; exact hP, va_K.moved hW.alike g.2.2.2.2.2.1, g.2.2.2.2.2.2.1, by rw [ht]; exact Nat.le_trans g.2.2.2.2.2.2.2.1 hS.1, stx_moved hW (fun a h1 h2 => by rw [ht]; exact hS.2.1 a h1 h2) g.2.2.2.2.2.2.2.2.1⟩, hS.F ht⟩) hS.2.2 hd g.2.2.2.2.2.2.2.2.2
theorem x_return {σ : Sx} (g : GXx p l s m args meth c D al cA ba cc own nL) (hrt : meth.sig.returnType = none)  (hd : decode cc pc = .ok (.return_, 1)) : XTx p l e R s m args below meth c D al cA ba nL (MQx rvU D al cA ba below args s) 0 0 pc lv [] σ (some ((), σ)) := fun out ho H locs ls hP hS hl => by
  cases ho
  exact W.vret g.1 g.2.1 hrt (fun t ht hW => ⟨rfl, ⟨by rw [ht]; exact hP, va_K.moved hW.alike g.2.2.2.2.2.1, g.2.2.2.2.2.2.1, by rw [ht]; exact Nat.le_trans g.2.2.2.2.2.2.2.1 hS.1, stx_moved hW (fun a h1 h2 => by rw [ht]; exact hS.2.1 a h1 h2) g.2.2.2.2.2.2.2.2.1⟩, hS.F ht⟩) hS.2.2 hd g.2.2.2.2.2.2.2.2.2
def rZx (v : Int32) (σ : Sx) : Option (Int32 × Sx) := if v = 0 ∨ v = 1 then some (v, σ) else none
theorem x_rZ {v : Int32} {σ : Sx} (g : GXx p l s m args meth c D al cA ba cc own nL) (hrt : meth.sig.returnType = some .boolean) (hd : decode cc pc = .ok (.ireturn, 1)) : XTx p l e R s m args below meth c D al cA ba nL (MQx rvI D al cA ba below args s) 0 0 pc lv [.int v] σ (rZx v σ) := fun out ho => by
  unfold rZx at ho
  by_cases h : v = 0 ∨ v = 1
  · rw [if_pos h] at ho
    rcases h with rfl | rfl
    · exact x_zreturn g hrt (by decide) hd out ho
    · exact x_zreturn g hrt (by decide) hd out ho
  · rw [if_neg h] at ho
    cases ho
/-- what follows a call -/
def clx {α β : Type} (F : Option (β × Sx)) (K : β → Sx → Option α) : Option α := match F with | none => none | some o => K o.1 o.2
theorem clx_some {α β : Type} {F : Option (β × Sx)} {K : β → Sx → Option α} {out : α} (h : clx F K = some out) : ∃ o, F = some o ∧ K o.1 o.2 = some out := by
  cases F with
  | none => cases h
  | some o => exact ⟨o, rfl, h⟩
/-- what the tables say of a method that is called: through an object of class number ci; a static one -/
def CVx (y : MethodName) (ccy : ByteArray) (nLy : Nat) (ret : Option FieldType) (nA ci : Nat) : Prop := (∃ (C : String) (T : u_T) (N : Nat), vwCl[ci]? = some (C, T, N) ∧ C = y.cls) ∧ Cond.instanceMethod y ∈ TWx ∧ Cond.selects y.cls y y ∈ TWx ∧ Cond.initialized y.cls ∈ TWx ∧ Cond.code y ccy nLy ret ∈ TWx ∧ y.cls ≠ "java/lang/invoke/MethodHandle" ∧ y.cls ≠ "java/lang/invoke/VarHandle" ∧ (parseMethodDescriptor y.desc).map (fun d => d.parameters.length) = some nA
def CSx (y : MethodName) (ccy : ByteArray) (nLy : Nat) (ret : Option FieldType) (nA : Nat) : Prop := Cond.static y ∈ TWx ∧ Cond.initialized y.cls ∈ TWx ∧ Cond.code y ccy nLy ret ∈ TWx ∧ y.cls ≠ "java/lang/invoke/MethodHandle" ∧ y.cls ≠ "java/lang/invoke/VarHandle" ∧ (parseMethodDescriptor y.desc).map (fun d => d.parameters.length) = some nA
theorem x_callVI (g : GXx p l s m args meth c D al cA ba cc own nL) {y : MethodName} {ccy : ByteArray} {nLy fr lo idx nA : Nat} {ret : Option FieldType} {F : Sx → Option (Int32 × Sx)} {Kf : Int32 → Sx → Option (α × Sx)} {As : List Value} {stk : List Value} {i ci : Nat} {refs : List (Option Nat)} (hs : shL[i]? = some (0, ci, refs)) (hM : MCx D al cA ba y ccy nLy ret fr lo rvI (.ref (al i) :: As) F) (cw : CVx y ccy nLy ret nA ci) (hw1 : Cond.methodLink own idx y ∈ TWx) (hn : As.length = nA) (hR : fr + 1 ≤ R.frames ∧ 8 + (nLy + 11) + lo ≤ R.locals) (hst : stk = As.reverse ++ .ref (al i) :: st) (hroom : (st.map fun v => v.category).sum ≤ 8) (hd : decode cc pc = .ok (.invokevirtual idx, 3)) (kk : ∀ (r : Int32) (σ2 : Sx), XTx p l e R s m args below meth c D al cA ba nL Qf kc ks (pc + 3) (lv) (.int r :: st) (σ2) (Kf r σ2)) (hkc : kc ≤ R.cells ∧ ks ≤ R.slots := by exact ⟨Nat.zero_le _, Nat.zero_le _⟩) : XTx p l e R s m args below meth c D al cA ba nL Qf kc ks (pc) (lv) (stk) (σ) (clx (F σ) Kf) := fun out ho H locs ls hP hS hl => by
  obtain ⟨o, hF, hK2⟩ := clx_some ho
  obtain ⟨⟨C, T, N, hcl, hC⟩, hw2, hw3, hw4, hw5, hdd⟩ := cw
  subst hst
  have hpre : ∀ U : State, U.heap = H → s.WarmedH U.vm → va_Pc (.ref (al i) :: As) (WDx D al cA ba σ) ((.ref (al i) :: As) : List Value).toArray U := fun U hU hW => ⟨rfl, by rw [hU]; exact hP, va_K.moved hW.alike g.2.2.2.2.2.1, g.2.2.2.2.2.2.1, by rw [hU]; exact Nat.le_trans g.2.2.2.2.2.2.2.1 hS.1, stx_moved hW (fun a h1 h2 => by rw [hU]; exact hS.2.1 a h1 h2) g.2.2.2.2.2.2.2.2.1⟩
  have hrun := va_runV (args := args) (e := e) (below := below) (meth := meth) (locs := locs) (As := As) (rest := st) (nL := nL) (own := own) (cells := kc) (slots := ks) (g := F0 m pc ls (As.reverse ++ .ref (al i) :: st)) ⟨g.1, g.2.1, g.2.2.1, g.2.2.2.1, g.2.2.2.2.1⟩ (hM l σ o hF) ⟨callB_of (own := own) (index := idx) nA g.2.2.2.2.1 (ws := .code y ccy nLy ret :: TWx) (fun w h => (List.mem_cons.mp h).elim (fun e => by subst e; exact TWx_self _ hw5) (fun h => TWx_self w h)) rfl rfl rfl (g.2.2.2.2.1 _ hw4) (g.2.2.2.2.1 _ hw1) hdd hR, g.2.2.2.2.1 _ hw2, g.2.2.2.2.1 _ hw3⟩ ⟨WDx_blind, by rw [← hC]; exact va_recv (q := (C, T, N)) g.2.2.2.2.2.1 hP hcl (wlx_at hs), hpre⟩ rfl hn hl.1 rfl (lv_room hroom) hd hkc
  intro T hT X
  obtain ⟨v, st₀, t, T', L, h0, X', hL, e1, e2, ⟨hv, hB, hz, hk⟩, stp⟩ := hrun T hT X
  have hv2 : v = rvI o.1 := by cases hv; rfl
  subst hv2
  rw [h0] at hz hk
  obtain ⟨t2, a1, b1⟩ := kk o.1 o.2 out hK2 T'.heap (locs ++ L) ls (by rw [e1]; exact hB.1) ⟨Nat.le_trans hS.1 (by rw [e1]; exact hz), fun q h1 h2 => by rw [e1, hk q (Nat.lt_of_lt_of_le h1 hS.1) h2]; exact hS.2.1 q h1 h2, fun q hq => by
      rcases List.mem_append.mp hq with h | h
      · exact hS.2.2 q h
      · exact hL q h⟩ hl T' rfl X'
  exact ⟨t2, stp t2 a1, b1⟩
theorem x_callVL (g : GXx p l s m args meth c D al cA ba cc own nL) {y : MethodName} {ccy : ByteArray} {nLy fr lo idx nA : Nat} {ret : Option FieldType} {F : Sx → Option (Int64 × Sx)} {Kf : Int64 → Sx → Option (α × Sx)} {As : List Value} {stk : List Value} {i ci : Nat} {refs : List (Option Nat)} (hs : shL[i]? = some (0, ci, refs)) (hM : MCx D al cA ba y ccy nLy ret fr lo rvL (.ref (al i) :: As) F) (cw : CVx y ccy nLy ret nA ci) (hw1 : Cond.methodLink own idx y ∈ TWx) (hn : As.length = nA) (hR : fr + 1 ≤ R.frames ∧ 8 + (nLy + 11) + lo ≤ R.locals) (hst : stk = As.reverse ++ .ref (al i) :: st) (hroom : (st.map fun v => v.category).sum ≤ 8) (hd : decode cc pc = .ok (.invokevirtual idx, 3)) (kk : ∀ (r : Int64) (σ2 : Sx), XTx p l e R s m args below meth c D al cA ba nL Qf kc ks (pc + 3) (lv) (.long r :: st) (σ2) (Kf r σ2)) (hkc : kc ≤ R.cells ∧ ks ≤ R.slots := by exact ⟨Nat.zero_le _, Nat.zero_le _⟩) : XTx p l e R s m args below meth c D al cA ba nL Qf kc ks (pc) (lv) (stk) (σ) (clx (F σ) Kf) := fun out ho H locs ls hP hS hl => by
  obtain ⟨o, hF, hK2⟩ := clx_some ho
  obtain ⟨⟨C, T, N, hcl, hC⟩, hw2, hw3, hw4, hw5, hdd⟩ := cw
  subst hst
  have hpre : ∀ U : State, U.heap = H → s.WarmedH U.vm → va_Pc (.ref (al i) :: As) (WDx D al cA ba σ) ((.ref (al i) :: As) : List Value).toArray U := fun U hU hW => ⟨rfl, by rw [hU]; exact hP, va_K.moved hW.alike g.2.2.2.2.2.1, g.2.2.2.2.2.2.1, by rw [hU]; exact Nat.le_trans g.2.2.2.2.2.2.2.1 hS.1, stx_moved hW (fun a h1 h2 => by rw [hU]; exact hS.2.1 a h1 h2) g.2.2.2.2.2.2.2.2.1⟩
  have hrun := va_runV (args := args) (e := e) (below := below) (meth := meth) (locs := locs) (As := As) (rest := st) (nL := nL) (own := own) (cells := kc) (slots := ks) (g := F0 m pc ls (As.reverse ++ .ref (al i) :: st)) ⟨g.1, g.2.1, g.2.2.1, g.2.2.2.1, g.2.2.2.2.1⟩ (hM l σ o hF) ⟨callB_of (own := own) (index := idx) nA g.2.2.2.2.1 (ws := .code y ccy nLy ret :: TWx) (fun w h => (List.mem_cons.mp h).elim (fun e => by subst e; exact TWx_self _ hw5) (fun h => TWx_self w h)) rfl rfl rfl (g.2.2.2.2.1 _ hw4) (g.2.2.2.2.1 _ hw1) hdd hR, g.2.2.2.2.1 _ hw2, g.2.2.2.2.1 _ hw3⟩ ⟨WDx_blind, by rw [← hC]; exact va_recv (q := (C, T, N)) g.2.2.2.2.2.1 hP hcl (wlx_at hs), hpre⟩ rfl hn hl.1 rfl (lv_room hroom) hd hkc
  intro T hT X
  obtain ⟨v, st₀, t, T', L, h0, X', hL, e1, e2, ⟨hv, hB, hz, hk⟩, stp⟩ := hrun T hT X
  have hv2 : v = rvL o.1 := by cases hv; rfl
  subst hv2
  rw [h0] at hz hk
  obtain ⟨t2, a1, b1⟩ := kk o.1 o.2 out hK2 T'.heap (locs ++ L) ls (by rw [e1]; exact hB.1) ⟨Nat.le_trans hS.1 (by rw [e1]; exact hz), fun q h1 h2 => by rw [e1, hk q (Nat.lt_of_lt_of_le h1 hS.1) h2]; exact hS.2.1 q h1 h2, fun q hq => by
      rcases List.mem_append.mp hq with h | h
      · exact hS.2.2 q h
      · exact hL q h⟩ hl T' rfl X'
  exact ⟨t2, stp t2 a1, b1⟩
theorem x_callVU (g : GXx p l s m args meth c D al cA ba cc own nL) {y : MethodName} {ccy : ByteArray} {nLy fr lo idx nA : Nat} {ret : Option FieldType} {F : Sx → Option (Unit × Sx)} {Kf : Unit → Sx → Option (α × Sx)} {As : List Value} {stk : List Value} {i ci : Nat} {refs : List (Option Nat)} (hs : shL[i]? = some (0, ci, refs)) (hM : MCx D al cA ba y ccy nLy ret fr lo rvU (.ref (al i) :: As) F) (cw : CVx y ccy nLy ret nA ci) (hw1 : Cond.methodLink own idx y ∈ TWx) (hn : As.length = nA) (hR : fr + 1 ≤ R.frames ∧ 8 + (nLy + 11) + lo ≤ R.locals) (hst : stk = As.reverse ++ .ref (al i) :: st) (hroom : (st.map fun v => v.category).sum ≤ 8) (hd : decode cc pc = .ok (.invokevirtual idx, 3)) (kk : ∀ (r : Unit) (σ2 : Sx), XTx p l e R s m args below meth c D al cA ba nL Qf kc ks (pc + 3) (lv) (st) (σ2) (Kf r σ2)) (hkc : kc ≤ R.cells ∧ ks ≤ R.slots := by exact ⟨Nat.zero_le _, Nat.zero_le _⟩) : XTx p l e R s m args below meth c D al cA ba nL Qf kc ks (pc) (lv) (stk) (σ) (clx (F σ) Kf) := fun out ho H locs ls hP hS hl => by
  obtain ⟨o, hF, hK2⟩ := clx_some ho
  obtain ⟨⟨C, T, N, hcl, hC⟩, hw2, hw3, hw4, hw5, hdd⟩ := cw
  subst hst
  have hpre : ∀ U : State, U.heap = H → s.WarmedH U.vm → va_Pc (.ref (al i) :: As) (WDx D al cA ba σ) ((.ref (al i) :: As) : List Value).toArray U := fun U hU hW => ⟨rfl, by rw [hU]; exact hP, va_K.moved hW.alike g.2.2.2.2.2.1, g.2.2.2.2.2.2.1, by rw [hU]; exact Nat.le_trans g.2.2.2.2.2.2.2.1 hS.1, stx_moved hW (fun a h1 h2 => by rw [hU]; exact hS.2.1 a h1 h2) g.2.2.2.2.2.2.2.2.1⟩
  have hrun := va_runV (args := args) (e := e) (below := below) (meth := meth) (locs := locs) (As := As) (rest := st) (nL := nL) (own := own) (cells := kc) (slots := ks) (g := F0 m pc ls (As.reverse ++ .ref (al i) :: st)) ⟨g.1, g.2.1, g.2.2.1, g.2.2.2.1, g.2.2.2.2.1⟩ (hM l σ o hF) ⟨callB_of (own := own) (index := idx) nA g.2.2.2.2.1 (ws := .code y ccy nLy ret :: TWx) (fun w h => (List.mem_cons.mp h).elim (fun e => by subst e; exact TWx_self _ hw5) (fun h => TWx_self w h)) rfl rfl rfl (g.2.2.2.2.1 _ hw4) (g.2.2.2.2.1 _ hw1) hdd hR, g.2.2.2.2.1 _ hw2, g.2.2.2.2.1 _ hw3⟩ ⟨WDx_blind, by rw [← hC]; exact va_recv (q := (C, T, N)) g.2.2.2.2.2.1 hP hcl (wlx_at hs), hpre⟩ rfl hn hl.1 rfl (lv_room hroom) hd hkc
  intro T hT X
  obtain ⟨v, st₀, t, T', L, h0, X', hL, e1, e2, ⟨hv, hB, hz, hk⟩, stp⟩ := hrun T hT X
  have hv2 : v = rvU o.1 := by cases hv; rfl
  subst hv2
  rw [h0] at hz hk
  obtain ⟨t2, a1, b1⟩ := kk o.1 o.2 out hK2 T'.heap (locs ++ L) ls (by rw [e1]; exact hB.1) ⟨Nat.le_trans hS.1 (by rw [e1]; exact hz), fun q h1 h2 => by rw [e1, hk q (Nat.lt_of_lt_of_le h1 hS.1) h2]; exact hS.2.1 q h1 h2, fun q hq => by
      rcases List.mem_append.mp hq with h | h
      · exact hS.2.2 q h
      · exact hL q h⟩ hl T' rfl X'
  exact ⟨t2, stp t2 a1, b1⟩
theorem x_callSI (g : GXx p l s m args meth c D al cA ba cc own nL) {y : MethodName} {ccy : ByteArray} {nLy fr lo idx nA : Nat} {ret : Option FieldType} {F : Sx → Option (Int32 × Sx)} {Kf : Int32 → Sx → Option (α × Sx)} {As : List Value} {stk : List Value} (hM : MCx D al cA ba y ccy nLy ret fr lo rvI As F) (cw : CSx y ccy nLy ret nA) (hw1 : Cond.methodLink own idx y ∈ TWx) (hn : As.length = nA) (hR : fr + 1 ≤ R.frames ∧ 8 + (nLy + 11) + lo ≤ R.locals) (hst : stk = As.reverse ++ st) (hroom : (st.map fun v => v.category).sum ≤ 8) (hd : decode cc pc = .ok (.invokestatic idx, 3)) (kk : ∀ (r : Int32) (σ2 : Sx), XTx p l e R s m args below meth c D al cA ba nL Qf kc ks (pc + 3) (lv) (.int r :: st) (σ2) (Kf r σ2)) (hkc : kc ≤ R.cells ∧ ks ≤ R.slots := by exact ⟨Nat.zero_le _, Nat.zero_le _⟩) : XTx p l e R s m args below meth c D al cA ba nL Qf kc ks (pc) (lv) (stk) (σ) (clx (F σ) Kf) := fun out ho H locs ls hP hS hl => by
  obtain ⟨o, hF, hK2⟩ := clx_some ho
  obtain ⟨hw2, hw4, hw5, hdd⟩ := cw
  subst hst
  have hpre : ∀ U : State, U.heap = H → s.WarmedH U.vm → va_Pc As (WDx D al cA ba σ) (As : List Value).toArray U := fun U hU hW => ⟨rfl, by rw [hU]; exact hP, va_K.moved hW.alike g.2.2.2.2.2.1, g.2.2.2.2.2.2.1, by rw [hU]; exact Nat.le_trans g.2.2.2.2.2.2.2.1 hS.1, stx_moved hW (fun a h1 h2 => by rw [hU]; exact hS.2.1 a h1 h2) g.2.2.2.2.2.2.2.2.1⟩
  have hrun := va_runS (args := args) (e := e) (below := below) (meth := meth) (locs := locs) (As := As) (rest := st) (nL := nL) (own := own) (cells := kc) (slots := ks) (g := F0 m pc ls (As.reverse ++ st)) ⟨g.1, g.2.1, g.2.2.1, g.2.2.2.1, g.2.2.2.2.1⟩ (hM l σ o hF) ⟨callB_of (own := own) (index := idx) nA g.2.2.2.2.1 (ws := .code y ccy nLy ret :: TWx) (fun w h => (List.mem_cons.mp h).elim (fun e => by subst e; exact TWx_self _ hw5) (fun h => TWx_self w h)) rfl rfl rfl (g.2.2.2.2.1 _ hw4) (g.2.2.2.2.1 _ hw1) hdd hR, g.2.2.2.2.1 _ hw2⟩ ⟨WDx_blind, hpre⟩ rfl hn hl.1 rfl (lv_room hroom) hd hkc
  intro T hT X
  obtain ⟨v, st₀, t, T', L, h0, X', hL, e1, e2, ⟨hv, hB, hz, hk⟩, stp⟩ := hrun T hT X
  have hv2 : v = rvI o.1 := by cases hv; rfl
  subst hv2
  rw [h0] at hz hk
  obtain ⟨t2, a1, b1⟩ := kk o.1 o.2 out hK2 T'.heap (locs ++ L) ls (by rw [e1]; exact hB.1) ⟨Nat.le_trans hS.1 (by rw [e1]; exact hz), fun q h1 h2 => by rw [e1, hk q (Nat.lt_of_lt_of_le h1 hS.1) h2]; exact hS.2.1 q h1 h2, fun q hq => by
      rcases List.mem_append.mp hq with h | h
      · exact hS.2.2 q h
      · exact hL q h⟩ hl T' rfl X'
  exact ⟨t2, stp t2 a1, b1⟩
theorem x_callSL (g : GXx p l s m args meth c D al cA ba cc own nL) {y : MethodName} {ccy : ByteArray} {nLy fr lo idx nA : Nat} {ret : Option FieldType} {F : Sx → Option (Int64 × Sx)} {Kf : Int64 → Sx → Option (α × Sx)} {As : List Value} {stk : List Value} (hM : MCx D al cA ba y ccy nLy ret fr lo rvL As F) (cw : CSx y ccy nLy ret nA) (hw1 : Cond.methodLink own idx y ∈ TWx) (hn : As.length = nA) (hR : fr + 1 ≤ R.frames ∧ 8 + (nLy + 11) + lo ≤ R.locals) (hst : stk = As.reverse ++ st) (hroom : (st.map fun v => v.category).sum ≤ 8) (hd : decode cc pc = .ok (.invokestatic idx, 3)) (kk : ∀ (r : Int64) (σ2 : Sx), XTx p l e R s m args below meth c D al cA ba nL Qf kc ks (pc + 3) (lv) (.long r :: st) (σ2) (Kf r σ2)) (hkc : kc ≤ R.cells ∧ ks ≤ R.slots := by exact ⟨Nat.zero_le _, Nat.zero_le _⟩) : XTx p l e R s m args below meth c D al cA ba nL Qf kc ks (pc) (lv) (stk) (σ) (clx (F σ) Kf) := fun out ho H locs ls hP hS hl => by
  obtain ⟨o, hF, hK2⟩ := clx_some ho
  obtain ⟨hw2, hw4, hw5, hdd⟩ := cw
  subst hst
  have hpre : ∀ U : State, U.heap = H → s.WarmedH U.vm → va_Pc As (WDx D al cA ba σ) (As : List Value).toArray U := fun U hU hW => ⟨rfl, by rw [hU]; exact hP, va_K.moved hW.alike g.2.2.2.2.2.1, g.2.2.2.2.2.2.1, by rw [hU]; exact Nat.le_trans g.2.2.2.2.2.2.2.1 hS.1, stx_moved hW (fun a h1 h2 => by rw [hU]; exact hS.2.1 a h1 h2) g.2.2.2.2.2.2.2.2.1⟩
  have hrun := va_runS (args := args) (e := e) (below := below) (meth := meth) (locs := locs) (As := As) (rest := st) (nL := nL) (own := own) (cells := kc) (slots := ks) (g := F0 m pc ls (As.reverse ++ st)) ⟨g.1, g.2.1, g.2.2.1, g.2.2.2.1, g.2.2.2.2.1⟩ (hM l σ o hF) ⟨callB_of (own := own) (index := idx) nA g.2.2.2.2.1 (ws := .code y ccy nLy ret :: TWx) (fun w h => (List.mem_cons.mp h).elim (fun e => by subst e; exact TWx_self _ hw5) (fun h => TWx_self w h)) rfl rfl rfl (g.2.2.2.2.1 _ hw4) (g.2.2.2.2.1 _ hw1) hdd hR, g.2.2.2.2.1 _ hw2⟩ ⟨WDx_blind, hpre⟩ rfl hn hl.1 rfl (lv_room hroom) hd hkc
  intro T hT X
  obtain ⟨v, st₀, t, T', L, h0, X', hL, e1, e2, ⟨hv, hB, hz, hk⟩, stp⟩ := hrun T hT X
  have hv2 : v = rvL o.1 := by cases hv; rfl
  subst hv2
  rw [h0] at hz hk
  obtain ⟨t2, a1, b1⟩ := kk o.1 o.2 out hK2 T'.heap (locs ++ L) ls (by rw [e1]; exact hB.1) ⟨Nat.le_trans hS.1 (by rw [e1]; exact hz), fun q h1 h2 => by rw [e1, hk q (Nat.lt_of_lt_of_le h1 hS.1) h2]; exact hS.2.1 q h1 h2, fun q hq => by
      rcases List.mem_append.mp hq with h | h
      · exact hS.2.2 q h
      · exact hL q h⟩ hl T' rfl X'
  exact ⟨t2, stp t2 a1, b1⟩
theorem x_callSU (g : GXx p l s m args meth c D al cA ba cc own nL) {y : MethodName} {ccy : ByteArray} {nLy fr lo idx nA : Nat} {ret : Option FieldType} {F : Sx → Option (Unit × Sx)} {Kf : Unit → Sx → Option (α × Sx)} {As : List Value} {stk : List Value} (hM : MCx D al cA ba y ccy nLy ret fr lo rvU As F) (cw : CSx y ccy nLy ret nA) (hw1 : Cond.methodLink own idx y ∈ TWx) (hn : As.length = nA) (hR : fr + 1 ≤ R.frames ∧ 8 + (nLy + 11) + lo ≤ R.locals) (hst : stk = As.reverse ++ st) (hroom : (st.map fun v => v.category).sum ≤ 8) (hd : decode cc pc = .ok (.invokestatic idx, 3)) (kk : ∀ (r : Unit) (σ2 : Sx), XTx p l e R s m args below meth c D al cA ba nL Qf kc ks (pc + 3) (lv) (st) (σ2) (Kf r σ2)) (hkc : kc ≤ R.cells ∧ ks ≤ R.slots := by exact ⟨Nat.zero_le _, Nat.zero_le _⟩) : XTx p l e R s m args below meth c D al cA ba nL Qf kc ks (pc) (lv) (stk) (σ) (clx (F σ) Kf) := fun out ho H locs ls hP hS hl => by
  obtain ⟨o, hF, hK2⟩ := clx_some ho
  obtain ⟨hw2, hw4, hw5, hdd⟩ := cw
  subst hst
  have hpre : ∀ U : State, U.heap = H → s.WarmedH U.vm → va_Pc As (WDx D al cA ba σ) (As : List Value).toArray U := fun U hU hW => ⟨rfl, by rw [hU]; exact hP, va_K.moved hW.alike g.2.2.2.2.2.1, g.2.2.2.2.2.2.1, by rw [hU]; exact Nat.le_trans g.2.2.2.2.2.2.2.1 hS.1, stx_moved hW (fun a h1 h2 => by rw [hU]; exact hS.2.1 a h1 h2) g.2.2.2.2.2.2.2.2.1⟩
  have hrun := va_runS (args := args) (e := e) (below := below) (meth := meth) (locs := locs) (As := As) (rest := st) (nL := nL) (own := own) (cells := kc) (slots := ks) (g := F0 m pc ls (As.reverse ++ st)) ⟨g.1, g.2.1, g.2.2.1, g.2.2.2.1, g.2.2.2.2.1⟩ (hM l σ o hF) ⟨callB_of (own := own) (index := idx) nA g.2.2.2.2.1 (ws := .code y ccy nLy ret :: TWx) (fun w h => (List.mem_cons.mp h).elim (fun e => by subst e; exact TWx_self _ hw5) (fun h => TWx_self w h)) rfl rfl rfl (g.2.2.2.2.1 _ hw4) (g.2.2.2.2.1 _ hw1) hdd hR, g.2.2.2.2.1 _ hw2⟩ ⟨WDx_blind, hpre⟩ rfl hn hl.1 rfl (lv_room hroom) hd hkc
  intro T hT X
  obtain ⟨v, st₀, t, T', L, h0, X', hL, e1, e2, ⟨hv, hB, hz, hk⟩, stp⟩ := hrun T hT X
  have hv2 : v = rvU o.1 := by cases hv; rfl
  subst hv2
  rw [h0] at hz hk
  obtain ⟨t2, a1, b1⟩ := kk o.1 o.2 out hK2 T'.heap (locs ++ L) ls (by rw [e1]; exact hB.1) ⟨Nat.le_trans hS.1 (by rw [e1]; exact hz), fun q h1 h2 => by rw [e1, hk q (Nat.lt_of_lt_of_le h1 hS.1) h2]; exact hS.2.1 q h1 h2, fun q hq => by
      rcases List.mem_append.mp hq with h | h
      · exact hS.2.2 q h
      · exact hL q h⟩ hl T' rfl X'
  exact ⟨t2, stp t2 a1, b1⟩
theorem x_callNI (g : GXx p l s m args meth c D al cA ba cc own nL) {y : MethodName} {ccy : ByteArray} {nLy fr lo idx nA : Nat} {ret : Option FieldType} {F : Sx → Option (Int32 × Sx)} {Kf : Int32 → Sx → Option (α × Sx)} {As : List Value} {stk : List Value} (hM : MCx D al cA ba y ccy nLy ret fr lo rvI As F) (cw : CSx y ccy nLy ret nA) (hy1 : y = yX9_isPlace) (ho1 : own = "FootstepsAhead$World") (hi1 : idx = 59) (hn : As.length = nA) (hR : fr + 1 ≤ R.frames ∧ 8 + (nLy + 11) + lo ≤ R.locals) (hst : stk = As.reverse ++ st) (hroom : (st.map fun v => v.category).sum ≤ 8) (hd : decode cc pc = .ok (.invokestatic idx, 3)) (kk : ∀ (r : Int32) (σ2 : Sx), XTx p l e R s m args below meth c D al cA ba nL Qf kc ks (pc + 3) (lv) (.int r :: st) (σ2) (Kf r σ2)) (hkc : kc ≤ R.cells ∧ ks ≤ R.slots := by exact ⟨Nat.zero_le _, Nat.zero_le _⟩) : XTx p l e R s m args below meth c D al cA ba nL Qf kc ks (pc) (lv) (stk) (σ) (clx (F σ) Kf) := fun out ho H locs ls hP hS hl => by
  obtain ⟨o, hF, hK2⟩ := clx_some ho
  obtain ⟨hw2, hw4, hw5, hdd⟩ := cw
  subst hst
  have hpre : ∀ U : State, U.heap = H → s.WarmedH U.vm → va_Pc As (WDx D al cA ba σ) (As : List Value).toArray U := fun U hU hW => ⟨rfl, by rw [hU]; exact hP, va_K.moved hW.alike g.2.2.2.2.2.1, g.2.2.2.2.2.2.1, by rw [hU]; exact Nat.le_trans g.2.2.2.2.2.2.2.1 hS.1, stx_moved hW (fun a h1 h2 => by rw [hU]; exact hS.2.1 a h1 h2) g.2.2.2.2.2.2.2.2.1⟩
  have hrun := va_runSN (args := args) (e := e) (below := below) (meth := meth) (locs := locs) (As := As) (rest := st) (nL := nL) (own := own) (cells := kc) (slots := ks) (g := F0 m pc ls (As.reverse ++ st)) ⟨g.1, g.2.1, g.2.2.1, g.2.2.2.1, g.2.2.2.2.1⟩ (hM l σ o hF) ⟨va_cnB (own := own) (index := idx) (host := "FootstepsAhead") nA g.2.2.2.2.1 (ws := .code y ccy nLy ret :: TWx) (fun w h => (List.mem_cons.mp h).elim (fun e => by subst e; exact TWx_self _ hw5) (fun h => TWx_self w h)) rfl rfl rfl (by rw [ho1, hy1, hi1]; exact g.2.2.2.2.2.2.2.2.1.2) (g.2.2.2.2.1 _ hw4) hdd hR, g.2.2.2.2.1 _ hw2, trivial⟩ ⟨WDx_blind, hpre⟩ rfl hn hl.1 rfl (lv_room hroom) hd hkc
  intro T hT X
  obtain ⟨v, st₀, t, T', L, h0, X', hL, e1, e2, ⟨hv, hB, hz, hk⟩, stp⟩ := hrun T hT X
  have hv2 : v = rvI o.1 := by cases hv; rfl
  subst hv2
  rw [h0] at hz hk
  obtain ⟨t2, a1, b1⟩ := kk o.1 o.2 out hK2 T'.heap (locs ++ L) ls (by rw [e1]; exact hB.1) ⟨Nat.le_trans hS.1 (by rw [e1]; exact hz), fun q h1 h2 => by rw [e1, hk q (Nat.lt_of_lt_of_le h1 hS.1) h2]; exact hS.2.1 q h1 h2, fun q hq => by
      rcases List.mem_append.mp hq with h | h
      · exact hS.2.2 q h
      · exact hL q h⟩ hl T' rfl X'
  exact ⟨t2, stp t2 a1, b1⟩
theorem x_callNL (g : GXx p l s m args meth c D al cA ba cc own nL) {y : MethodName} {ccy : ByteArray} {nLy fr lo idx nA : Nat} {ret : Option FieldType} {F : Sx → Option (Int64 × Sx)} {Kf : Int64 → Sx → Option (α × Sx)} {As : List Value} {stk : List Value} (hM : MCx D al cA ba y ccy nLy ret fr lo rvL As F) (cw : CSx y ccy nLy ret nA) (hy1 : y = yX9_isPlace) (ho1 : own = "FootstepsAhead$World") (hi1 : idx = 59) (hn : As.length = nA) (hR : fr + 1 ≤ R.frames ∧ 8 + (nLy + 11) + lo ≤ R.locals) (hst : stk = As.reverse ++ st) (hroom : (st.map fun v => v.category).sum ≤ 8) (hd : decode cc pc = .ok (.invokestatic idx, 3)) (kk : ∀ (r : Int64) (σ2 : Sx), XTx p l e R s m args below meth c D al cA ba nL Qf kc ks (pc + 3) (lv) (.long r :: st) (σ2) (Kf r σ2)) (hkc : kc ≤ R.cells ∧ ks ≤ R.slots := by exact ⟨Nat.zero_le _, Nat.zero_le _⟩) : XTx p l e R s m args below meth c D al cA ba nL Qf kc ks (pc) (lv) (stk) (σ) (clx (F σ) Kf) := fun out ho H locs ls hP hS hl => by
  obtain ⟨o, hF, hK2⟩ := clx_some ho
  obtain ⟨hw2, hw4, hw5, hdd⟩ := cw
  subst hst
  have hpre : ∀ U : State, U.heap = H → s.WarmedH U.vm → va_Pc As (WDx D al cA ba σ) (As : List Value).toArray U := fun U hU hW => ⟨rfl, by rw [hU]; exact hP, va_K.moved hW.alike g.2.2.2.2.2.1, g.2.2.2.2.2.2.1, by rw [hU]; exact Nat.le_trans g.2.2.2.2.2.2.2.1 hS.1, stx_moved hW (fun a h1 h2 => by rw [hU]; exact hS.2.1 a h1 h2) g.2.2.2.2.2.2.2.2.1⟩
  have hrun := va_runSN (args := args) (e := e) (below := below) (meth := meth) (locs := locs) (As := As) (rest := st) (nL := nL) (own := own) (cells := kc) (slots := ks) (g := F0 m pc ls (As.reverse ++ st)) ⟨g.1, g.2.1, g.2.2.1, g.2.2.2.1, g.2.2.2.2.1⟩ (hM l σ o hF) ⟨va_cnB (own := own) (index := idx) (host := "FootstepsAhead") nA g.2.2.2.2.1 (ws := .code y ccy nLy ret :: TWx) (fun w h => (List.mem_cons.mp h).elim (fun e => by subst e; exact TWx_self _ hw5) (fun h => TWx_self w h)) rfl rfl rfl (by rw [ho1, hy1, hi1]; exact g.2.2.2.2.2.2.2.2.1.2) (g.2.2.2.2.1 _ hw4) hdd hR, g.2.2.2.2.1 _ hw2, trivial⟩ ⟨WDx_blind, hpre⟩ rfl hn hl.1 rfl (lv_room hroom) hd hkc
  intro T hT X
  obtain ⟨v, st₀, t, T', L, h0, X', hL, e1, e2, ⟨hv, hB, hz, hk⟩, stp⟩ := hrun T hT X
  have hv2 : v = rvL o.1 := by cases hv; rfl
  subst hv2
  rw [h0] at hz hk
  obtain ⟨t2, a1, b1⟩ := kk o.1 o.2 out hK2 T'.heap (locs ++ L) ls (by rw [e1]; exact hB.1) ⟨Nat.le_trans hS.1 (by rw [e1]; exact hz), fun q h1 h2 => by rw [e1, hk q (Nat.lt_of_lt_of_le h1 hS.1) h2]; exact hS.2.1 q h1 h2, fun q hq => by
      rcases List.mem_append.mp hq with h | h
      · exact hS.2.2 q h
      · exact hL q h⟩ hl T' rfl X'
  exact ⟨t2, stp t2 a1, b1⟩
theorem x_callNU (g : GXx p l s m args meth c D al cA ba cc own nL) {y : MethodName} {ccy : ByteArray} {nLy fr lo idx nA : Nat} {ret : Option FieldType} {F : Sx → Option (Unit × Sx)} {Kf : Unit → Sx → Option (α × Sx)} {As : List Value} {stk : List Value} (hM : MCx D al cA ba y ccy nLy ret fr lo rvU As F) (cw : CSx y ccy nLy ret nA) (hy1 : y = yX9_isPlace) (ho1 : own = "FootstepsAhead$World") (hi1 : idx = 59) (hn : As.length = nA) (hR : fr + 1 ≤ R.frames ∧ 8 + (nLy + 11) + lo ≤ R.locals) (hst : stk = As.reverse ++ st) (hroom : (st.map fun v => v.category).sum ≤ 8) (hd : decode cc pc = .ok (.invokestatic idx, 3)) (kk : ∀ (r : Unit) (σ2 : Sx), XTx p l e R s m args below meth c D al cA ba nL Qf kc ks (pc + 3) (lv) (st) (σ2) (Kf r σ2)) (hkc : kc ≤ R.cells ∧ ks ≤ R.slots := by exact ⟨Nat.zero_le _, Nat.zero_le _⟩) : XTx p l e R s m args below meth c D al cA ba nL Qf kc ks (pc) (lv) (stk) (σ) (clx (F σ) Kf) := fun out ho H locs ls hP hS hl => by
  obtain ⟨o, hF, hK2⟩ := clx_some ho
  obtain ⟨hw2, hw4, hw5, hdd⟩ := cw
  subst hst
  have hpre : ∀ U : State, U.heap = H → s.WarmedH U.vm → va_Pc As (WDx D al cA ba σ) (As : List Value).toArray U := fun U hU hW => ⟨rfl, by rw [hU]; exact hP, va_K.moved hW.alike g.2.2.2.2.2.1, g.2.2.2.2.2.2.1, by rw [hU]; exact Nat.le_trans g.2.2.2.2.2.2.2.1 hS.1, stx_moved hW (fun a h1 h2 => by rw [hU]; exact hS.2.1 a h1 h2) g.2.2.2.2.2.2.2.2.1⟩
  have hrun := va_runSN (args := args) (e := e) (below := below) (meth := meth) (locs := locs) (As := As) (rest := st) (nL := nL) (own := own) (cells := kc) (slots := ks) (g := F0 m pc ls (As.reverse ++ st)) ⟨g.1, g.2.1, g.2.2.1, g.2.2.2.1, g.2.2.2.2.1⟩ (hM l σ o hF) ⟨va_cnB (own := own) (index := idx) (host := "FootstepsAhead") nA g.2.2.2.2.1 (ws := .code y ccy nLy ret :: TWx) (fun w h => (List.mem_cons.mp h).elim (fun e => by subst e; exact TWx_self _ hw5) (fun h => TWx_self w h)) rfl rfl rfl (by rw [ho1, hy1, hi1]; exact g.2.2.2.2.2.2.2.2.1.2) (g.2.2.2.2.1 _ hw4) hdd hR, g.2.2.2.2.1 _ hw2, trivial⟩ ⟨WDx_blind, hpre⟩ rfl hn hl.1 rfl (lv_room hroom) hd hkc
  intro T hT X
  obtain ⟨v, st₀, t, T', L, h0, X', hL, e1, e2, ⟨hv, hB, hz, hk⟩, stp⟩ := hrun T hT X
  have hv2 : v = rvU o.1 := by cases hv; rfl
  subst hv2
  rw [h0] at hz hk
  obtain ⟨t2, a1, b1⟩ := kk o.1 o.2 out hK2 T'.heap (locs ++ L) ls (by rw [e1]; exact hB.1) ⟨Nat.le_trans hS.1 (by rw [e1]; exact hz), fun q h1 h2 => by rw [e1, hk q (Nat.lt_of_lt_of_le h1 hS.1) h2]; exact hS.2.1 q h1 h2, fun q hq => by
      rcases List.mem_append.mp hq with h | h
      · exact hS.2.2 q h
      · exact hL q h⟩ hl T' rfl X'
  exact ⟨t2, stp t2 a1, b1⟩
theorem x_jn {β : Type} {b : β} {Kf : β → Option (α × Sx)} (P : β → Prop) (hb : P b) (kk : ∀ j : β, P j → XTx p l e R s m args below meth c D al cA ba nL Qf kc ks (pc) (lv) (st) (σ) (Kf j)) : XTx p l e R s m args below meth c D al cA ba nL Qf kc ks (pc) (lv) (st) (σ) (nmx b Kf) := kk b hb
theorem x_no : XTx p l e R s m args below meth c D al cA ba nL Qf kc ks (pc) (lv) (st) (σ) (none) := fun out ho => by cases ho
theorem x_eqs {x k : Int32} (k1 : XTx p l e R s m args below meth c D al cA ba nL Qf kc ks (pc) (lv) (.int k :: st) (σ) (K1)) (k2 : ¬ x = k → XTx p l e R s m args below meth c D al cA ba nL Qf kc ks (pc) (lv) (.int x :: st) (σ) (K2)) : XTx p l e R s m args below meth c D al cA ba nL Qf kc ks (pc) (lv) (.int x :: st) (σ) (if x = k then K1 else K2) := fun out ho => by
  by_cases h : x = k
  · rw [if_pos h] at ho
    subst h
    exact k1 out ho
  · rw [if_neg h] at ho
    exact k2 h out ho
theorem tab_out {x : Int32} {lo hi : Int} (h : ∀ i : Int, lo ≤ i → i ≤ hi → ¬ x = Int32.ofInt i) : x.toInt < lo ∨ hi < x.toInt := by
  by_cases h1 : x.toInt < lo
  · exact Or.inl h1
  · by_cases h2 : hi < x.toInt
    · exact Or.inr h2
    · exact absurd (Int32.ofInt_toInt x).symm (h x.toInt (by omega) (by omega))
theorem x_tabIn (g : GXx p l s m args meth c D al cA ba cc own nL) {dflt lo hi : Int} {offs : Array Int} {len : Nat} {x : Int32} {off : Int} (h : ¬ x.toInt < lo ∧ ¬ hi < x.toInt ∧ offs[(x.toInt - lo).toNat]? = some off) (ht : (pc : Int) + off = (tgt : Int)) (hd : decode cc pc = .ok (.tableswitch dflt lo hi offs, len)) (kk : XTx p l e R s m args below meth c D al cA ba nL Qf kc ks (tgt) (lv) (st) (σ) (K)) : XTx p l e R s m args below meth c D al cA ba nL Qf kc ks (pc) (lv) (.int x :: st) (σ) (K) := fun out ho H locs ls hP hS hl => lv_tableIn g.1 g.2.1 hd h.1 h.2.1 h.2.2 ht (kk out ho H locs ls hP hS hl)
theorem x_tabOut (g : GXx p l s m args meth c D al cA ba cc own nL) {dflt lo hi : Int} {offs : Array Int} {len : Nat} {x : Int32} (h : ∀ i : Int, lo ≤ i → i ≤ hi → ¬ x = Int32.ofInt i) (ht : (pc : Int) + dflt = (tgt : Int)) (hd : decode cc pc = .ok (.tableswitch dflt lo hi offs, len)) (kk : XTx p l e R s m args below meth c D al cA ba nL Qf kc ks (tgt) (lv) (st) (σ) (K)) : XTx p l e R s m args below meth c D al cA ba nL Qf kc ks (pc) (lv) (.int x :: st) (σ) (K) := fun out ho H locs ls hP hS hl => lv_tableOut g.1 g.2.1 hd (tab_out h) ht (kk out ho H locs ls hP hS hl)
theorem x_look (g : GXx p l s m args meth c D al cA ba cc own nL) {dflt : Int} {ps : Array (Int × Int)} {len : Nat} {x : Int32} {off : Int} (hp : (ps.toList.zip (ps.toList.drop 1)).all (fun (a, next) => a.1 < next.1) = true) (ho2 : Op.lookupswitch.offset ps.toList dflt x.toInt = off) (ht : (pc : Int) + off = (tgt : Int)) (hd : decode cc pc = .ok (.lookupswitch dflt ps, len)) (kk : XTx p l e R s m args below meth c D al cA ba nL Qf kc ks (tgt) (lv) (st) (σ) (K)) : XTx p l e R s m args below meth c D al cA ba nL Qf kc ks (pc) (lv) (.int x :: st) (σ) (K) := fun out ho H locs ls hP hS hl => lv_lookup g.1 g.2.1 hd hp ho2 ht (kk out ho H locs ls hP hS hl)
theorem enx_cp1 {σ : Sx} {i k q : Nat} {sp dp n : Nat} (h : q ≠ k) (r : Nat × Nat × List (Option Nat)) : enx al cA (fun a => if a = k then va_cpy (siI σ i) (siI σ k) sp dp n else σ.1 a, σ.2) q r = enx al cA σ q r := by
  have e1 : siI (fun a => if a = k then va_cpy (siI σ i) (siI σ k) sp dp n else σ.1 a, σ.2) q = siI σ q := by funext b; simp [siI, h]
  have e2 : ∀ refs, fsx al (fun a => if a = k then va_cpy (siI σ i) (siI σ k) sp dp n else σ.1 a, σ.2) q refs = fsx al σ q refs := fun refs => by unfold fsx; rw [e1]
  unfold enx
  rw [e1, e2]
  rfl
theorem enx_cp2 {σ : Sx} {i k q : Nat} {sp dp n : Nat} (h : q ≠ k) (r : Nat × Nat × List (Option Nat)) : enx al cA (σ.1, fun a => if a = k then va_cpy (siL σ i) (siL σ k) sp dp n else σ.2 a) q r = enx al cA σ q r := by
  have e1 : siL (σ.1, fun a => if a = k then va_cpy (siL σ i) (siL σ k) sp dp n else σ.2 a) q = siL σ q := by funext b; simp [siL, h]
  unfold enx
  rw [e1]
  rfl
theorem lk_ne {x : Int32} {k : Int} (h : ¬ x = Int32.ofInt k) (hk : (Int32.ofInt k).toInt = k) : ¬ x.toInt = k := fun e => h (by rw [← e]; exact (Int32.ofInt_toInt x).symm)
theorem lk_dflt {x dflt : Int} : ∀ {ps : List (Int × Int)}, (∀ q ∈ ps, ¬ x = q.1) → Op.lookupswitch.offset ps dflt x = dflt
  | [], _ => rfl
  | (k, o) :: ps, h => by
    unfold Op.lookupswitch.offset
    rw [if_neg (by have := h (k, o) List.mem_cons_self; simpa using fun e => this e.symm)]
    exact lk_dflt fun q hq => h q (List.mem_cons_of_mem _ hq)
def cIx {α : Type} (i ni : Nat) (sp : Int32) (k nk : Nat) (dp n : Int32) (σ : Sx) (K : Sx → Option α) : Option α := if ¬ sp < 0 ∧ ¬ dp < 0 ∧ ¬ n < 0 ∧ sp.toNatClampNeg + n.toNatClampNeg ≤ ni ∧ dp.toNatClampNeg + n.toNatClampNeg ≤ nk then K ((fun a => if a = k then va_cpy (siI σ i) (siI σ k) sp.toNatClampNeg dp.toNatClampNeg n.toNatClampNeg else σ.1 a, σ.2)) else none
theorem x_copyI (g : GXx p l s m args meth c D al cA ba cc own nL) {i k ni nk idx : Nat} {r rk : List (Option Nat)} {sp dp n : Int32} {Kf : Sx → Option (α × Sx)} (hs : shL[i]? = some (1, ni, r)) (hsk : shL[k]? = some (1, nk, rk)) (h0 : ni < 2 ^ 31) (h1 : nk < 2 ^ 31) (hw : Cond.methodLink own idx arraycopyName ∈ TWx) (hlo : 60 ≤ R.locals) (hst : (st.map fun v => v.category).sum ≤ 8) (hd : decode cc pc = .ok (.invokestatic idx, 3)) (hfr : 1 ≤ R.frames) (kk : ∀ σ2 : Sx, XTx p l e R s m args below meth c D al cA ba nL Qf kc ks (pc + 3) (lv) (st) (σ2) (Kf σ2)) : XTx p l e R s m args below meth c D al cA ba nL Qf kc ks (pc) (lv) (.int n :: .int dp :: .ref (al k) :: .int sp :: .ref (al i) :: st) (σ) (cIx i ni sp k nk dp n σ Kf) := fun out ho H locs ls hP hS hl => by
  unfold cIx at ho
  by_cases h : ¬ sp < 0 ∧ ¬ dp < 0 ∧ ¬ n < 0 ∧ sp.toNatClampNeg + n.toNatClampNeg ≤ ni ∧ dp.toNatClampNeg + n.toNatClampNeg ≤ nk
  · rw [if_pos h] at ho
    obtain ⟨q1, q2, q3, q4, q5⟩ := h
    have hcp : (st.map fun v => v.category).sum + (nativeFrameWords "java/lang/System" "arraycopy" 5 + 11) ≤ R.locals := by
      have : nativeFrameWords "java/lang/System" "arraycopy" 5 = 7 := by decide +kernel
      rw [this]
      omega
    have he : (Sum.inl (cA 1, nk, Sum.inl (va_cpy (siI σ i) (siI σ k) sp.toNatClampNeg dp.toNatClampNeg n.toNatClampNeg)) : va_E) = enx al cA (fun a => if a = k then va_cpy (siI σ i) (siI σ k) sp.toNatClampNeg dp.toNatClampNeg n.toNatClampNeg else σ.1 a, σ.2) k (1, nk, rk) := by
      have hf : siI (fun a => if a = k then va_cpy (siI σ i) (siI σ k) sp.toNatClampNeg dp.toNatClampNeg n.toNatClampNeg else σ.1 a, σ.2) k = va_cpy (siI σ i) (siI σ k) sp.toNatClampNeg dp.toNatClampNeg n.toNatClampNeg := by funext b; simp [siI, siL]
      show _ = Sum.inl (cA 1, nk, Sum.inl (siI (fun a => if a = k then va_cpy (siI σ i) (siI σ k) sp.toNatClampNeg dp.toNatClampNeg n.toNatClampNeg else σ.1 a, σ.2) k))
      rw [hf]
    refine va_copyi g.1 g.2.1 (g.2.2.1.trans hl.1.symm) g.2.2.2.1 (g.2.2.2.2.1 _ hw) (g.2.2.2.2.1 _ cp_nat) (g.2.2.2.2.1 _ cp_sta) (g.2.2.2.2.1 _ cp_ini) g.2.2.2.2.2.1 hP (wlx_D g.2.2.2.2.2.2.1) hS i k 0 0 (wlx_at hs) (wlx_at hsk) rfl rfl rfl q1 q2 q3 q4 q5 (fun _ _ => rfl) hfr hcp hd (fun H1 locs1 hP1 _ hS1 => kk _ out ho H1 locs1 ls (wlx_set hsk he (fun q hq r2 => enx_cp1 hq r2) hP1) hS1 hl)
  · rw [if_neg h] at ho
    cases ho
def cLx {α : Type} (i ni : Nat) (sp : Int32) (k nk : Nat) (dp n : Int32) (σ : Sx) (K : Sx → Option α) : Option α := if ¬ sp < 0 ∧ ¬ dp < 0 ∧ ¬ n < 0 ∧ sp.toNatClampNeg + n.toNatClampNeg ≤ ni ∧ dp.toNatClampNeg + n.toNatClampNeg ≤ nk then K ((σ.1, fun a => if a = k then va_cpy (siL σ i) (siL σ k) sp.toNatClampNeg dp.toNatClampNeg n.toNatClampNeg else σ.2 a)) else none
theorem x_copyL (g : GXx p l s m args meth c D al cA ba cc own nL) {i k ni nk idx : Nat} {r rk : List (Option Nat)} {sp dp n : Int32} {Kf : Sx → Option (α × Sx)} (hs : shL[i]? = some (2, ni, r)) (hsk : shL[k]? = some (2, nk, rk)) (h0 : ni < 2 ^ 31) (h1 : nk < 2 ^ 31) (hw : Cond.methodLink own idx arraycopyName ∈ TWx) (hlo : 60 ≤ R.locals) (hst : (st.map fun v => v.category).sum ≤ 8) (hd : decode cc pc = .ok (.invokestatic idx, 3)) (hfr : 1 ≤ R.frames) (kk : ∀ σ2 : Sx, XTx p l e R s m args below meth c D al cA ba nL Qf kc ks (pc + 3) (lv) (st) (σ2) (Kf σ2)) : XTx p l e R s m args below meth c D al cA ba nL Qf kc ks (pc) (lv) (.int n :: .int dp :: .ref (al k) :: .int sp :: .ref (al i) :: st) (σ) (cLx i ni sp k nk dp n σ Kf) := fun out ho H locs ls hP hS hl => by
  unfold cLx at ho
  by_cases h : ¬ sp < 0 ∧ ¬ dp < 0 ∧ ¬ n < 0 ∧ sp.toNatClampNeg + n.toNatClampNeg ≤ ni ∧ dp.toNatClampNeg + n.toNatClampNeg ≤ nk
  · rw [if_pos h] at ho
    obtain ⟨q1, q2, q3, q4, q5⟩ := h
    have hcp : (st.map fun v => v.category).sum + (nativeFrameWords "java/lang/System" "arraycopy" 5 + 11) ≤ R.locals := by
      have : nativeFrameWords "java/lang/System" "arraycopy" 5 = 7 := by decide +kernel
      rw [this]
      omega
    have he : (Sum.inl (cA 2, nk, Sum.inr (Sum.inl (va_cpy (siL σ i) (siL σ k) sp.toNatClampNeg dp.toNatClampNeg n.toNatClampNeg))) : va_E) = enx al cA (σ.1, fun a => if a = k then va_cpy (siL σ i) (siL σ k) sp.toNatClampNeg dp.toNatClampNeg n.toNatClampNeg else σ.2 a) k (2, nk, rk) := by
      have hf : siL (σ.1, fun a => if a = k then va_cpy (siL σ i) (siL σ k) sp.toNatClampNeg dp.toNatClampNeg n.toNatClampNeg else σ.2 a) k = va_cpy (siL σ i) (siL σ k) sp.toNatClampNeg dp.toNatClampNeg n.toNatClampNeg := by funext b; simp [siI, siL]
      show _ = Sum.inl (cA 2, nk, Sum.inr (Sum.inl (siL (σ.1, fun a => if a = k then va_cpy (siL σ i) (siL σ k) sp.toNatClampNeg dp.toNatClampNeg n.toNatClampNeg else σ.2 a) k)))
      rw [hf]
    refine va_copyl g.1 g.2.1 (g.2.2.1.trans hl.1.symm) g.2.2.2.1 (g.2.2.2.2.1 _ hw) (g.2.2.2.2.1 _ cp_nat) (g.2.2.2.2.1 _ cp_sta) (g.2.2.2.2.1 _ cp_ini) g.2.2.2.2.2.1 hP (wlx_D g.2.2.2.2.2.2.1) hS i k 1 1 (wlx_at hs) (wlx_at hsk) rfl rfl rfl q1 q2 q3 q4 q5 (fun _ _ => rfl) hfr hcp hd (fun H1 locs1 hP1 _ hS1 => kk _ out ho H1 locs1 ls (wlx_set hsk he (fun q hq r2 => enx_cp2 hq r2) hP1) hS1 hl)
  · rw [if_neg h] at ho
    cases ho
def lpx0 {α : Type} (body : (Sx → Option α) → Sx → Option α) : Nat → Sx → Option α
  | 0 => fun _ => none
  | n + 1 => body (lpx0 body n)
theorem lpx0_ind {α : Type} {body : (Sx → Option α) → Sx → Option α} (T : Sx → Option α → Prop) (h0 : ∀  (σ : Sx), T σ none) (hs : ∀ self : Sx → Option α, (∀  (σ : Sx), T σ (self σ)) → ∀  (σ : Sx), T σ (body self σ)) : ∀ (n : Nat)  (σ : Sx), T σ (lpx0 body n σ) := by
  intro n
  induction n with
  | zero => exact h0
  | succ n ih => exact hs _ ih
def lpx1 {α : Type} (body : (Int32 → Sx → Option α) → Int32 → Sx → Option α) : Nat → Int32 → Sx → Option α
  | 0 => fun _ _ => none
  | n + 1 => body (lpx1 body n)
theorem lpx1_ind {α : Type} {body : (Int32 → Sx → Option α) → Int32 → Sx → Option α} (T : Int32 → Sx → Option α → Prop) (h0 : ∀ (a0 : Int32) (σ : Sx), T a0 σ none) (hs : ∀ self : Int32 → Sx → Option α, (∀ (a0 : Int32) (σ : Sx), T a0 σ (self a0 σ)) → ∀ (a0 : Int32) (σ : Sx), T a0 σ (body self a0 σ)) : ∀ (n : Nat) (a0 : Int32) (σ : Sx), T a0 σ (lpx1 body n a0 σ) := by
  intro n
  induction n with
  | zero => exact h0
  | succ n ih => exact hs _ ih
def lpx2 {α : Type} (body : (Int32 → Int32 → Sx → Option α) → Int32 → Int32 → Sx → Option α) : Nat → Int32 → Int32 → Sx → Option α
  | 0 => fun _ _ _ => none
  | n + 1 => body (lpx2 body n)
theorem lpx2_ind {α : Type} {body : (Int32 → Int32 → Sx → Option α) → Int32 → Int32 → Sx → Option α} (T : Int32 → Int32 → Sx → Option α → Prop) (h0 : ∀ (a0 : Int32) (a1 : Int32) (σ : Sx), T a0 a1 σ none) (hs : ∀ self : Int32 → Int32 → Sx → Option α, (∀ (a0 : Int32) (a1 : Int32) (σ : Sx), T a0 a1 σ (self a0 a1 σ)) → ∀ (a0 : Int32) (a1 : Int32) (σ : Sx), T a0 a1 σ (body self a0 a1 σ)) : ∀ (n : Nat) (a0 : Int32) (a1 : Int32) (σ : Sx), T a0 a1 σ (lpx2 body n a0 a1 σ) := by
  intro n
  induction n with
  | zero => exact h0
  | succ n ih => exact hs _ ih
def lpx3 {α : Type} (body : (Int32 → Int32 → Int32 → Sx → Option α) → Int32 → Int32 → Int32 → Sx → Option α) : Nat → Int32 → Int32 → Int32 → Sx → Option α
  | 0 => fun _ _ _ _ => none
  | n + 1 => body (lpx3 body n)
theorem lpx3_ind {α : Type} {body : (Int32 → Int32 → Int32 → Sx → Option α) → Int32 → Int32 → Int32 → Sx → Option α} (T : Int32 → Int32 → Int32 → Sx → Option α → Prop) (h0 : ∀ (a0 : Int32) (a1 : Int32) (a2 : Int32) (σ : Sx), T a0 a1 a2 σ none) (hs : ∀ self : Int32 → Int32 → Int32 → Sx → Option α, (∀ (a0 : Int32) (a1 : Int32) (a2 : Int32) (σ : Sx), T a0 a1 a2 σ (self a0 a1 a2 σ)) → ∀ (a0 : Int32) (a1 : Int32) (a2 : Int32) (σ : Sx), T a0 a1 a2 σ (body self a0 a1 a2 σ)) : ∀ (n : Nat) (a0 : Int32) (a1 : Int32) (a2 : Int32) (σ : Sx), T a0 a1 a2 σ (lpx3 body n a0 a1 a2 σ) := by
  intro n
  induction n with
  | zero => exact h0
  | succ n ih => exact hs _ ih
def lpx4 {α : Type} (body : (Int32 → Int32 → Int32 → Int32 → Sx → Option α) → Int32 → Int32 → Int32 → Int32 → Sx → Option α) : Nat → Int32 → Int32 → Int32 → Int32 → Sx → Option α
  | 0 => fun _ _ _ _ _ => none
  | n + 1 => body (lpx4 body n)
theorem lpx4_ind {α : Type} {body : (Int32 → Int32 → Int32 → Int32 → Sx → Option α) → Int32 → Int32 → Int32 → Int32 → Sx → Option α} (T : Int32 → Int32 → Int32 → Int32 → Sx → Option α → Prop) (h0 : ∀ (a0 : Int32) (a1 : Int32) (a2 : Int32) (a3 : Int32) (σ : Sx), T a0 a1 a2 a3 σ none) (hs : ∀ self : Int32 → Int32 → Int32 → Int32 → Sx → Option α, (∀ (a0 : Int32) (a1 : Int32) (a2 : Int32) (a3 : Int32) (σ : Sx), T a0 a1 a2 a3 σ (self a0 a1 a2 a3 σ)) → ∀ (a0 : Int32) (a1 : Int32) (a2 : Int32) (a3 : Int32) (σ : Sx), T a0 a1 a2 a3 σ (body self a0 a1 a2 a3 σ)) : ∀ (n : Nat) (a0 : Int32) (a1 : Int32) (a2 : Int32) (a3 : Int32) (σ : Sx), T a0 a1 a2 a3 σ (lpx4 body n a0 a1 a2 a3 σ) := by
  intro n
  induction n with
  | zero => exact h0
  | succ n ih => exact hs _ ih
def lpx5 {α : Type} (body : (Int32 → Int32 → Int32 → Int32 → Int32 → Sx → Option α) → Int32 → Int32 → Int32 → Int32 → Int32 → Sx → Option α) : Nat → Int32 → Int32 → Int32 → Int32 → Int32 → Sx → Option α
  | 0 => fun _ _ _ _ _ _ => none
  | n + 1 => body (lpx5 body n)
theorem lpx5_ind {α : Type} {body : (Int32 → Int32 → Int32 → Int32 → Int32 → Sx → Option α) → Int32 → Int32 → Int32 → Int32 → Int32 → Sx → Option α} (T : Int32 → Int32 → Int32 → Int32 → Int32 → Sx → Option α → Prop) (h0 : ∀ (a0 : Int32) (a1 : Int32) (a2 : Int32) (a3 : Int32) (a4 : Int32) (σ : Sx), T a0 a1 a2 a3 a4 σ none) (hs : ∀ self : Int32 → Int32 → Int32 → Int32 → Int32 → Sx → Option α, (∀ (a0 : Int32) (a1 : Int32) (a2 : Int32) (a3 : Int32) (a4 : Int32) (σ : Sx), T a0 a1 a2 a3 a4 σ (self a0 a1 a2 a3 a4 σ)) → ∀ (a0 : Int32) (a1 : Int32) (a2 : Int32) (a3 : Int32) (a4 : Int32) (σ : Sx), T a0 a1 a2 a3 a4 σ (body self a0 a1 a2 a3 a4 σ)) : ∀ (n : Nat) (a0 : Int32) (a1 : Int32) (a2 : Int32) (a3 : Int32) (a4 : Int32) (σ : Sx), T a0 a1 a2 a3 a4 σ (lpx5 body n a0 a1 a2 a3 a4 σ) := by
  intro n
  induction n with
  | zero => exact h0
  | succ n ih => exact hs _ ih
def lpx6 {α : Type} (body : (Int32 → Int32 → Int32 → Int32 → Int32 → Int32 → Sx → Option α) → Int32 → Int32 → Int32 → Int32 → Int32 → Int32 → Sx → Option α) : Nat → Int32 → Int32 → Int32 → Int32 → Int32 → Int32 → Sx → Option α
  | 0 => fun _ _ _ _ _ _ _ => none
  | n + 1 => body (lpx6 body n)
theorem lpx6_ind {α : Type} {body : (Int32 → Int32 → Int32 → Int32 → Int32 → Int32 → Sx → Option α) → Int32 → Int32 → Int32 → Int32 → Int32 → Int32 → Sx → Option α} (T : Int32 → Int32 → Int32 → Int32 → Int32 → Int32 → Sx → Option α → Prop) (h0 : ∀ (a0 : Int32) (a1 : Int32) (a2 : Int32) (a3 : Int32) (a4 : Int32) (a5 : Int32) (σ : Sx), T a0 a1 a2 a3 a4 a5 σ none) (hs : ∀ self : Int32 → Int32 → Int32 → Int32 → Int32 → Int32 → Sx → Option α, (∀ (a0 : Int32) (a1 : Int32) (a2 : Int32) (a3 : Int32) (a4 : Int32) (a5 : Int32) (σ : Sx), T a0 a1 a2 a3 a4 a5 σ (self a0 a1 a2 a3 a4 a5 σ)) → ∀ (a0 : Int32) (a1 : Int32) (a2 : Int32) (a3 : Int32) (a4 : Int32) (a5 : Int32) (σ : Sx), T a0 a1 a2 a3 a4 a5 σ (body self a0 a1 a2 a3 a4 a5 σ)) : ∀ (n : Nat) (a0 : Int32) (a1 : Int32) (a2 : Int32) (a3 : Int32) (a4 : Int32) (a5 : Int32) (σ : Sx), T a0 a1 a2 a3 a4 a5 σ (lpx6 body n a0 a1 a2 a3 a4 a5 σ) := by
  intro n
  induction n with
  | zero => exact h0
  | succ n ih => exact hs _ ih
def lpx7 {α : Type} (body : (Int32 → Int32 → Int32 → Int32 → Int32 → Int32 → Int32 → Sx → Option α) → Int32 → Int32 → Int32 → Int32 → Int32 → Int32 → Int32 → Sx → Option α) : Nat → Int32 → Int32 → Int32 → Int32 → Int32 → Int32 → Int32 → Sx → Option α
  | 0 => fun _ _ _ _ _ _ _ _ => none
  | n + 1 => body (lpx7 body n)
theorem lpx7_ind {α : Type} {body : (Int32 → Int32 → Int32 → Int32 → Int32 → Int32 → Int32 → Sx → Option α) → Int32 → Int32 → Int32 → Int32 → Int32 → Int32 → Int32 → Sx → Option α} (T : Int32 → Int32 → Int32 → Int32 → Int32 → Int32 → Int32 → Sx → Option α → Prop) (h0 : ∀ (a0 : Int32) (a1 : Int32) (a2 : Int32) (a3 : Int32) (a4 : Int32) (a5 : Int32) (a6 : Int32) (σ : Sx), T a0 a1 a2 a3 a4 a5 a6 σ none) (hs : ∀ self : Int32 → Int32 → Int32 → Int32 → Int32 → Int32 → Int32 → Sx → Option α, (∀ (a0 : Int32) (a1 : Int32) (a2 : Int32) (a3 : Int32) (a4 : Int32) (a5 : Int32) (a6 : Int32) (σ : Sx), T a0 a1 a2 a3 a4 a5 a6 σ (self a0 a1 a2 a3 a4 a5 a6 σ)) → ∀ (a0 : Int32) (a1 : Int32) (a2 : Int32) (a3 : Int32) (a4 : Int32) (a5 : Int32) (a6 : Int32) (σ : Sx), T a0 a1 a2 a3 a4 a5 a6 σ (body self a0 a1 a2 a3 a4 a5 a6 σ)) : ∀ (n : Nat) (a0 : Int32) (a1 : Int32) (a2 : Int32) (a3 : Int32) (a4 : Int32) (a5 : Int32) (a6 : Int32) (σ : Sx), T a0 a1 a2 a3 a4 a5 a6 σ (lpx7 body n a0 a1 a2 a3 a4 a5 a6 σ) := by
  intro n
  induction n with
  | zero => exact h0
  | succ n ih => exact hs _ ih
def lpx8 {α : Type} (body : (Int32 → Int32 → Int32 → Int32 → Int32 → Int32 → Int32 → Int32 → Sx → Option α) → Int32 → Int32 → Int32 → Int32 → Int32 → Int32 → Int32 → Int32 → Sx → Option α) : Nat → Int32 → Int32 → Int32 → Int32 → Int32 → Int32 → Int32 → Int32 → Sx → Option α
  | 0 => fun _ _ _ _ _ _ _ _ _ => none
  | n + 1 => body (lpx8 body n)
theorem lpx8_ind {α : Type} {body : (Int32 → Int32 → Int32 → Int32 → Int32 → Int32 → Int32 → Int32 → Sx → Option α) → Int32 → Int32 → Int32 → Int32 → Int32 → Int32 → Int32 → Int32 → Sx → Option α} (T : Int32 → Int32 → Int32 → Int32 → Int32 → Int32 → Int32 → Int32 → Sx → Option α → Prop) (h0 : ∀ (a0 : Int32) (a1 : Int32) (a2 : Int32) (a3 : Int32) (a4 : Int32) (a5 : Int32) (a6 : Int32) (a7 : Int32) (σ : Sx), T a0 a1 a2 a3 a4 a5 a6 a7 σ none) (hs : ∀ self : Int32 → Int32 → Int32 → Int32 → Int32 → Int32 → Int32 → Int32 → Sx → Option α, (∀ (a0 : Int32) (a1 : Int32) (a2 : Int32) (a3 : Int32) (a4 : Int32) (a5 : Int32) (a6 : Int32) (a7 : Int32) (σ : Sx), T a0 a1 a2 a3 a4 a5 a6 a7 σ (self a0 a1 a2 a3 a4 a5 a6 a7 σ)) → ∀ (a0 : Int32) (a1 : Int32) (a2 : Int32) (a3 : Int32) (a4 : Int32) (a5 : Int32) (a6 : Int32) (a7 : Int32) (σ : Sx), T a0 a1 a2 a3 a4 a5 a6 a7 σ (body self a0 a1 a2 a3 a4 a5 a6 a7 σ)) : ∀ (n : Nat) (a0 : Int32) (a1 : Int32) (a2 : Int32) (a3 : Int32) (a4 : Int32) (a5 : Int32) (a6 : Int32) (a7 : Int32) (σ : Sx), T a0 a1 a2 a3 a4 a5 a6 a7 σ (lpx8 body n a0 a1 a2 a3 a4 a5 a6 a7 σ) := by
  intro n
  induction n with
  | zero => exact h0
  | succ n ih => exact hs _ ih
end XR
