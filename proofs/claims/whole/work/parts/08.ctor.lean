def GK (p : Program) (l : Launch) (e : Env) (R : Room) (s : State) (m : MethodId) (args : Array Value) (below : List Frame) (meth : Method) (c : Code) (Q : State → Prop) (nL : Nat) (D : va_G) (A : Nat → Prop) (cells slots pc : Nat) (lv : List (Nat × Value)) (st : List Value) (ws : va_W) : Prop :=
  ∀ (H : Heap) (locs : List Loc) (ls : Array Slot), va_P D vwCl ws H → va_D A ws → va_S A s.heap H locs → lv_has ls nL lv → W p l e R s m args below meth c H locs cells slots Q (F0 m pc ls st)
theorem arrV_ext {cA : ClassId} {n : Nat} {f g : Nat → Value} (h : ∀ j, j < n → f j = g j) : arrV cA n f = arrV cA n g := by
  unfold arrV
  congr 1
  apply Array.ext
  · simp
  · intro i h1 h2
    simp at h1 ⊢
    exact h i h1
/-- a constructor's contract: the object alone, then what it is with what it has made -/
def pvK (D : va_G) (tys : List (ClassId × FieldType)) (NX : State → Prop) (b : Nat) (e0 : va_E) (sz : Nat) (As : List Value) : Array Value → State → Prop := va_Pc (.ref b :: As) (fun U => U.heap.size = sz ∧ va_P D vwCl [(b, e0)] U.heap ∧ va_K D vwCl tys U ∧ va_D (fun _ => True) [(b, e0)] ∧ NX U)
def atK (D : va_G) (tys : List (ClassId × FieldType)) (A : Nat → Prop) (w1 : (Nat → Nat) → va_W) (u : Nat → Nat) (t : State) : Prop := va_P D vwCl (w1 u) t.heap ∧ va_K D vwCl tys t ∧ va_D A (w1 u)
def NXok (NX : State → Prop) : Prop := ∀ (s U : State), s.WarmedH U.vm → NX s → NX U
theorem met_K {l : Launch} {y : MethodName} {bytes : ByteArray} {maxL mc ms : Nat} {rm : Room} {As : List Value} {own : String} {lv : List (Nat × Value)} {D : va_G} {tys : List (ClassId × FieldType)} {NX : State → Prop} {b : Nat} {e0 : va_E} {sz : Nat} {w1 : (Nat → Nat) → va_W} (hy : plainName y.cls = true) (ho : y.cls = own) (hi : y.name = "<init>") (hn : (lg_sl (.ref b :: As)).length ≤ maxL) (hlv : lv_args 0 (.ref b :: As) = lv)
    (body : ∀ (p : Program) (e : Env) (s : State) (m : MethodId) (args : Array Value) (below : List Frame) (meth : Method) (c : Code) (A : Nat → Prop), CallFix p m c bytes maxL s args AW own → va_K D vwCl tys s → NX s → (∀ q, s.heap.size ≤ q → A q) → meth.sig.returnType = none → meth.locks = false → meth.name = "<init>" → GK p l e rm s m args below meth c (MQ below (va_Qv (fun _ : Nat → Nat => True) (atK D tys A w1) A) args s mc ms A) maxL D A 0 0 0 lv [] [(b, e0)]) : Met l y (.code y bytes maxL none :: AW) rm (pvK D tys NX b e0 sz As) (va_Qv (fun _ : Nat → Nat => True) (atK D tys (va_A [(b, e0)] sz) w1) (va_A [(b, e0)] sz)) mc ms (va_A [(b, e0)] sz) := by
  subst ho; subst hlv
  refine Met.ofW (cc := bytes) (maxL := maxL) (ret := none) hy rfl ?_
  intro p e s m args below meth c s₁ B hml hv
  obtain ⟨rfl, hsz, hP, hK, hD, hX⟩ := hv
  have hts := atoms_spec (ws := .code y bytes maxL none :: AW) B.pre
  have hown : s.vm.findClass y.cls = some m.cls := findClass_of_methodNamed B.named
  have hl := lv_entry (.ref b :: As) (n := maxL) hn
  rw [lg_entry_eq]
  have hnm : meth.name = "<init>" := by rw [(name_of_methodNamed B.named B.method).1, hi]
  exact body p e s m _ below meth c _ ⟨B.exec, B.bytes, hml, hown, fun w h => hts w (List.mem_cons_of_mem _ h)⟩ hK hX (fun q h => Or.inr (by rw [← hsz]; exact h)) B.returns B.notSynchronized hnm s.heap [] _ hP hD.self va_S.rf hl
section GKR
variable {p : Program} {l : Launch} {e : Env} {R : Room} {s : State} {m : MethodId} {args : Array Value} {below : List Frame} {meth : Method} {c : Code} {Q : State → Prop} {nL : Nat} {D : va_G} {A : Nat → Prop} {cells slots : Nat} {cc : ByteArray} {own : String} {pc : Nat} {lv lv' : List (Nat × Value)} {st : List Value} {ws ws' : va_W} {tys : List (ClassId × FieldType)}
theorem k_iconst (X : CallFix p m c cc nL s args AW own) {n : Int} {v : Int32} (hv : Int32.ofInt n = v) (hd : decode cc pc = .ok (.iconst n, 1)) (k : GK p l e R s m args below meth c Q nL D A cells slots (pc + 1) lv (.int v :: st) ws) : GK p l e R s m args below meth c Q nL D A cells slots pc lv st ws :=
  fun H locs ls hP hD hS hl => lv_iconst X.1 X.2.1 hd hv (k H locs ls hP hD hS hl)
theorem k_bipush (X : CallFix p m c cc nL s args AW own) {n : Int} {v : Int32} (hv : (Int8.ofInt n).toInt32 = v) (hd : decode cc pc = .ok (.bipush n, 2)) (k : GK p l e R s m args below meth c Q nL D A cells slots (pc + 2) lv (.int v :: st) ws) : GK p l e R s m args below meth c Q nL D A cells slots pc lv st ws :=
  fun H locs ls hP hD hS hl => lv_bipush X.1 X.2.1 hd hv (k H locs ls hP hD hS hl)
theorem k_sipush (X : CallFix p m c cc nL s args AW own) {n : Int} {v : Int32} (hv : (Int16.ofInt n).toInt32 = v) (hd : decode cc pc = .ok (.sipush n, 3)) (k : GK p l e R s m args below meth c Q nL D A cells slots (pc + 3) lv (.int v :: st) ws) : GK p l e R s m args below meth c Q nL D A cells slots pc lv st ws :=
  fun H locs ls hP hD hS hl => lv_sipush X.1 X.2.1 hd hv (k H locs ls hP hD hS hl)
theorem k_iload_n (X : CallFix p m c cc nL s args AW own) {q : Fin 4} {i : Nat} {x : Int32} (hi : (q : Nat) = i) (z : Nat) (hz : lv[z]? = some (i, .int x)) (hd : decode cc pc = .ok (.iload_n q, 1)) (k : GK p l e R s m args below meth c Q nL D A cells slots (pc + 1) lv (.int x :: st) ws) : GK p l e R s m args below meth c Q nL D A cells slots pc lv st ws :=
  fun H locs ls hP hD hS hl => lv_iload_n X.1 X.2.1 hd hi (lv_at hl z hz) (k H locs ls hP hD hS hl)
theorem k_aload_n (X : CallFix p m c cc nL s args AW own) {q : Fin 4} {i : Nat} {x : Nat} (hi : (q : Nat) = i) (z : Nat) (hz : lv[z]? = some (i, .ref x)) (hd : decode cc pc = .ok (.aload_n q, 1)) (k : GK p l e R s m args below meth c Q nL D A cells slots (pc + 1) lv (.ref x :: st) ws) : GK p l e R s m args below meth c Q nL D A cells slots pc lv st ws :=
  fun H locs ls hP hD hS hl => lv_aload_n X.1 X.2.1 hd hi (lv_at hl z hz) (k H locs ls hP hD hS hl)
theorem k_istore_n (X : CallFix p m c cc nL s args AW own) {q : Fin 4} {i : Nat} {x : Int32} (hi : (q : Nat) = i) (hn : i < nL) (he : (i, Value.int x) :: lv.filter (fun q => !(q.1 == i) && !(q.1 + 1 == i && q.2.category == 2)) = lv') (hd : decode cc pc = .ok (.istore_n q, 1)) (k : GK p l e R s m args below meth c Q nL D A cells slots (pc + 1) lv' st ws) : GK p l e R s m args below meth c Q nL D A cells slots pc lv (.int x :: st) ws :=
  fun H locs ls hP hD hS hl => lv_istore_n X.1 X.2.1 hd hi hl hn he (fun ls hl => k H locs ls hP hD hS hl)
theorem k_iinc (X : CallFix p m c cc nL s args AW own) {i : Nat} {n : Int} {x v : Int32} (z : Nat) (hz : lv[z]? = some (i, .int x)) (hv : x + Int32.ofInt n = v) (hn : i < nL) (he : (i, Value.int v) :: lv.filter (fun q => !(q.1 == i) && !(q.1 + 1 == i && q.2.category == 2)) = lv') (hd : decode cc pc = .ok (.iinc i n, 3)) (k : GK p l e R s m args below meth c Q nL D A cells slots (pc + 3) lv' st ws) : GK p l e R s m args below meth c Q nL D A cells slots pc lv st ws :=
  fun H locs ls hP hD hS hl => lv_iinc X.1 X.2.1 hd hl hz hv hn he (fun ls hl => k H locs ls hP hD hS hl)
theorem k_dup (X : CallFix p m c cc nL s args AW own) {v : Value} (hc : v.category = 1) (hd : decode cc pc = .ok (.dup, 1)) (k : GK p l e R s m args below meth c Q nL D A cells slots (pc + 1) lv (v :: v :: st) ws) : GK p l e R s m args below meth c Q nL D A cells slots pc lv (v :: st) ws :=
  fun H locs ls hP hD hS hl => lv_dup X.1 X.2.1 hd hc (k H locs ls hP hD hS hl)
theorem k_goto (X : CallFix p m c cc nL s args AW own) {off : Int} {tgt : Nat} (ht : (pc : Int) + off = (tgt : Int)) (hd : decode cc pc = .ok (.goto off, 3)) (k : GK p l e R s m args below meth c Q nL D A cells slots tgt lv st ws) : GK p l e R s m args below meth c Q nL D A cells slots pc lv st ws :=
  fun H locs ls hP hD hS hl => lv_goto X.1 X.2.1 hd ht (k H locs ls hP hD hS hl)
theorem k_icmp_ge (X : CallFix p m c cc nL s args AW own) {x y : Int32} {off : Int} {tgt : Nat} (ht : (pc : Int) + off = (tgt : Int)) (hd : decode cc pc = .ok (.if_icmp .ge off, 3)) (kt : y ≤ x → GK p l e R s m args below meth c Q nL D A cells slots tgt lv st ws) (kf : ¬ y ≤ x → GK p l e R s m args below meth c Q nL D A cells slots (pc + 3) lv st ws) : GK p l e R s m args below meth c Q nL D A cells slots pc lv (.int y :: .int x :: st) ws :=
  fun H locs ls hP hD hS hl => lv_icmp_ge X.1 X.2.1 hd ht (fun h => kt h H locs ls hP hD hS hl) (fun h => kf h H locs ls hP hD hS hl)
theorem k_mmin (X : CallFix p m c cc nL s args AW own) {i : Nat} {x y : Int32} (hw : Cond.methodLink own i Lib.Math.min.name ∈ AW) (hw2 : Cond.static Lib.Math.min.name ∈ AW) (hw3 : Cond.initialized "java/lang/Math" ∈ AW) (hw4 : Cond.code Lib.Math.min.name Lib.Math.min.code 2 (some .int) ∈ AW) (hf : 1 ≤ R.frames) (hm : (st.map fun v => v.category).sum + 13 ≤ R.locals) (hc : cells ≤ R.cells) (hsl : slots ≤ R.slots) (hd : decode cc pc = .ok (.invokestatic i, 3)) (k : GK p l e R s m args below meth c Q nL D A cells slots (pc + 3) lv (.int (if y < x then y else x) :: st) ws) : GK p l e R s m args below meth c Q nL D A cells slots pc lv (.int y :: .int x :: st) ws :=
  fun H locs ls hP hD hS hl => va_mmin X.1 X.2.1 (X.2.2.1.trans hl.1.symm) X.2.2.2.1 (X.2.2.2.2 _ hw) (X.2.2.2.2 _ hw2) (X.2.2.2.2 _ hw3) (X.2.2.2.2 _ hw4) hf hm hc hsl hd (k H locs ls hP hD hS hl)
theorem k_obj (X : CallFix p m c cc nL s args AW own) {i b : Nat} (hw : Cond.methodLink own i Lib.objectInit ∈ AW) (hw2 : Cond.instanceMethod Lib.objectInit ∈ AW) (hw3 : Cond.code Lib.objectInit ⟨#[0xb1]⟩ 1 none ∈ AW) (hf : 1 ≤ R.frames) (hm : 12 ≤ R.locals) (hd : decode cc pc = .ok (.invokespecial i, 3)) (k : GK p l e R s m args below meth c Q nL D A cells slots (pc + 3) lv [] ws) : GK p l e R s m args below meth c Q nL D A cells slots pc lv [.ref b] ws :=
  fun H locs ls hP hD hS hl => W.objInit X.1 X.2.1 X.2.2.2.1 (X.2.2.2.2 _ hw) (X.2.2.2.2 _ hw2) (X.2.2.2.2 _ hw3) rfl (hl.1.trans X.2.2.1.symm) rfl hd hf hm (k H locs ls hP hD hS hl)
theorem k_newa (X : CallFix p m c cc nL s args AW own) (hK : va_K D vwCl tys s) (hA : ∀ q, s.heap.size ≤ q → A q) {atype : ArrayType} {ty : FieldType} {cA : ClassId} {t0 N' : Nat} {n : Int32} (hty : newarray.typeOf atype = ty) (hw : Cond.arrayClass (newarray.typeOf atype) ∈ AW) (ht : tys[t0]? = some (cA, ty)) (hra : ∀ c', va_RA s c' ty → s.vm.findClass ("[" ++ ty.toString) = some c') (ha : ∀ cA : ClassId, vp_cell cA (N', .inl (fun _ => 0)) = arrV cA N' (fun _ => defaultValue ty)) (hn : ¬ n < 0) (hN : n.toNatClampNeg = N') (hb : N' * componentBytes ty ≤ 536870912) (hc : cells + 1 ≤ R.cells) (hsl : slots + N' ≤ R.slots) (hd : decode cc pc = .ok (.newarray atype, 2))
    (kk : ∀ q : Nat, GK p l e R s m args below meth c Q nL D A (cells + 1) (slots + N') (pc + 2) lv (.ref q :: st) (ws ++ [(q, .inl (cA, N', .inl (fun _ => 0)))])) : GK p l e R s m args below meth c Q nL D A cells slots pc lv (.int n :: st) ws := by
  intro H locs ls hP hD hS hl
  refine va_newa (a0 := (N', .inl (fun _ => 0))) X.1 X.2.1 (X.2.2.2.2 _ hw) hty hK hP hD hS hA ha hn hN hb hc hsl hd (fun q cB H1 hK1 hP1 hD1 hS1 => ?_)
  have e1 := hra cA (hK.2 t0 _ ht).2
  have e2 := hra cB (hK1.2 tys.length (cB, ty) (by simp)).2
  have e : cB = cA := Option.some.inj (e2.symm.trans e1)
  subst e
  exact kk q H1 locs ls hP1 hD1 hS1 hl
theorem k_newq (X : CallFix p m c cc nL s args AW own) (hK : va_K D vwCl tys s) (hA : ∀ q, s.heap.size ≤ q → A q) {C : String} {cA : ClassId} {i t0 N' : Nat} {n : Int32} (hw : Cond.classLink own i C ∈ AW) (hov : va_AO C s) (ht : tys[t0]? = some (cA, .object C)) (hn : ¬ n < 0) (hN : n.toNatClampNeg = N') (hb : N' * 4 ≤ 536870912) (hc : cells + 1 ≤ R.cells) (hsl : slots + N' ≤ R.slots) (hd : decode cc pc = .ok (.anewarray i, 3))
    (kk : ∀ q : Nat, GK p l e R s m args below meth c Q nL D A (cells + 1) (slots + N') (pc + 3) lv (.ref q :: st) (ws ++ [(q, .inl (cA, N', .inr (.inr (.inr (.inr (fun _ => none))))))])) : GK p l e R s m args below meth c Q nL D A cells slots pc lv (.int n :: st) ws := by
  intro H locs ls hP hD hS hl
  refine va_newq X.1 X.2.1 X.2.2.2.1 (X.2.2.2.2 _ hw) hov hK hP hD hS hA hn hN hb hc hsl hd (fun q cB H1 hK1 hP1 hD1 hS1 => ?_)
  obtain ⟨_, _, _, _, _, e1⟩ := (hK.2 t0 _ ht).2
  obtain ⟨_, _, _, _, _, e2⟩ := (hK1.2 tys.length (cB, .object C) (by simp)).2
  have e : cB = cA := Option.some.inj (e2.symm.trans e1)
  subst e
  exact kk q H1 locs ls hP1 hD1 hS1 hl
theorem k_new (X : CallFix p m c cc nL s args AW own) (hK : va_K D vwCl tys s) (hA : ∀ q, s.heap.size ≤ q → A q) {C : String} {T : u_T} {N ci i : Nat} {fs : List Value} (hin : ∀ w ∈ u_ws C T N, w ∈ AW) (ty : Nat → FieldType) (hty : ∀ k, k < N → parseFieldDescriptor (T k).2.2.1 = some (ty k)) (hw : Cond.classLink own i C ∈ AW) (hw2 : Cond.instantiable C N ∈ AW) (hw3 : Cond.initialized C ∈ AW) (hc : vwCl[ci]? = some (C, T, N)) (hfs : ∀ j, j < N → defaultValue (ty j) = vp_V fs j) (hcl : cells + 1 ≤ R.cells) (hsl : slots + N ≤ R.slots) (hd : decode cc pc = .ok (.new i, 3))
    (kk : ∀ q : Nat, GK p l e R s m args below meth c Q nL D A (cells + 1) (slots + N) (pc + 3) lv (.ref q :: st) (ws ++ [(q, .inr (ci, fs))])) : GK p l e R s m args below meth c Q nL D A cells slots pc lv st ws := by
  intro H locs ls hP hD hS hl
  exact va_new X.1 X.2.1 X.2.2.2.2 hin ty hty X.2.2.2.1 (X.2.2.2.2 _ hw) (X.2.2.2.2 _ hw2) (X.2.2.2.2 _ hw3) hK hP hD hS hA hc hfs hcl hsl hd (fun q H1 hP1 hD1 hS1 => kk q H1 locs ls hP1 hD1 hS1 hl)
theorem k_put (X : CallFix p m c cc nL s args AW own) (hK : va_K D vwCl tys s) {C : String} {T : u_T} {N ci i a : Nat} {fs : List Value} {v : Value} {ty : FieldType} (hin : ∀ w ∈ u_ws C T N, w ∈ AW) (ty0 : Nat → FieldType) (hty : ∀ k, k < N → parseFieldDescriptor (T k).2.2.1 = some (ty0 k)) (hnm : ∀ a, a < N → ∀ b, b < N → a ≠ b → (T a).2.1 ≠ (T b).2.1) (k0 : Nat) (he : ws[k0]? = some (a, .inr (ci, fs))) (hc : vwCl[ci]? = some (C, T, N)) (j : Nat) (hj : j < N) (hw : Cond.fieldLink own i (T j).1 (T j).2.1 (T j).2.2.1 ∈ AW) (hfin : (T j).2.2.2 = false) (hdt : parseFieldDescriptor (T j).2.2.1 = some ty) (hn : narrow ty v = v) (hft : fits ty v = true) (hlen : j < fs.length) (hws : ws.set k0 (a, .inr (ci, fs.set j v)) = ws') (hd : decode cc pc = .ok (.putfield i, 3))
    (kk : GK p l e R s m args below meth c Q nL D A cells slots (pc + 3) lv st ws') : GK p l e R s m args below meth c Q nL D A cells slots pc lv (v :: .ref a :: st) ws := by
  intro H locs ls hP hD hS hl
  subst hws
  exact va_put X.1 X.2.1 X.2.2.2.2 hin ty0 hty hnm X.2.2.2.1 hK hP hD hS k0 he hc j hj (X.2.2.2.2 _ hw) (fun _ h9 => h9) hfin hdt hn hft hlen hd (fun H1 locs1 hP1 hD1 hS1 => kk H1 locs1 ls hP1 hD1 hS1 hl)
theorem k_putF (X : CallFix p m c cc nL s args AW own) (hK : va_K D vwCl tys s) {C : String} {T : u_T} {N ci i a : Nat} {fs : List Value} {v : Value} {ty : FieldType} (hin : ∀ w ∈ u_ws C T N, w ∈ AW) (ty0 : Nat → FieldType) (hty : ∀ k, k < N → parseFieldDescriptor (T k).2.2.1 = some (ty0 k)) (hnm : ∀ a, a < N → ∀ b, b < N → a ≠ b → (T a).2.1 ≠ (T b).2.1) (k0 : Nat) (he : ws[k0]? = some (a, .inr (ci, fs))) (hc : vwCl[ci]? = some (C, T, N)) (j : Nat) (hj : j < N) (hw : Cond.fieldLink own i (T j).1 (T j).2.1 (T j).2.2.1 ∈ AW) (hfin : (T j).2.2.2 = true) (hin2 : meth.name = "<init>") (hown2 : (T j).1 = own) (hdt : parseFieldDescriptor (T j).2.2.1 = some ty) (hn : narrow ty v = v) (hft : fits ty v = true) (hlen : j < fs.length) (hws : ws.set k0 (a, .inr (ci, fs.set j v)) = ws') (hd : decode cc pc = .ok (.putfield i, 3))
    (kk : GK p l e R s m args below meth c Q nL D A cells slots (pc + 3) lv st ws') : GK p l e R s m args below meth c Q nL D A cells slots pc lv (v :: .ref a :: st) ws := by
  intro H locs ls hP hD hS hl
  subst hws
  exact va_putF X.1 X.2.1 X.2.2.2.2 hin ty0 hty hnm X.2.2.2.1 hK hP hD hS k0 he hc j hj (X.2.2.2.2 _ hw) (fun _ h9 => h9) hfin hin2 hown2 hdt hn hft hlen hd (fun H1 locs1 hP1 hD1 hS1 => kk H1 locs1 ls hP1 hD1 hS1 hl)
theorem k_get (X : CallFix p m c cc nL s args AW own) (hK : va_K D vwCl tys s) {C : String} {T : u_T} {N ci i a : Nat} {fs : List Value} {v : Value} (hin : ∀ w ∈ u_ws C T N, w ∈ AW) (k0 : Nat) (he : ws[k0]? = some (a, .inr (ci, fs))) (hc : vwCl[ci]? = some (C, T, N)) (j : Nat) (hj : j < N) (hw : Cond.fieldLink own i (T j).1 (T j).2.1 (T j).2.2.1 ∈ AW) (hv : fs[j]? = some v) (hd : decode cc pc = .ok (.getfield i, 3))
    (kk : GK p l e R s m args below meth c Q nL D A cells slots (pc + 3) lv (v :: st) ws) : GK p l e R s m args below meth c Q nL D A cells slots pc lv (.ref a :: st) ws :=
  fun H locs ls hP hD hS hl => va_get X.1 X.2.1 X.2.2.2.2 hin X.2.2.2.1 hK hP k0 he hc j hj (X.2.2.2.2 _ hw) (fun _ h9 => h9) hv hd (kk H locs ls hP hD hS hl)
theorem k_iast (X : CallFix p m c cc nL s args AW own) (hK : va_K D vwCl tys s) {a t0 n : Nat} {cA : ClassId} {f : Nat → Int32} {i x : Int32} (k0 : Nat) (he : ws[k0]? = some (a, .inl (cA, n, .inl f))) (ht : tys[t0]? = some (cA, .int)) (hin : vp_in i n) (hws : ws.set k0 (a, .inl (cA, n, .inl (upd f i.toNatClampNeg x))) = ws') (hd : decode cc pc = .ok (.iastore, 1))
    (kk : GK p l e R s m args below meth c Q nL D A cells slots (pc + 1) lv st ws') : GK p l e R s m args below meth c Q nL D A cells slots pc lv (.int x :: .int i :: .ref a :: st) ws := by
  intro H locs ls hP hD hS hl
  subst hws
  exact va_iast X.1 X.2.1 hK hP hD hS k0 t0 he ht hin hd (fun H1 locs1 hP1 hD1 hS1 => kk H1 locs1 ls hP1 hD1 hS1 hl)
theorem k_aast (X : CallFix p m c cc nL s args AW own) (hK : va_K D vwCl tys s) {a t0 n v ci : Nat} {vs : List Value} {r : vw_C} {cA : ClassId} {f : Nat → Option Nat} {i : Int32} (k0 k1 : Nat) (he : ws[k0]? = some (a, .inl (cA, n, .inr (.inr (.inr (.inr f)))))) (ht : tys[t0]? = some (cA, .object r.1)) (hv : ws[k1]? = some (v, .inr (ci, vs))) (hc : vwCl[ci]? = some r) (hin : vp_in i n) (hws : ws.set k0 (a, .inl (cA, n, .inr (.inr (.inr (.inr (va_up f i.toNatClampNeg (some v))))))) = ws') (hd : decode cc pc = .ok (.aastore, 1))
    (kk : GK p l e R s m args below meth c Q nL D A cells slots (pc + 1) lv st ws') : GK p l e R s m args below meth c Q nL D A cells slots pc lv (.ref v :: .int i :: .ref a :: st) ws := by
  intro H locs ls hP hD hS hl
  subst hws
  exact va_astq X.1 X.2.1 hK hP hD hS k0 t0 k1 ci he ht hv hc hin hd (fun H1 locs1 hP1 hD1 hS1 => kk H1 locs1 ls hP1 hD1 hS1 hl)
theorem fb_K {NX : State → Prop} (hok : NXok NX) {b : Nat} {e0 : va_E} {sz : Nat} {As : List Value} : FrameBlind (pvK D tys NX b e0 sz As) := fun a U g mk q => ⟨q.1, q.2.1, q.2.2.1, va_K.moved (u := U) (U := U.calling g mk a) (Vm.Alike.refl U.vm) q.2.2.2.1, q.2.2.2.2.1, hok U (U.calling g mk a) (State.WarmedH.refl U) q.2.2.2.2.2⟩
/-- behind a constructor's call: what was there before, and what it has made -/
theorem k_join {ws : va_W} {b : Nat} {e0 : va_E} {w1 : va_W} {H H1 : Heap} {locs : List Loc} (hP : va_P D vwCl (ws ++ [(b, e0)]) H) (hD : va_D A (ws ++ [(b, e0)])) (hS : va_S A s.heap H locs) (hA : ∀ q, s.heap.size ≤ q → A q) (hk : ∀ q : Nat, q < H.size → ¬ va_A [(b, e0)] H.size q → H1[q]? = H[q]?) (hP1 : va_P D vwCl w1 H1) (hD1 : va_D (va_A [(b, e0)] H.size) w1) : va_P D vwCl (ws ++ w1) H1 ∧ va_D A (ws ++ w1) := by
  have hb : (ws ++ [(b, e0)])[ws.length]? = some (b, e0) := by simp
  have hF : ∀ q, va_A [(b, e0)] H.size q → A q := by
    intro q h
    rcases h with ⟨k, x, h⟩ | h
    · cases k with
      | zero => cases h; exact hD.2 _ _ hb
      | succ k => simp at h
    · exact hA q (Nat.le_trans hS.1 h)
  have hin : ∀ (k : Nat) (q : Nat × va_E), ws[k]? = some q → (ws ++ [(b, e0)])[k]? = some q ∧ k < ws.length := by
    intro k q h
    have hl := (List.getElem?_eq_some_iff.mp h).1
    exact ⟨by rw [List.getElem?_append_left hl]; exact h, hl⟩
  have apart : ∀ (k : Nat) (q : Nat × va_E), ws[k]? = some q → q.1 < H.size ∧ ¬ va_A [(b, e0)] H.size q.1 := by
    intro k q h
    obtain ⟨h1, h2⟩ := hin k q h
    have hl := (hP k q h1).lt
    refine ⟨hl, fun z => ?_⟩
    rcases z with ⟨k2, x, z⟩ | z
    · cases k2 with
      | zero =>
        have e1 : q.1 = b := by cases z; rfl
        have := hD.1 k ws.length q (b, e0) h1 hb e1
        omega
      | succ k2 => simp at z
    · omega
  refine ⟨va_P.app (fun k q h => ?_) hP1, va_D.app ⟨fun i j x y hi hj hxy => ?_, fun k q h => hD.2 k q (hin k q h).1⟩ (hD1.weaken (fun k q _ h => hF q.1 h)) (fun i j x y hx hy hxy => ?_)⟩
  · obtain ⟨g1, g2⟩ := apart k q h
    exact (hP k q (hin k q h).1).kept (hk q.1 g1 g2)
  · exact hD.1 i j x y (hin i x hi).1 (hin j y hj).1 hxy
  · exact (apart i x hx).2 (by rw [hxy]; exact hD1.2 j y hy)
theorem k_ctor (X : CallFix p m c cc nL s args AW own) (hK : va_K D vwCl tys s) (hA : ∀ q, s.heap.size ≤ q → A q) {NX : State → Prop} (hok : NXok NX) (hNX : NX s) {y : MethodName} {bytes : ByteArray} {maxL n mc ms i b : Nat} {rm : Room} {e0 : va_E} {As st0 : List Value} {w1 : (Nat → Nat) → va_W} (hM : ∀ sz, Met l y (.code y bytes maxL none :: AW) rm (pvK D tys NX b e0 sz As) (va_Qv (fun _ : Nat → Nat => True) (atK D tys (va_A [(b, e0)] sz) w1) (va_A [(b, e0)] sz)) mc ms (va_A [(b, e0)] sz)) (hcd : Cond.code y bytes maxL none ∈ AW) (hin : Cond.initialized y.cls ∈ AW) (hins : Cond.instanceMethod y ∈ AW) (hl0 : Cond.methodLink own i y ∈ AW) (hy1 : y.name = "<init>") (hd0 : y.cls ≠ "java/lang/invoke/MethodHandle" ∧ y.cls ≠ "java/lang/invoke/VarHandle" ∧ (parseMethodDescriptor y.desc).map (fun d => d.parameters.length) = some n) (hrc : rm.cells = mc) (hrs : rm.slots = ms) (hRm : rm.frames + 1 ≤ R.frames ∧ 8 + (maxL + 11) + rm.locals ≤ R.locals) (hn : As.length = n) (hst : st0 = As.reverse ++ .ref b :: st) (hrm : (st.map fun v => v.category).sum ≤ 8) (hcl : cells + mc ≤ R.cells) (hsl : slots + ms ≤ R.slots) (hd : decode cc pc = .ok (.invokespecial i, 3))
    (kk : ∀ u : Nat → Nat, GK p l e R s m args below meth c Q nL D A (cells + mc) (slots + ms) (pc + 3) lv st (ws ++ w1 u)) : GK p l e R s m args below meth c Q nL D A cells slots pc lv st0 (ws ++ [(b, e0)]) := by
  intro H locs ls hP hD hS hl
  have hb : (ws ++ [(b, e0)])[ws.length]? = some (b, e0) := by simp
  have hPc : va_P D vwCl [(b, e0)] H := by
    intro k q h
    cases k with
    | zero => cases h; exact hP _ _ hb
    | succ k => simp at h
  have hDc : va_D (fun _ => True) [(b, e0)] := ⟨fun i j x y hi hj _ => by cases i <;> cases j <;> simp at hi hj ⊢, fun _ _ _ => trivial⟩
  have hF : ∀ q, va_A [(b, e0)] H.size q → A q := by
    intro q h
    rcases h with ⟨k, x, h⟩ | h
    · cases k with
      | zero => cases h; exact hD.2 _ _ hb
      | succ k => simp at h
    · exact hA q (Nat.le_trans hS.1 h)
  refine va_callv (va_runI (As := As) (rest := st) X (hM H.size) (cwI n X.2.2.2.2 (gd_of hcd) rfl hrc hrs (X.2.2.2.2 _ hin) (X.2.2.2.2 _ hl0) (X.2.2.2.2 _ hins) hy1 hd0 hRm) ⟨fb_K hok, fun U hU hW => ⟨rfl, by rw [hU], by rw [hU]; exact hPc, va_K.moved hW.alike hK, hDc, hok s U hW hNX⟩⟩ rfl hn hl.1 hst (lv_room hrm) hd ⟨hcl, hsl⟩) hS (fun q _ h => hF q h) hF (fun u t H1 locs1 ht hvm hw hB hz1 hk1 hS1 => ?_)
  obtain ⟨hP2, hD2⟩ := k_join hP hD hS hA hk1 (by rw [← ht]; exact hB.1) hB.2.2
  exact kk u H1 locs1 ls hP2 hD2 hS1 hl
theorem k_ctorN (X : CallFix p m c cc nL s args AW own) (hK : va_K D vwCl tys s) (hA : ∀ q, s.heap.size ≤ q → A q) {NX : State → Prop} (hok : NXok NX) (hNX : NX s) {y : MethodName} {bytes : ByteArray} {maxL n mc ms i b : Nat} {rm : Room} {e0 : va_E} {As st0 : List Value} {w1 : (Nat → Nat) → va_W} (hM : ∀ sz, Met l y (.code y bytes maxL none :: AW) rm (pvK D tys NX b e0 sz As) (va_Qv (fun _ : Nat → Nat => True) (atK D tys (va_A [(b, e0)] sz) w1) (va_A [(b, e0)] sz)) mc ms (va_A [(b, e0)] sz)) (hcd : Cond.code y bytes maxL none ∈ AW) (hin : Cond.initialized y.cls ∈ AW) (hins : Cond.instanceMethod y ∈ AW) {host : String} (hl0 : va_Nw (.methodLinkNest own i y host) s) (hy1 : y.name = "<init>") (hd0 : y.cls ≠ "java/lang/invoke/MethodHandle" ∧ y.cls ≠ "java/lang/invoke/VarHandle" ∧ (parseMethodDescriptor y.desc).map (fun d => d.parameters.length) = some n) (hrc : rm.cells = mc) (hrs : rm.slots = ms) (hRm : rm.frames + 1 ≤ R.frames ∧ 8 + (maxL + 11) + rm.locals ≤ R.locals) (hn : As.length = n) (hst : st0 = As.reverse ++ .ref b :: st) (hrm : (st.map fun v => v.category).sum ≤ 8) (hcl : cells + mc ≤ R.cells) (hsl : slots + ms ≤ R.slots) (hd : decode cc pc = .ok (.invokespecial i, 3))
    (kk : ∀ u : Nat → Nat, GK p l e R s m args below meth c Q nL D A (cells + mc) (slots + ms) (pc + 3) lv st (ws ++ w1 u)) : GK p l e R s m args below meth c Q nL D A cells slots pc lv st0 (ws ++ [(b, e0)]) := by
  intro H locs ls hP hD hS hl
  have hb : (ws ++ [(b, e0)])[ws.length]? = some (b, e0) := by simp
  have hPc : va_P D vwCl [(b, e0)] H := by
    intro k q h
    cases k with
    | zero => cases h; exact hP _ _ hb
    | succ k => simp at h
  have hDc : va_D (fun _ => True) [(b, e0)] := ⟨fun i j x y hi hj _ => by cases i <;> cases j <;> simp at hi hj ⊢, fun _ _ _ => trivial⟩
  have hF : ∀ q, va_A [(b, e0)] H.size q → A q := by
    intro q h
    rcases h with ⟨k, x, h⟩ | h
    · cases k with
      | zero => cases h; exact hD.2 _ _ hb
      | succ k => simp at h
    · exact hA q (Nat.le_trans hS.1 h)
  refine va_callv (va_runIN (As := As) (rest := st) X (hM H.size) (⟨va_cnB n X.2.2.2.2 (gd_of hcd) rfl hrc hrs hl0 (X.2.2.2.2 _ hin) hd0 hRm, hy1, X.2.2.2.2 _ hins⟩) ⟨fb_K hok, fun U hU hW => ⟨rfl, by rw [hU], by rw [hU]; exact hPc, va_K.moved hW.alike hK, hDc, hok s U hW hNX⟩⟩ rfl hn hl.1 hst (lv_room hrm) hd ⟨hcl, hsl⟩) hS (fun q _ h => hF q h) hF (fun u t H1 locs1 ht hvm hw hB hz1 hk1 hS1 => ?_)
  obtain ⟨hP2, hD2⟩ := k_join hP hD hS hA hk1 (by rw [← ht]; exact hB.1) hB.2.2
  exact kk u H1 locs1 ls hP2 hD2 hS1 hl
theorem k_ret (X : CallFix p m c cc nL s args AW own) (hK : va_K D vwCl tys s) {w1 : (Nat → Nat) → va_W} {mc ms : Nat} (u : Nat → Nat) (is : List Nat) (hr : meth.sig.returnType = none) (hlk : meth.locks = false) (hc : cells ≤ mc) (hsl : slots ≤ ms) (hw : is.map (fun i => ws[i]?) = (w1 u).map some) (hnd : va_nd is = true) (hd : decode cc pc = .ok (.return_, 1)) : GK p l e R s m args below meth c (MQ below (va_Qv (fun _ : Nat → Nat => True) (atK D tys A w1) A) args s mc ms A) nL D A cells slots pc lv [] ws := by
  intro H locs ls hP hD hS hl
  refine W.widen (k := mc) (n := ms) hc hsl ?_
  have hD9 := hD.sub is hnd hw
  have hP9 : va_P D vwCl (w1 u) H := by
    intro k q h
    have h1 : (is.map (fun i => ws[i]?))[k]? = some (some q) := by rw [hw, List.getElem?_map, h]; rfl
    rw [List.getElem?_map] at h1
    cases hi : is[k]? with
    | none => rw [hi] at h1; cases h1
    | some i => rw [hi] at h1; exact hP i q (Option.some.inj h1)
  exact W.vret X.1 X.2.1 hr (fun t ht hW => ⟨⟨u, rfl, trivial, by rw [ht]; exact hP9, va_K.moved hW.alike hK, hD9⟩, hS.F ht⟩) hS.2.2 hd hlk
end GKR
