abbrev Sg : Type := Nat → Nat → Int32
/-- cell k becomes f -/
def ptf (σ : Sg) (k : Nat) (f : Nat → Int32) : Sg := fun q => if q = k then f else σ q
/-- place j of cell k becomes x -/
def pt (σ : Sg) (k j : Nat) (x : Int32) : Sg := ptf σ k (upd (σ k) j x)
theorem ptf_eq (σ : Sg) (k : Nat) (f : Nat → Int32) : ptf σ k f k = f := if_pos rfl
theorem ptf_ne (σ : Sg) {k q : Nat} (f : Nat → Int32) (h : q ≠ k) : ptf σ k f q = σ q := if_neg h
theorem pt_eq (σ : Sg) (k j : Nat) (x : Int32) : pt σ k j x k = upd (σ k) j x := if_pos rfl
theorem pt_ne (σ : Sg) {k q : Nat} (j : Nat) (x : Int32) (h : q ≠ k) : pt σ k j x q = σ q := if_neg h
/-- a world by its cells' numbers -/
def wl (N : Nat) (a : Nat → Nat) (E : Nat → (Nat → Int32) → va_E) (σ : Sg) : va_W := (List.range N).map (fun k => (a k, E k (σ k)))
theorem wl_at {N : Nat} {a : Nat → Nat} {E : Nat → (Nat → Int32) → va_E} {σ : Sg} {k : Nat} (h : k < N) : (wl N a E σ)[k]? = some (a k, E k (σ k)) := by
  unfold wl
  rw [List.getElem?_map, List.getElem?_range h]
  rfl
theorem wl_ate {N : Nat} {a : Nat → Nat} {E : Nat → (Nat → Int32) → va_E} {σ : Sg} {k : Nat} {x : va_E} (h : k < N) (e : E k (σ k) = x) : (wl N a E σ)[k]? = some (a k, x) := by
  rw [wl_at h, e]
theorem wl_len {N : Nat} {a : Nat → Nat} {E : Nat → (Nat → Int32) → va_E} {σ : Sg} : (wl N a E σ).length = N := by
  unfold wl
  rw [List.length_map, List.length_range]
theorem wl_set {N : Nat} {a : Nat → Nat} {E : Nat → (Nat → Int32) → va_E} {σ : Sg} {k : Nat} {f : Nat → Int32} {x : va_E} (e : E k f = x) : (wl N a E σ).set k (a k, x) = wl N a E (ptf σ k f) := by
  apply List.ext_getElem?
  intro i
  by_cases hi : i < N
  · rw [wl_at hi]
    by_cases hk : k = i
    · subst hk
      rw [List.getElem?_set_self (by rw [wl_len]; exact hi), ptf_eq, e]
    · rw [List.getElem?_set_ne hk, wl_at hi, ptf_ne _ _ (Ne.symm hk)]
  · rw [List.getElem?_eq_none (by rw [List.length_set, wl_len]; omega), List.getElem?_eq_none (by rw [wl_len]; omega)]
/-- loops -/
def lq0 (F : (Prop) → Prop) : Nat → Prop
  | 0 => False
  | n + 1 => F (lq0 F n)
def lq1 {A1 : Type} (F : (A1 → Prop) → A1 → Prop) : Nat → A1 → Prop
  | 0, _ => False
  | n + 1, a1 => F (lq1 F n) a1
def lq2 {A1 A2 : Type} (F : (A1 → A2 → Prop) → A1 → A2 → Prop) : Nat → A1 → A2 → Prop
  | 0, _, _ => False
  | n + 1, a1, a2 => F (lq2 F n) a1 a2
def lq3 {A1 A2 A3 : Type} (F : (A1 → A2 → A3 → Prop) → A1 → A2 → A3 → Prop) : Nat → A1 → A2 → A3 → Prop
  | 0, _, _, _ => False
  | n + 1, a1, a2, a3 => F (lq3 F n) a1 a2 a3
def lq4 {A1 A2 A3 A4 : Type} (F : (A1 → A2 → A3 → A4 → Prop) → A1 → A2 → A3 → A4 → Prop) : Nat → A1 → A2 → A3 → A4 → Prop
  | 0, _, _, _, _ => False
  | n + 1, a1, a2, a3, a4 => F (lq4 F n) a1 a2 a3 a4
def lq5 {A1 A2 A3 A4 A5 : Type} (F : (A1 → A2 → A3 → A4 → A5 → Prop) → A1 → A2 → A3 → A4 → A5 → Prop) : Nat → A1 → A2 → A3 → A4 → A5 → Prop
  | 0, _, _, _, _, _ => False
  | n + 1, a1, a2, a3, a4, a5 => F (lq5 F n) a1 a2 a3 a4 a5
def lq6 {A1 A2 A3 A4 A5 A6 : Type} (F : (A1 → A2 → A3 → A4 → A5 → A6 → Prop) → A1 → A2 → A3 → A4 → A5 → A6 → Prop) : Nat → A1 → A2 → A3 → A4 → A5 → A6 → Prop
  | 0, _, _, _, _, _, _ => False
  | n + 1, a1, a2, a3, a4, a5, a6 => F (lq6 F n) a1 a2 a3 a4 a5 a6
def lq7 {A1 A2 A3 A4 A5 A6 A7 : Type} (F : (A1 → A2 → A3 → A4 → A5 → A6 → A7 → Prop) → A1 → A2 → A3 → A4 → A5 → A6 → A7 → Prop) : Nat → A1 → A2 → A3 → A4 → A5 → A6 → A7 → Prop
  | 0, _, _, _, _, _, _, _ => False
  | n + 1, a1, a2, a3, a4, a5, a6, a7 => F (lq7 F n) a1 a2 a3 a4 a5 a6 a7
def lq8 {A1 A2 A3 A4 A5 A6 A7 A8 : Type} (F : (A1 → A2 → A3 → A4 → A5 → A6 → A7 → A8 → Prop) → A1 → A2 → A3 → A4 → A5 → A6 → A7 → A8 → Prop) : Nat → A1 → A2 → A3 → A4 → A5 → A6 → A7 → A8 → Prop
  | 0, _, _, _, _, _, _, _, _ => False
  | n + 1, a1, a2, a3, a4, a5, a6, a7, a8 => F (lq8 F n) a1 a2 a3 a4 a5 a6 a7 a8
def lq9 {A1 A2 A3 A4 A5 A6 A7 A8 A9 : Type} (F : (A1 → A2 → A3 → A4 → A5 → A6 → A7 → A8 → A9 → Prop) → A1 → A2 → A3 → A4 → A5 → A6 → A7 → A8 → A9 → Prop) : Nat → A1 → A2 → A3 → A4 → A5 → A6 → A7 → A8 → A9 → Prop
  | 0, _, _, _, _, _, _, _, _, _ => False
  | n + 1, a1, a2, a3, a4, a5, a6, a7, a8, a9 => F (lq9 F n) a1 a2 a3 a4 a5 a6 a7 a8 a9
theorem ite_t {c A B : Prop} [d : Decidable c] (hc : c) (h : if c then A else B) : A := by rwa [if_pos hc] at h
theorem ite_f {c A B : Prop} [d : Decidable c] (hc : ¬ c) (h : if c then A else B) : B := by rwa [if_neg hc] at h
theorem gd_of {w : Cond} (h : w ∈ AW) : GoodIn AW (w :: AW) := by
  have key : ∀ v ∈ AW, v ∈ AW ∧ ((v.onTables && v.keeps) = true ∨ ∃ ty, v = .arrayClass ty) := fun v hv => ⟨hv, good_of_word (List.all_eq_true.mp AW_good v hv)⟩
  intro v hv
  rcases List.mem_cons.mp hv with e | e
  · subst e; exact key v h
  · exact key v e
/-- what the words say of an instance method of class C, of n parameters -/
def MIV (C : String) (y : MethodName) (bytes : ByteArray) (maxL : Nat) (ret : Option FieldType) (n : Nat) : Prop := .code y bytes maxL ret ∈ AW ∧ .initialized y.cls ∈ AW ∧ .instanceMethod y ∈ AW ∧ .selects C y y ∈ AW ∧ (y.cls ≠ "java/lang/invoke/MethodHandle" ∧ y.cls ≠ "java/lang/invoke/VarHandle" ∧ (parseMethodDescriptor y.desc).map (fun d => d.parameters.length) = some n)
def MIS (y : MethodName) (bytes : ByteArray) (maxL : Nat) (ret : Option FieldType) (n : Nat) : Prop := .code y bytes maxL ret ∈ AW ∧ .initialized y.cls ∈ AW ∧ .static y ∈ AW ∧ (y.cls ≠ "java/lang/invoke/MethodHandle" ∧ y.cls ≠ "java/lang/invoke/VarHandle" ∧ (parseMethodDescriptor y.desc).map (fun d => d.parameters.length) = some n)
/-- contracts: no world; a world that is read; a world that is written -/
def pv0 (Z : Prop) (av : List Value) : Array Value → State → Prop := va_Pc av (fun _ => Z)
def pvP (D : va_G) (tys : List (ClassId × FieldType)) (w : va_W) (Z : Prop) (av : List Value) : Array Value → State → Prop := va_Pc av (fun U => va_P D vwCl w U.heap ∧ va_K D vwCl tys U ∧ Z)
def pvM (D : va_G) (tys : List (ClassId × FieldType)) (SX : (Nat → Prop) → State → Heap → Prop) (w : va_W) (sz : Nat) (Z : Prop) (av : List Value) : Array Value → State → Prop := va_Pc av (fun U => U.heap.size = sz ∧ va_P D vwCl w U.heap ∧ va_K D vwCl tys U ∧ va_D (fun _ => True) w ∧ SX (va_A w sz) U U.heap ∧ Z)
def atM (D : va_G) (tys : List (ClassId × FieldType)) (wd : Sg → va_W) (A : Nat → Prop) (σ : Sg) (t : State) : Prop := va_P D vwCl (wd σ) t.heap ∧ va_K D vwCl tys t ∧ va_D A (wd σ)
/-- what is carried of statics: it moves with the machine, it stays where nothing is written -/
def SXok (SX : (Nat → Prop) → State → Heap → Prop) : Prop := (∀ (A : Nat → Prop) (u U : State) (H : Heap), u.vm.Alike U.vm → SX A u H → SX A U H) ∧ (∀ (A : Nat → Prop) (U : State) (H H1 : Heap), SX A U H → (∀ a : Nat, a < H.size → ¬ A a → H1[a]? = H[a]?) → SX A U H1) ∧ (∀ (A B : Nat → Prop) (U : State) (H : Heap), SX A U H → (∀ q, B q → A q) → SX B U H)
/-- heaps on the way: nothing known; the world read; the world written -/
def hp0 (s : State) : Sg → Heap → List Loc → Prop := fun _ H locs => H = s.heap ∧ locs = []
def hpP (D : va_G) (wd : Sg → va_W) (s : State) : Sg → Heap → List Loc → Prop := fun σ H locs => va_P D vwCl (wd σ) H ∧ H = s.heap ∧ locs = []
def hpM (D : va_G) (wd : Sg → va_W) (A : Nat → Prop) (s : State) : Sg → Heap → List Loc → Prop := fun σ H locs => va_P D vwCl (wd σ) H ∧ va_D A (wd σ) ∧ va_S A s.heap H locs
def G (p : Program) (l : Launch) (e : Env) (R : Room) (s : State) (m : MethodId) (args : Array Value) (below : List Frame) (meth : Method) (c : Code) (Q : State → Prop) (nL : Nat) (Hp : Sg → Heap → List Loc → Prop) (pc : Nat) (lv : List (Nat × Value)) (st : List Value) (σ : Sg) : Prop :=
  ∀ (H : Heap) (locs : List Loc) (ls : Array Slot), Hp σ H locs → lv_has ls nL lv → W p l e R s m args below meth c H locs 0 0 Q (F0 m pc ls st)
theorem met_of {l : Launch} {y : MethodName} {bytes : ByteArray} {maxL : Nat} {ret : Option FieldType} {rm : Room} {Qc : Array Value → State → Outcome → State → Prop} {free : Addr → Prop} {av : List Value} {B0 : State → Prop} (hy : plainName y.cls = true) (hn : (lg_sl av).length ≤ maxL)
    (body : ∀ (p : Program) (e : Env) (s : State) (m : MethodId) (below : List Frame) (meth : Method) (c : Code), CallFix p m c bytes maxL s av.toArray AW y.cls → meth.sig.returnType = ret → meth.locks = false → B0 s → ∀ ls, lv_has ls maxL (lv_args 0 av) → W p l e rm s m av.toArray below meth c s.heap [] 0 0 (MQ below Qc av.toArray s 0 0 free) (F0 m 0 ls [])) : Met l y (.code y bytes maxL ret :: AW) rm (va_Pc av B0) Qc 0 0 free := by
  refine Met.ofW (cc := bytes) (maxL := maxL) (ret := ret) hy rfl ?_
  intro p e s m args below meth c s₁ B hml hv
  obtain ⟨rfl, hB⟩ := hv
  have hts := atoms_spec (ws := .code y bytes maxL ret :: AW) B.pre
  have hown : s.vm.findClass y.cls = some m.cls := findClass_of_methodNamed B.named
  have hl := lv_entry av (n := maxL) hn
  rw [lg_entry_eq]
  exact body p e s m below meth c ⟨B.exec, B.bytes, hml, hown, fun w h => hts w (List.mem_cons_of_mem _ h)⟩ B.returns B.notSynchronized hB _ hl
theorem met_0 {l : Launch} {y : MethodName} {bytes : ByteArray} {maxL : Nat} {ret : Option FieldType} {rm : Room} {Qc : Array Value → State → Outcome → State → Prop} {free : Addr → Prop} {av : List Value} {Z : Prop} (σ : Sg) (hy : plainName y.cls = true) (hn : (lg_sl av).length ≤ maxL)
    (body : ∀ (p : Program) (e : Env) (s : State) (m : MethodId) (below : List Frame) (meth : Method) (c : Code), CallFix p m c bytes maxL s av.toArray AW y.cls → meth.sig.returnType = ret → meth.locks = false → Z → G p l e rm s m av.toArray below meth c (MQ below Qc av.toArray s 0 0 free) maxL (hp0 s) 0 (lv_args 0 av) [] σ) : Met l y (.code y bytes maxL ret :: AW) rm (pv0 Z av) Qc 0 0 free :=
  met_of hy hn (fun p e s m below meth c X hr hk h ls hl => body p e s m below meth c X hr hk h s.heap [] ls ⟨rfl, rfl⟩ hl)
theorem met_P {l : Launch} {y : MethodName} {bytes : ByteArray} {maxL : Nat} {ret : Option FieldType} {rm : Room} {Qc : Array Value → State → Outcome → State → Prop} {free : Addr → Prop} {av : List Value} {Z : Prop} {D : va_G} {tys : List (ClassId × FieldType)} {wd : Sg → va_W} {σ : Sg} (hy : plainName y.cls = true) (hn : (lg_sl av).length ≤ maxL)
    (body : ∀ (p : Program) (e : Env) (s : State) (m : MethodId) (below : List Frame) (meth : Method) (c : Code), CallFix p m c bytes maxL s av.toArray AW y.cls → va_K D vwCl tys s → meth.sig.returnType = ret → meth.locks = false → Z → G p l e rm s m av.toArray below meth c (MQ below Qc av.toArray s 0 0 free) maxL (hpP D wd s) 0 (lv_args 0 av) [] σ) : Met l y (.code y bytes maxL ret :: AW) rm (pvP D tys (wd σ) Z av) Qc 0 0 free :=
  met_of hy hn (fun p e s m below meth c X hr hk h ls hl => body p e s m below meth c X h.2.1 hr hk h.2.2 s.heap [] ls ⟨h.1, rfl, rfl⟩ hl)
theorem met_M {l : Launch} {y : MethodName} {bytes : ByteArray} {maxL : Nat} {ret : Option FieldType} {rm : Room} {Qc : Array Value → State → Outcome → State → Prop} {av : List Value} {Z : Prop} {D : va_G} {tys : List (ClassId × FieldType)} {SX : (Nat → Prop) → State → Heap → Prop} {wd : Sg → va_W} {σ : Sg} {sz : Nat} (hy : plainName y.cls = true) (hn : (lg_sl av).length ≤ maxL)
    (body : ∀ (p : Program) (e : Env) (s : State) (m : MethodId) (below : List Frame) (meth : Method) (c : Code), CallFix p m c bytes maxL s av.toArray AW y.cls → va_K D vwCl tys s → SX (va_A (wd σ) sz) s s.heap → (∀ q, s.heap.size ≤ q → va_A (wd σ) sz q) → meth.sig.returnType = ret → meth.locks = false → Z → G p l e rm s m av.toArray below meth c (MQ below Qc av.toArray s 0 0 (va_A (wd σ) sz)) maxL (hpM D wd (va_A (wd σ) sz) s) 0 (lv_args 0 av) [] σ) : Met l y (.code y bytes maxL ret :: AW) rm (pvM D tys SX (wd σ) sz Z av) Qc 0 0 (va_A (wd σ) sz) :=
  met_of hy hn (fun p e s m below meth c X hr hk h ls hl => body p e s m below meth c X h.2.2.1 h.2.2.2.2.1 (fun q hq => Or.inr (by rw [← h.1]; exact hq)) hr hk h.2.2.2.2.2 s.heap [] ls ⟨h.2.1, h.2.2.2.1.self, va_S.rf⟩ hl)
section GR
variable {p : Program} {l : Launch} {e : Env} {R : Room} {s : State} {m : MethodId} {args : Array Value} {below : List Frame} {meth : Method} {c : Code} {Q : State → Prop} {nL : Nat} {Hp : Sg → Heap → List Loc → Prop} {cc : ByteArray} {own : String} {pc : Nat} {lv lv' : List (Nat × Value)} {st : List Value} {σ : Sg}
theorem g_iconst (X : CallFix p m c cc nL s args AW own) {n : Int} {v : Int32} (hv : Int32.ofInt n = v) (hd : decode cc pc = .ok (.iconst n, 1)) (k : G p l e R s m args below meth c Q nL Hp (pc + 1) lv (.int v :: st) σ) : G p l e R s m args below meth c Q nL Hp pc lv st σ :=
  fun H locs ls hH hl => lv_iconst X.1 X.2.1 hd hv (k H locs ls hH hl)
theorem g_bipush (X : CallFix p m c cc nL s args AW own) {n : Int} {v : Int32} (hv : (Int8.ofInt n).toInt32 = v) (hd : decode cc pc = .ok (.bipush n, 2)) (k : G p l e R s m args below meth c Q nL Hp (pc + 2) lv (.int v :: st) σ) : G p l e R s m args below meth c Q nL Hp pc lv st σ :=
  fun H locs ls hH hl => lv_bipush X.1 X.2.1 hd hv (k H locs ls hH hl)
theorem g_sipush (X : CallFix p m c cc nL s args AW own) {n : Int} {v : Int32} (hv : (Int16.ofInt n).toInt32 = v) (hd : decode cc pc = .ok (.sipush n, 3)) (k : G p l e R s m args below meth c Q nL Hp (pc + 3) lv (.int v :: st) σ) : G p l e R s m args below meth c Q nL Hp pc lv st σ :=
  fun H locs ls hH hl => lv_sipush X.1 X.2.1 hd hv (k H locs ls hH hl)
theorem g_lconst (X : CallFix p m c cc nL s args AW own) {n : Fin 2} {v : Int64} (hv : Int64.ofNat (n : Nat) = v) (hd : decode cc pc = .ok (.lconst n, 1)) (k : G p l e R s m args below meth c Q nL Hp (pc + 1) lv (.long v :: st) σ) : G p l e R s m args below meth c Q nL Hp pc lv st σ :=
  fun H locs ls hH hl => lv_lconst X.1 X.2.1 hd hv (k H locs ls hH hl)
theorem g_ldc (X : CallFix p m c cc nL s args AW own) {i : Nat} {v : Int32} (hw : Cond.constant own i v ∈ AW) (hd : decode cc pc = .ok (.ldc i, 2)) (k : G p l e R s m args below meth c Q nL Hp (pc + 2) lv (.int v :: st) σ) : G p l e R s m args below meth c Q nL Hp pc lv st σ :=
  fun H locs ls hH hl => lv_ldc X.1 X.2.1 X.2.2.2.1 (X.2.2.2.2 _ hw) hd (k H locs ls hH hl)
theorem g_ldcw (X : CallFix p m c cc nL s args AW own) {i : Nat} {v : Int32} (hw : Cond.constant own i v ∈ AW) (hd : decode cc pc = .ok (.ldc_w i, 3)) (k : G p l e R s m args below meth c Q nL Hp (pc + 3) lv (.int v :: st) σ) : G p l e R s m args below meth c Q nL Hp pc lv st σ :=
  fun H locs ls hH hl => lv_ldcw X.1 X.2.1 X.2.2.2.1 (X.2.2.2.2 _ hw) hd (k H locs ls hH hl)
theorem g_ldc2 (X : CallFix p m c cc nL s args AW own) {i : Nat} {v : Int64} (hw : Cond.constantLong own i v ∈ AW) (hd : decode cc pc = .ok (.ldc2_w i, 3)) (k : G p l e R s m args below meth c Q nL Hp (pc + 3) lv (.long v :: st) σ) : G p l e R s m args below meth c Q nL Hp pc lv st σ :=
  fun H locs ls hH hl => lv_ldc2 X.1 X.2.1 X.2.2.2.1 (X.2.2.2.2 _ hw) hd (k H locs ls hH hl)
theorem g_iload_n (X : CallFix p m c cc nL s args AW own) {q : Fin 4} {i : Nat} {x : Int32} (hi : (q : Nat) = i) (z : Nat) (hz : lv[z]? = some (i, .int x)) (hd : decode cc pc = .ok (.iload_n q, 1)) (k : G p l e R s m args below meth c Q nL Hp (pc + 1) lv (.int x :: st) σ) : G p l e R s m args below meth c Q nL Hp pc lv st σ :=
  fun H locs ls hH hl => lv_iload_n X.1 X.2.1 hd hi (lv_at hl z hz) (k H locs ls hH hl)
theorem g_iload (X : CallFix p m c cc nL s args AW own) {i : Nat} {x : Int32} (z : Nat) (hz : lv[z]? = some (i, .int x)) (hd : decode cc pc = .ok (.iload i, 2)) (k : G p l e R s m args below meth c Q nL Hp (pc + 2) lv (.int x :: st) σ) : G p l e R s m args below meth c Q nL Hp pc lv st σ :=
  fun H locs ls hH hl => lv_iload X.1 X.2.1 hd (lv_at hl z hz) (k H locs ls hH hl)
theorem g_istore_n (X : CallFix p m c cc nL s args AW own) {q : Fin 4} {i : Nat} {x : Int32} (hi : (q : Nat) = i) (hn : i < nL) (he : (i, Value.int x) :: lv.filter (fun q => !(q.1 == i) && !(q.1 + 1 == i && q.2.category == 2)) = lv') (hd : decode cc pc = .ok (.istore_n q, 1)) (k : G p l e R s m args below meth c Q nL Hp (pc + 1) lv' st σ) : G p l e R s m args below meth c Q nL Hp pc lv (.int x :: st) σ :=
  fun H locs ls hH hl => lv_istore_n X.1 X.2.1 hd hi hl hn he (fun ls hl => k H locs ls hH hl)
theorem g_istore (X : CallFix p m c cc nL s args AW own) {i : Nat} {x : Int32} (hn : i < nL) (he : (i, Value.int x) :: lv.filter (fun q => !(q.1 == i) && !(q.1 + 1 == i && q.2.category == 2)) = lv') (hd : decode cc pc = .ok (.istore i, 2)) (k : G p l e R s m args below meth c Q nL Hp (pc + 2) lv' st σ) : G p l e R s m args below meth c Q nL Hp pc lv (.int x :: st) σ :=
  fun H locs ls hH hl => lv_istore X.1 X.2.1 hd hl hn he (fun ls hl => k H locs ls hH hl)
theorem g_lload_n (X : CallFix p m c cc nL s args AW own) {q : Fin 4} {i : Nat} {x : Int64} (hi : (q : Nat) = i) (z : Nat) (hz : lv[z]? = some (i, .long x)) (hd : decode cc pc = .ok (.lload_n q, 1)) (k : G p l e R s m args below meth c Q nL Hp (pc + 1) lv (.long x :: st) σ) : G p l e R s m args below meth c Q nL Hp pc lv st σ :=
  fun H locs ls hH hl => lv_lload_n X.1 X.2.1 hd hi (lv_at hl z hz) (k H locs ls hH hl)
theorem g_lload (X : CallFix p m c cc nL s args AW own) {i : Nat} {x : Int64} (z : Nat) (hz : lv[z]? = some (i, .long x)) (hd : decode cc pc = .ok (.lload i, 2)) (k : G p l e R s m args below meth c Q nL Hp (pc + 2) lv (.long x :: st) σ) : G p l e R s m args below meth c Q nL Hp pc lv st σ :=
  fun H locs ls hH hl => lv_lload X.1 X.2.1 hd (lv_at hl z hz) (k H locs ls hH hl)
theorem g_lstore_n (X : CallFix p m c cc nL s args AW own) {q : Fin 4} {i : Nat} {x : Int64} (hi : (q : Nat) = i) (hn : i + 1 < nL) (he : (i, Value.long x) :: lv.filter (fun q => !(q.1 == i) && (!(q.1 == i + 1) && !(q.1 + 1 == i && q.2.category == 2))) = lv') (hd : decode cc pc = .ok (.lstore_n q, 1)) (k : G p l e R s m args below meth c Q nL Hp (pc + 1) lv' st σ) : G p l e R s m args below meth c Q nL Hp pc lv (.long x :: st) σ :=
  fun H locs ls hH hl => lv_lstore_n X.1 X.2.1 hd hi hl hn he (fun ls hl => k H locs ls hH hl)
theorem g_lstore (X : CallFix p m c cc nL s args AW own) {i : Nat} {x : Int64} (hn : i + 1 < nL) (he : (i, Value.long x) :: lv.filter (fun q => !(q.1 == i) && (!(q.1 == i + 1) && !(q.1 + 1 == i && q.2.category == 2))) = lv') (hd : decode cc pc = .ok (.lstore i, 2)) (k : G p l e R s m args below meth c Q nL Hp (pc + 2) lv' st σ) : G p l e R s m args below meth c Q nL Hp pc lv (.long x :: st) σ :=
  fun H locs ls hH hl => lv_lstore X.1 X.2.1 hd hl hn he (fun ls hl => k H locs ls hH hl)
theorem g_aload_n (X : CallFix p m c cc nL s args AW own) {q : Fin 4} {i : Nat} {x : Nat} (hi : (q : Nat) = i) (z : Nat) (hz : lv[z]? = some (i, .ref x)) (hd : decode cc pc = .ok (.aload_n q, 1)) (k : G p l e R s m args below meth c Q nL Hp (pc + 1) lv (.ref x :: st) σ) : G p l e R s m args below meth c Q nL Hp pc lv st σ :=
  fun H locs ls hH hl => lv_aload_n X.1 X.2.1 hd hi (lv_at hl z hz) (k H locs ls hH hl)
theorem g_aload (X : CallFix p m c cc nL s args AW own) {i : Nat} {x : Nat} (z : Nat) (hz : lv[z]? = some (i, .ref x)) (hd : decode cc pc = .ok (.aload i, 2)) (k : G p l e R s m args below meth c Q nL Hp (pc + 2) lv (.ref x :: st) σ) : G p l e R s m args below meth c Q nL Hp pc lv st σ :=
  fun H locs ls hH hl => lv_aload X.1 X.2.1 hd (lv_at hl z hz) (k H locs ls hH hl)
theorem g_astore_n (X : CallFix p m c cc nL s args AW own) {q : Fin 4} {i : Nat} {x : Nat} (hi : (q : Nat) = i) (hn : i < nL) (he : (i, Value.ref x) :: lv.filter (fun q => !(q.1 == i) && !(q.1 + 1 == i && q.2.category == 2)) = lv') (hd : decode cc pc = .ok (.astore_n q, 1)) (k : G p l e R s m args below meth c Q nL Hp (pc + 1) lv' st σ) : G p l e R s m args below meth c Q nL Hp pc lv (.ref x :: st) σ :=
  fun H locs ls hH hl => lv_astore_n X.1 X.2.1 hd hi hl hn he (fun ls hl => k H locs ls hH hl)
theorem g_astore (X : CallFix p m c cc nL s args AW own) {i : Nat} {x : Nat} (hn : i < nL) (he : (i, Value.ref x) :: lv.filter (fun q => !(q.1 == i) && !(q.1 + 1 == i && q.2.category == 2)) = lv') (hd : decode cc pc = .ok (.astore i, 2)) (k : G p l e R s m args below meth c Q nL Hp (pc + 2) lv' st σ) : G p l e R s m args below meth c Q nL Hp pc lv (.ref x :: st) σ :=
  fun H locs ls hH hl => lv_astore X.1 X.2.1 hd hl hn he (fun ls hl => k H locs ls hH hl)
theorem g_iinc (X : CallFix p m c cc nL s args AW own) {i : Nat} {n : Int} {x v : Int32} (z : Nat) (hz : lv[z]? = some (i, .int x)) (hv : x + Int32.ofInt n = v) (hn : i < nL) (he : (i, Value.int v) :: lv.filter (fun q => !(q.1 == i) && !(q.1 + 1 == i && q.2.category == 2)) = lv') (hd : decode cc pc = .ok (.iinc i n, 3)) (k : G p l e R s m args below meth c Q nL Hp (pc + 3) lv' st σ) : G p l e R s m args below meth c Q nL Hp pc lv st σ :=
  fun H locs ls hH hl => lv_iinc X.1 X.2.1 hd hl hz hv hn he (fun ls hl => k H locs ls hH hl)
theorem g_iadd (X : CallFix p m c cc nL s args AW own) {x y : Int32} (hd : decode cc pc = .ok (.iadd, 1)) (k : G p l e R s m args below meth c Q nL Hp (pc + 1) lv (.int (x + y) :: st) σ) : G p l e R s m args below meth c Q nL Hp pc lv (.int y :: .int x :: st) σ :=
  fun H locs ls hH hl => lv_iadd X.1 X.2.1 hd (k H locs ls hH hl)
theorem g_isub (X : CallFix p m c cc nL s args AW own) {x y : Int32} (hd : decode cc pc = .ok (.isub, 1)) (k : G p l e R s m args below meth c Q nL Hp (pc + 1) lv (.int (x - y) :: st) σ) : G p l e R s m args below meth c Q nL Hp pc lv (.int y :: .int x :: st) σ :=
  fun H locs ls hH hl => lv_isub X.1 X.2.1 hd (k H locs ls hH hl)
theorem g_imul (X : CallFix p m c cc nL s args AW own) {x y : Int32} (hd : decode cc pc = .ok (.imul, 1)) (k : G p l e R s m args below meth c Q nL Hp (pc + 1) lv (.int (x * y) :: st) σ) : G p l e R s m args below meth c Q nL Hp pc lv (.int y :: .int x :: st) σ :=
  fun H locs ls hH hl => lv_imul X.1 X.2.1 hd (k H locs ls hH hl)
theorem g_iand (X : CallFix p m c cc nL s args AW own) {x y : Int32} (hd : decode cc pc = .ok (.iand, 1)) (k : G p l e R s m args below meth c Q nL Hp (pc + 1) lv (.int (x &&& y) :: st) σ) : G p l e R s m args below meth c Q nL Hp pc lv (.int y :: .int x :: st) σ :=
  fun H locs ls hH hl => lv_iand X.1 X.2.1 hd (k H locs ls hH hl)
theorem g_ior (X : CallFix p m c cc nL s args AW own) {x y : Int32} (hd : decode cc pc = .ok (.ior, 1)) (k : G p l e R s m args below meth c Q nL Hp (pc + 1) lv (.int (x ||| y) :: st) σ) : G p l e R s m args below meth c Q nL Hp pc lv (.int y :: .int x :: st) σ :=
  fun H locs ls hH hl => lv_ior X.1 X.2.1 hd (k H locs ls hH hl)
theorem g_ishl (X : CallFix p m c cc nL s args AW own) {x y : Int32} (hd : decode cc pc = .ok (.ishl, 1)) (k : G p l e R s m args below meth c Q nL Hp (pc + 1) lv (.int (x <<< (y &&& 31)) :: st) σ) : G p l e R s m args below meth c Q nL Hp pc lv (.int y :: .int x :: st) σ :=
  fun H locs ls hH hl => lv_ishl X.1 X.2.1 hd (k H locs ls hH hl)
theorem g_ishr (X : CallFix p m c cc nL s args AW own) {x y : Int32} (hd : decode cc pc = .ok (.ishr, 1)) (k : G p l e R s m args below meth c Q nL Hp (pc + 1) lv (.int (x >>> (y &&& 31)) :: st) σ) : G p l e R s m args below meth c Q nL Hp pc lv (.int y :: .int x :: st) σ :=
  fun H locs ls hH hl => lv_ishr X.1 X.2.1 hd (k H locs ls hH hl)
theorem g_idiv (X : CallFix p m c cc nL s args AW own) {x y : Int32} (hne : ¬ y = 0) (hd : decode cc pc = .ok (.idiv, 1)) (k : G p l e R s m args below meth c Q nL Hp (pc + 1) lv (.int (x / y) :: st) σ) : G p l e R s m args below meth c Q nL Hp pc lv (.int y :: .int x :: st) σ :=
  fun H locs ls hH hl => lv_idiv X.1 X.2.1 hd hne (k H locs ls hH hl)
theorem g_irem (X : CallFix p m c cc nL s args AW own) {x y : Int32} (hne : ¬ y = 0) (hd : decode cc pc = .ok (.irem, 1)) (k : G p l e R s m args below meth c Q nL Hp (pc + 1) lv (.int (x - x / y * y) :: st) σ) : G p l e R s m args below meth c Q nL Hp pc lv (.int y :: .int x :: st) σ :=
  fun H locs ls hH hl => lv_irem X.1 X.2.1 hd hne (k H locs ls hH hl)
theorem g_iushr (X : CallFix p m c cc nL s args AW own) {x y : Int32} (hd : decode cc pc = .ok (.iushr, 1)) (k : G p l e R s m args below meth c Q nL Hp (pc + 1) lv (.int ((x.toUInt32 >>> (y.toUInt32 &&& Int32.toUInt32 31)).toInt32) :: st) σ) : G p l e R s m args below meth c Q nL Hp pc lv (.int y :: .int x :: st) σ :=
  fun H locs ls hH hl => lv_iushr X.1 X.2.1 hd rfl (k H locs ls hH hl)
theorem g_ineg (X : CallFix p m c cc nL s args AW own) {x : Int32} (hd : decode cc pc = .ok (.ineg, 1)) (k : G p l e R s m args below meth c Q nL Hp (pc + 1) lv (.int (-x) :: st) σ) : G p l e R s m args below meth c Q nL Hp pc lv (.int x :: st) σ :=
  fun H locs ls hH hl => lv_ineg X.1 X.2.1 hd (k H locs ls hH hl)
theorem g_ladd (X : CallFix p m c cc nL s args AW own) {x y : Int64} (hd : decode cc pc = .ok (.ladd, 1)) (k : G p l e R s m args below meth c Q nL Hp (pc + 1) lv (.long (x + y) :: st) σ) : G p l e R s m args below meth c Q nL Hp pc lv (.long y :: .long x :: st) σ :=
  fun H locs ls hH hl => lv_ladd X.1 X.2.1 hd (k H locs ls hH hl)
theorem g_lsub (X : CallFix p m c cc nL s args AW own) {x y : Int64} (hd : decode cc pc = .ok (.lsub, 1)) (k : G p l e R s m args below meth c Q nL Hp (pc + 1) lv (.long (x - y) :: st) σ) : G p l e R s m args below meth c Q nL Hp pc lv (.long y :: .long x :: st) σ :=
  fun H locs ls hH hl => lv_lsub X.1 X.2.1 hd (k H locs ls hH hl)
theorem g_lmul (X : CallFix p m c cc nL s args AW own) {x y : Int64} (hd : decode cc pc = .ok (.lmul, 1)) (k : G p l e R s m args below meth c Q nL Hp (pc + 1) lv (.long (x * y) :: st) σ) : G p l e R s m args below meth c Q nL Hp pc lv (.long y :: .long x :: st) σ :=
  fun H locs ls hH hl => lv_lmul X.1 X.2.1 hd (k H locs ls hH hl)
theorem g_ldiv (X : CallFix p m c cc nL s args AW own) {x y : Int64} (hne : ¬ y = 0) (hd : decode cc pc = .ok (.ldiv, 1)) (k : G p l e R s m args below meth c Q nL Hp (pc + 1) lv (.long (x / y) :: st) σ) : G p l e R s m args below meth c Q nL Hp pc lv (.long y :: .long x :: st) σ :=
  fun H locs ls hH hl => lv_ldiv X.1 X.2.1 hd hne (k H locs ls hH hl)
theorem g_lrem (X : CallFix p m c cc nL s args AW own) {x y : Int64} (hne : ¬ y = 0) (hd : decode cc pc = .ok (.lrem, 1)) (k : G p l e R s m args below meth c Q nL Hp (pc + 1) lv (.long (x - x / y * y) :: st) σ) : G p l e R s m args below meth c Q nL Hp pc lv (.long y :: .long x :: st) σ :=
  fun H locs ls hH hl => lv_lrem X.1 X.2.1 hd hne (k H locs ls hH hl)
theorem g_i2l (X : CallFix p m c cc nL s args AW own) {x : Int32} (hd : decode cc pc = .ok (.i2l, 1)) (k : G p l e R s m args below meth c Q nL Hp (pc + 1) lv (.long x.toInt64 :: st) σ) : G p l e R s m args below meth c Q nL Hp pc lv (.int x :: st) σ :=
  fun H locs ls hH hl => lv_i2l X.1 X.2.1 hd rfl (k H locs ls hH hl)
theorem g_i2b (X : CallFix p m c cc nL s args AW own) {x : Int32} (hd : decode cc pc = .ok (.i2b, 1)) (k : G p l e R s m args below meth c Q nL Hp (pc + 1) lv (.int x.toInt8.toInt32 :: st) σ) : G p l e R s m args below meth c Q nL Hp pc lv (.int x :: st) σ :=
  fun H locs ls hH hl => lv_i2b X.1 X.2.1 hd rfl (k H locs ls hH hl)
theorem g_i2s (X : CallFix p m c cc nL s args AW own) {x : Int32} (hd : decode cc pc = .ok (.i2s, 1)) (k : G p l e R s m args below meth c Q nL Hp (pc + 1) lv (.int x.toInt16.toInt32 :: st) σ) : G p l e R s m args below meth c Q nL Hp pc lv (.int x :: st) σ :=
  fun H locs ls hH hl => lv_i2s X.1 X.2.1 hd rfl (k H locs ls hH hl)
theorem g_lcmp (X : CallFix p m c cc nL s args AW own) {x y : Int64} (hd : decode cc pc = .ok (.lcmp, 1)) (k : G p l e R s m args below meth c Q nL Hp (pc + 1) lv (.int (lg_cmp x y) :: st) σ) : G p l e R s m args below meth c Q nL Hp pc lv (.long y :: .long x :: st) σ :=
  fun H locs ls hH hl => W.lcmp X.1 X.2.1 hd (k H locs ls hH hl)
theorem g_dup (X : CallFix p m c cc nL s args AW own) {v : Value} (hc : v.category = 1) (hd : decode cc pc = .ok (.dup, 1)) (k : G p l e R s m args below meth c Q nL Hp (pc + 1) lv (v :: v :: st) σ) : G p l e R s m args below meth c Q nL Hp pc lv (v :: st) σ :=
  fun H locs ls hH hl => lv_dup X.1 X.2.1 hd hc (k H locs ls hH hl)
theorem g_dup2 (X : CallFix p m c cc nL s args AW own) {v w : Value} (hc : v.category = 1) (hc2 : w.category = 1) (hd : decode cc pc = .ok (.dup2, 1)) (k : G p l e R s m args below meth c Q nL Hp (pc + 1) lv (v :: w :: v :: w :: st) σ) : G p l e R s m args below meth c Q nL Hp pc lv (v :: w :: st) σ :=
  fun H locs ls hH hl => lv_dup2_11 X.1 X.2.1 hd hc hc2 (k H locs ls hH hl)
theorem g_pop (X : CallFix p m c cc nL s args AW own) {v : Value} (hc : v.category = 1) (hd : decode cc pc = .ok (.pop, 1)) (k : G p l e R s m args below meth c Q nL Hp (pc + 1) lv st σ) : G p l e R s m args below meth c Q nL Hp pc lv (v :: st) σ :=
  fun H locs ls hH hl => lv_pop X.1 X.2.1 hd hc (k H locs ls hH hl)
theorem g_goto (X : CallFix p m c cc nL s args AW own) {off : Int} {tgt : Nat} (ht : (pc : Int) + off = (tgt : Int)) (hd : decode cc pc = .ok (.goto off, 3)) (k : G p l e R s m args below meth c Q nL Hp tgt lv st σ) : G p l e R s m args below meth c Q nL Hp pc lv st σ :=
  fun H locs ls hH hl => lv_goto X.1 X.2.1 hd ht (k H locs ls hH hl)
theorem g_if_eq (X : CallFix p m c cc nL s args AW own) {x : Int32} {off : Int} {tgt : Nat} (ht : (pc : Int) + off = (tgt : Int)) (hd : decode cc pc = .ok (.ifCond .eq off, 3)) (kt : x = 0 → G p l e R s m args below meth c Q nL Hp tgt lv st σ) (kf : ¬ x = 0 → G p l e R s m args below meth c Q nL Hp (pc + 3) lv st σ) : G p l e R s m args below meth c Q nL Hp pc lv (.int x :: st) σ :=
  fun H locs ls hH hl => lv_if_eq X.1 X.2.1 hd ht (fun h => kt h H locs ls hH hl) (fun h => kf h H locs ls hH hl)
theorem g_if_ne (X : CallFix p m c cc nL s args AW own) {x : Int32} {off : Int} {tgt : Nat} (ht : (pc : Int) + off = (tgt : Int)) (hd : decode cc pc = .ok (.ifCond .ne off, 3)) (kt : ¬ x = 0 → G p l e R s m args below meth c Q nL Hp tgt lv st σ) (kf : x = 0 → G p l e R s m args below meth c Q nL Hp (pc + 3) lv st σ) : G p l e R s m args below meth c Q nL Hp pc lv (.int x :: st) σ :=
  fun H locs ls hH hl => lv_if_ne X.1 X.2.1 hd ht (fun h => kt h H locs ls hH hl) (fun h => kf h H locs ls hH hl)
theorem g_if_lt (X : CallFix p m c cc nL s args AW own) {x : Int32} {off : Int} {tgt : Nat} (ht : (pc : Int) + off = (tgt : Int)) (hd : decode cc pc = .ok (.ifCond .lt off, 3)) (kt : x < 0 → G p l e R s m args below meth c Q nL Hp tgt lv st σ) (kf : ¬ x < 0 → G p l e R s m args below meth c Q nL Hp (pc + 3) lv st σ) : G p l e R s m args below meth c Q nL Hp pc lv (.int x :: st) σ :=
  fun H locs ls hH hl => lv_if_lt X.1 X.2.1 hd ht (fun h => kt h H locs ls hH hl) (fun h => kf h H locs ls hH hl)
theorem g_if_ge (X : CallFix p m c cc nL s args AW own) {x : Int32} {off : Int} {tgt : Nat} (ht : (pc : Int) + off = (tgt : Int)) (hd : decode cc pc = .ok (.ifCond .ge off, 3)) (kt : 0 ≤ x → G p l e R s m args below meth c Q nL Hp tgt lv st σ) (kf : ¬ 0 ≤ x → G p l e R s m args below meth c Q nL Hp (pc + 3) lv st σ) : G p l e R s m args below meth c Q nL Hp pc lv (.int x :: st) σ :=
  fun H locs ls hH hl => lv_if_ge X.1 X.2.1 hd ht (fun h => kt h H locs ls hH hl) (fun h => kf h H locs ls hH hl)
theorem g_if_gt (X : CallFix p m c cc nL s args AW own) {x : Int32} {off : Int} {tgt : Nat} (ht : (pc : Int) + off = (tgt : Int)) (hd : decode cc pc = .ok (.ifCond .gt off, 3)) (kt : 0 < x → G p l e R s m args below meth c Q nL Hp tgt lv st σ) (kf : ¬ 0 < x → G p l e R s m args below meth c Q nL Hp (pc + 3) lv st σ) : G p l e R s m args below meth c Q nL Hp pc lv (.int x :: st) σ :=
  fun H locs ls hH hl => lv_if_gt X.1 X.2.1 hd ht (fun h => kt h H locs ls hH hl) (fun h => kf h H locs ls hH hl)
theorem g_if_le (X : CallFix p m c cc nL s args AW own) {x : Int32} {off : Int} {tgt : Nat} (ht : (pc : Int) + off = (tgt : Int)) (hd : decode cc pc = .ok (.ifCond .le off, 3)) (kt : x ≤ 0 → G p l e R s m args below meth c Q nL Hp tgt lv st σ) (kf : ¬ x ≤ 0 → G p l e R s m args below meth c Q nL Hp (pc + 3) lv st σ) : G p l e R s m args below meth c Q nL Hp pc lv (.int x :: st) σ :=
  fun H locs ls hH hl => lv_if_le X.1 X.2.1 hd ht (fun h => kt h H locs ls hH hl) (fun h => kf h H locs ls hH hl)
theorem g_icmp_eq (X : CallFix p m c cc nL s args AW own) {x y : Int32} {off : Int} {tgt : Nat} (ht : (pc : Int) + off = (tgt : Int)) (hd : decode cc pc = .ok (.if_icmp .eq off, 3)) (kt : x = y → G p l e R s m args below meth c Q nL Hp tgt lv st σ) (kf : ¬ x = y → G p l e R s m args below meth c Q nL Hp (pc + 3) lv st σ) : G p l e R s m args below meth c Q nL Hp pc lv (.int y :: .int x :: st) σ :=
  fun H locs ls hH hl => lv_icmp_eq X.1 X.2.1 hd ht (fun h => kt h H locs ls hH hl) (fun h => kf h H locs ls hH hl)
theorem g_icmp_ne (X : CallFix p m c cc nL s args AW own) {x y : Int32} {off : Int} {tgt : Nat} (ht : (pc : Int) + off = (tgt : Int)) (hd : decode cc pc = .ok (.if_icmp .ne off, 3)) (kt : ¬ x = y → G p l e R s m args below meth c Q nL Hp tgt lv st σ) (kf : x = y → G p l e R s m args below meth c Q nL Hp (pc + 3) lv st σ) : G p l e R s m args below meth c Q nL Hp pc lv (.int y :: .int x :: st) σ :=
  fun H locs ls hH hl => lv_icmp_ne X.1 X.2.1 hd ht (fun h => kt h H locs ls hH hl) (fun h => kf h H locs ls hH hl)
theorem g_icmp_lt (X : CallFix p m c cc nL s args AW own) {x y : Int32} {off : Int} {tgt : Nat} (ht : (pc : Int) + off = (tgt : Int)) (hd : decode cc pc = .ok (.if_icmp .lt off, 3)) (kt : x < y → G p l e R s m args below meth c Q nL Hp tgt lv st σ) (kf : ¬ x < y → G p l e R s m args below meth c Q nL Hp (pc + 3) lv st σ) : G p l e R s m args below meth c Q nL Hp pc lv (.int y :: .int x :: st) σ :=
  fun H locs ls hH hl => lv_icmp_lt X.1 X.2.1 hd ht (fun h => kt h H locs ls hH hl) (fun h => kf h H locs ls hH hl)
theorem g_icmp_ge (X : CallFix p m c cc nL s args AW own) {x y : Int32} {off : Int} {tgt : Nat} (ht : (pc : Int) + off = (tgt : Int)) (hd : decode cc pc = .ok (.if_icmp .ge off, 3)) (kt : y ≤ x → G p l e R s m args below meth c Q nL Hp tgt lv st σ) (kf : ¬ y ≤ x → G p l e R s m args below meth c Q nL Hp (pc + 3) lv st σ) : G p l e R s m args below meth c Q nL Hp pc lv (.int y :: .int x :: st) σ :=
  fun H locs ls hH hl => lv_icmp_ge X.1 X.2.1 hd ht (fun h => kt h H locs ls hH hl) (fun h => kf h H locs ls hH hl)
theorem g_icmp_gt (X : CallFix p m c cc nL s args AW own) {x y : Int32} {off : Int} {tgt : Nat} (ht : (pc : Int) + off = (tgt : Int)) (hd : decode cc pc = .ok (.if_icmp .gt off, 3)) (kt : y < x → G p l e R s m args below meth c Q nL Hp tgt lv st σ) (kf : ¬ y < x → G p l e R s m args below meth c Q nL Hp (pc + 3) lv st σ) : G p l e R s m args below meth c Q nL Hp pc lv (.int y :: .int x :: st) σ :=
  fun H locs ls hH hl => lv_icmp_gt X.1 X.2.1 hd ht (fun h => kt h H locs ls hH hl) (fun h => kf h H locs ls hH hl)
theorem g_icmp_le (X : CallFix p m c cc nL s args AW own) {x y : Int32} {off : Int} {tgt : Nat} (ht : (pc : Int) + off = (tgt : Int)) (hd : decode cc pc = .ok (.if_icmp .le off, 3)) (kt : x ≤ y → G p l e R s m args below meth c Q nL Hp tgt lv st σ) (kf : ¬ x ≤ y → G p l e R s m args below meth c Q nL Hp (pc + 3) lv st σ) : G p l e R s m args below meth c Q nL Hp pc lv (.int y :: .int x :: st) σ :=
  fun H locs ls hH hl => lv_icmp_le X.1 X.2.1 hd ht (fun h => kt h H locs ls hH hl) (fun h => kf h H locs ls hH hl)
theorem g_topi {x : Int32} (k : ∀ y : Int32, y = x → G p l e R s m args below meth c Q nL Hp pc lv (.int y :: st) σ) : G p l e R s m args below meth c Q nL Hp pc lv (.int x :: st) σ := k x rfl
theorem g_topl {x : Int64} (k : ∀ y : Int64, y = x → G p l e R s m args below meth c Q nL Hp pc lv (.long y :: st) σ) : G p l e R s m args below meth c Q nL Hp pc lv (.long x :: st) σ := k x rfl
theorem g_lv (k : G p l e R s m args below meth c Q nL Hp pc lv st σ) (is : List Nat) (hs : lv_pick lv' is = lv) : G p l e R s m args below meth c Q nL Hp pc lv' st σ := fun H locs ls hH hl => k H locs ls hH (lv_sub hl is hs)
theorem g_tabO (X : CallFix p m c cc nL s args AW own) {dflt lo hi : Int} {offs : Array Int} {len : Nat} {x : Int32} {tgt : Nat} (h : x.toInt < lo ∨ hi < x.toInt) (ht : (pc : Int) + dflt = (tgt : Int)) (hd : decode cc pc = .ok (.tableswitch dflt lo hi offs, len)) (k : G p l e R s m args below meth c Q nL Hp tgt lv st σ) : G p l e R s m args below meth c Q nL Hp pc lv (.int x :: st) σ :=
  fun H locs ls hH hl => lv_tableOut X.1 X.2.1 hd h ht (k H locs ls hH hl)
theorem g_tabI (X : CallFix p m c cc nL s args AW own) {dflt lo hi : Int} {offs : Array Int} {len : Nat} {x : Int32} {off : Int} {tgt : Nat} (h1 : ¬ x.toInt < lo) (h2 : ¬ hi < x.toInt) (ho : offs[(x.toInt - lo).toNat]? = some off) (ht : (pc : Int) + off = (tgt : Int)) (hd : decode cc pc = .ok (.tableswitch dflt lo hi offs, len)) (k : G p l e R s m args below meth c Q nL Hp tgt lv st σ) : G p l e R s m args below meth c Q nL Hp pc lv (.int x :: st) σ :=
  fun H locs ls hH hl => lv_tableIn X.1 X.2.1 hd h1 h2 ho ht (k H locs ls hH hl)
theorem g_look (X : CallFix p m c cc nL s args AW own) {dflt : Int} {ps : Array (Int × Int)} {len : Nat} {x : Int32} {off : Int} {tgt : Nat} (hp : (ps.toList.zip (ps.toList.drop 1)).all (fun (a, next) => a.1 < next.1) = true) (ho : Op.lookupswitch.offset ps.toList dflt x.toInt = off) (ht : (pc : Int) + off = (tgt : Int)) (hd : decode cc pc = .ok (.lookupswitch dflt ps, len)) (k : G p l e R s m args below meth c Q nL Hp tgt lv st σ) : G p l e R s m args below meth c Q nL Hp pc lv (.int x :: st) σ :=
  fun H locs ls hH hl => lv_lookup X.1 X.2.1 hd hp ho ht (k H locs ls hH hl)
theorem g_mmax (X : CallFix p m c cc nL s args AW own) {i : Nat} {x y : Int32} (hw : Cond.methodLink own i Lib.Math.max.name ∈ AW) (hw2 : Cond.static Lib.Math.max.name ∈ AW) (hw3 : Cond.initialized "java/lang/Math" ∈ AW) (hw4 : Cond.code Lib.Math.max.name Lib.Math.max.code 2 (some .int) ∈ AW) (hf : 1 ≤ R.frames) (hm : (st.map fun v => v.category).sum + 13 ≤ R.locals) (hd : decode cc pc = .ok (.invokestatic i, 3)) (k : G p l e R s m args below meth c Q nL Hp (pc + 3) lv (.int (if x < y then y else x) :: st) σ) : G p l e R s m args below meth c Q nL Hp pc lv (.int y :: .int x :: st) σ :=
  fun H locs ls hH hl => va_mmax X.1 X.2.1 (X.2.2.1.trans hl.1.symm) X.2.2.2.1 (X.2.2.2.2 _ hw) (X.2.2.2.2 _ hw2) (X.2.2.2.2 _ hw3) (X.2.2.2.2 _ hw4) hf hm (Nat.zero_le _) (Nat.zero_le _) hd (k H locs ls hH hl)
theorem g_mmin (X : CallFix p m c cc nL s args AW own) {i : Nat} {x y : Int32} (hw : Cond.methodLink own i Lib.Math.min.name ∈ AW) (hw2 : Cond.static Lib.Math.min.name ∈ AW) (hw3 : Cond.initialized "java/lang/Math" ∈ AW) (hw4 : Cond.code Lib.Math.min.name Lib.Math.min.code 2 (some .int) ∈ AW) (hf : 1 ≤ R.frames) (hm : (st.map fun v => v.category).sum + 13 ≤ R.locals) (hd : decode cc pc = .ok (.invokestatic i, 3)) (k : G p l e R s m args below meth c Q nL Hp (pc + 3) lv (.int (if y < x then y else x) :: st) σ) : G p l e R s m args below meth c Q nL Hp pc lv (.int y :: .int x :: st) σ :=
  fun H locs ls hH hl => va_mmin X.1 X.2.1 (X.2.2.1.trans hl.1.symm) X.2.2.2.1 (X.2.2.2.2 _ hw) (X.2.2.2.2 _ hw2) (X.2.2.2.2 _ hw3) (X.2.2.2.2 _ hw4) hf hm (Nat.zero_le _) (Nat.zero_le _) hd (k H locs ls hH hl)
theorem g_mabs (X : CallFix p m c cc nL s args AW own) {i : Nat} {x : Int32} (hw : Cond.methodLink own i Lib.Math.abs.name ∈ AW) (hw2 : Cond.static Lib.Math.abs.name ∈ AW) (hw3 : Cond.initialized "java/lang/Math" ∈ AW) (hw4 : Cond.code Lib.Math.abs.name Lib.Math.abs.code 1 (some .int) ∈ AW) (hf : 1 ≤ R.frames) (hm : (st.map fun v => v.category).sum + 13 ≤ R.locals) (hd : decode cc pc = .ok (.invokestatic i, 3)) (k : G p l e R s m args below meth c Q nL Hp (pc + 3) lv (.int (if 0 ≤ x then x else 0 - x) :: st) σ) : G p l e R s m args below meth c Q nL Hp pc lv (.int x :: st) σ :=
  fun H locs ls hH hl => va_mabs X.1 X.2.1 (X.2.2.1.trans hl.1.symm) X.2.2.2.1 (X.2.2.2.2 _ hw) (X.2.2.2.2 _ hw2) (X.2.2.2.2 _ hw3) (X.2.2.2.2 _ hw4) hf hm (Nat.zero_le _) (Nat.zero_le _) hd (k H locs ls hH hl)
variable {D : va_G} {tys : List (ClassId × FieldType)} {wd : Sg → va_W}
theorem g_get (X : CallFix p m c cc nL s args AW own) (hK : va_K D vwCl tys s) (hR : ∀ σ H locs, Hp σ H locs → va_P D vwCl (wd σ) H) {C : String} {T : u_T} {N ci i k0 a : Nat} {fs : List Value} {v : Value} (hin : ∀ w ∈ u_ws C T N, w ∈ AW) (he : (wd σ)[k0]? = some (a, .inr (ci, fs))) (hc : vwCl[ci]? = some (C, T, N)) (j : Nat) (hj : j < N) (hw : Cond.fieldLink own i (T j).1 (T j).2.1 (T j).2.2.1 ∈ AW) (hv : fs[j]? = some v) (hd : decode cc pc = .ok (.getfield i, 3)) (k : G p l e R s m args below meth c Q nL Hp (pc + 3) lv (v :: st) σ) : G p l e R s m args below meth c Q nL Hp pc lv (.ref a :: st) σ :=
  fun H locs ls hH hl => va_get X.1 X.2.1 X.2.2.2.2 hin X.2.2.2.1 hK (hR _ _ _ hH) k0 he hc j hj (X.2.2.2.2 _ hw) (fun _ h9 => h9) hv hd (k H locs ls hH hl)
theorem g_iald (X : CallFix p m c cc nL s args AW own) (hK : va_K D vwCl tys s) (hR : ∀ σ H locs, Hp σ H locs → va_P D vwCl (wd σ) H) {k0 a t0 : Nat} {cA : ClassId} {n : Nat} {f : Nat → Int32} {i : Int32} (he : (wd σ)[k0]? = some (a, .inl (cA, n, .inl f))) (ht : tys[t0]? = some (cA, .int)) (hin : vp_in i n) (hd : decode cc pc = .ok (.iaload, 1)) (k : G p l e R s m args below meth c Q nL Hp (pc + 1) lv (.int (f i.toNatClampNeg) :: st) σ) : G p l e R s m args below meth c Q nL Hp pc lv (.int i :: .ref a :: st) σ :=
  fun H locs ls hH hl => va_iald X.1 X.2.1 hK (hR _ _ _ hH) k0 t0 he ht hin hd (k H locs ls hH hl)
theorem g_zald (X : CallFix p m c cc nL s args AW own) (hK : va_K D vwCl tys s) (hR : ∀ σ H locs, Hp σ H locs → va_P D vwCl (wd σ) H) {k0 a t0 : Nat} {cA : ClassId} {n : Nat} {f : Nat → Int32} {i : Int32} (he : (wd σ)[k0]? = some (a, .inl (cA, n, .inl f))) (ht : tys[t0]? = some (cA, .boolean)) (hin : vp_in i n) (hd : decode cc pc = .ok (.baload, 1)) (k : G p l e R s m args below meth c Q nL Hp (pc + 1) lv (.int (f i.toNatClampNeg) :: st) σ) : G p l e R s m args below meth c Q nL Hp pc lv (.int i :: .ref a :: st) σ :=
  fun H locs ls hH hl => va_zald X.1 X.2.1 hK (hR _ _ _ hH) k0 t0 he ht hin hd (k H locs ls hH hl)
theorem g_aald (X : CallFix p m c cc nL s args AW own) (hK : va_K D vwCl tys s) (hR : ∀ σ H locs, Hp σ H locs → va_P D vwCl (wd σ) H) {k0 a t0 : Nat} {cA : ClassId} {Cn : String} {n : Nat} {f : Nat → Option Nat} {i : Int32} (he : (wd σ)[k0]? = some (a, .inl (cA, n, .inr (.inr (.inr (.inr f)))))) (ht : tys[t0]? = some (cA, .object Cn)) (hin : vp_in i n) (hd : decode cc pc = .ok (.aaload, 1)) (k : G p l e R s m args below meth c Q nL Hp (pc + 1) lv (va_rf (f i.toNatClampNeg) :: st) σ) : G p l e R s m args below meth c Q nL Hp pc lv (.int i :: .ref a :: st) σ :=
  fun H locs ls hH hl => va_aldq X.1 X.2.1 hK (hR _ _ _ hH) k0 t0 he ht hin hd (k H locs ls hH hl)
theorem g_alen (X : CallFix p m c cc nL s args AW own) (hK : va_K D vwCl tys s) (hR : ∀ σ H locs, Hp σ H locs → va_P D vwCl (wd σ) H) {k0 a t0 : Nat} {cA : ClassId} {n : Nat} {f : Nat → Int32} {ty : FieldType} {v : Int32} (he : (wd σ)[k0]? = some (a, .inl (cA, n, .inl f))) (ht : tys[t0]? = some (cA, ty)) (hv : Int32.ofNat n = v) (hd : decode cc pc = .ok (.arraylength, 1)) (k : G p l e R s m args below meth c Q nL Hp (pc + 1) lv (.int v :: st) σ) : G p l e R s m args below meth c Q nL Hp pc lv (.ref a :: st) σ :=
  fun H locs ls hH hl => va_alen X.1 X.2.1 hK (hR _ _ _ hH) k0 t0 he ht hv hd (k H locs ls hH hl)
end GR
