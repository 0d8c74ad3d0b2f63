set_option maxRecDepth 100000 in
set_option maxHeartbeats 4000000 in
theorem whole_start {p : Program} {e : Env} {s : State} {m : MethodId} {below : List Frame} {meth : Method} {c : Code} (l : Launch) {b L : Nat} {xs : Nat → Int32} (hL : L ≤ 384) (C0 : lw_At p s m meth c b L xs) : W p l e room_1 s m #[Value.ref b] below meth c s.heap [] 0 0 (lw_Z below #[Value.ref b] s) (entryFrame m ([Value.ref b] : List Value).toArray 4) := by
  obtain ⟨hx, hb, hr, hml, hown, hts, hXs, hbl, hlk, hgv⟩ := id C0
  have X : CallFix p m c cL_law 4 s #[Value.ref b] AW "TrainNoteLaw" := ⟨hx, hb, hml, hown, fun w h => hts w (AW_in w h)⟩
  have hw := X.2.2.2.2
  have hs := flat_of_before _ hgv
  have hA0 : ∀ q : Nat, q < s.heap.size → ¬ (fun q : Nat => s.heap.size ≤ q) q := fun q h => Nat.not_le.mpr h
  have hA : ∀ q : Nat, s.heap.size ≤ q → (fun q : Nat => s.heap.size ≤ q) q := fun _ h => h
  obtain ⟨c0, i0, k0⟩ := u_known (C := "TrainNote$Choir") (T := TX0) (N := 9) (n := 9) hw inAX0 (hw _ kw1_47)
  obtain ⟨c1, i1, k1⟩ := u_known (C := "TrainNote$Memory") (T := TX1) (N := 4) (n := 4) hw inAX1 (hw _ kw1_133)
  obtain ⟨c2, i2, k2⟩ := u_known (C := "TrainNote$Sheet") (T := TX2) (N := 3) (n := 3) hw inAX2 (hw _ kw1_157)
  obtain ⟨c3, i3, k3⟩ := u_known (C := "TrainNote$Song") (T := TX3) (N := 3) (n := 3) hw inAX3 (hw _ kw1_91)
  obtain ⟨c4, i4, k4⟩ := u_known (C := "TrainNote$Text") (T := TX4) (N := 3) (n := 3) hw inAX4 (hw _ kw1_22)
  obtain ⟨c5, i5, k5⟩ := u_known (C := "TrainNote$Train") (T := TX5) (N := 4) (n := 4) hw inAX5 (hw _ kw1_110)
  obtain ⟨c6, i6, k6⟩ := u_known (C := "TrainNote") (T := TX6) (N := 12) (n := 12) hw inAX6 (hw _ kw1_14)
  obtain ⟨c7, i7, k7⟩ := u_known (C := "TrainNoteModel") (T := TX7) (N := 22) (n := 22) hw inAX7 (hw _ kw3_130)
  obtain ⟨dC, dI, hKc⟩ : ∃ (dC : Nat → ClassId) (dI : Nat → Nat → Nat), ∀ (k : Nat) (q : vw_C), vwCl[k]? = some q → u_Kn s q.1 q.2.1 q.2.2 (dC k) (dI k) := by
    refine ⟨fun k => if k = 0 then c0 else if k = 1 then c1 else if k = 2 then c2 else if k = 3 then c3 else if k = 4 then c4 else if k = 5 then c5 else if k = 6 then c6 else c7, fun k => if k = 0 then i0 else if k = 1 then i1 else if k = 2 then i2 else if k = 3 then i3 else if k = 4 then i4 else if k = 5 then i5 else if k = 6 then i6 else i7, ?_⟩
    intro k q hq
    match k, hq with
    | 0, hq => cases hq; exact k0
    | 1, hq => cases hq; exact k1
    | 2, hq => cases hq; exact k2
    | 3, hq => cases hq; exact k3
    | 4, hq => cases hq; exact k4
    | 5, hq => cases hq; exact k5
    | 6, hq => cases hq; exact k6
    | 7, hq => cases hq; exact k7
    | k + 8, hq => simp [vwCl] at hq
  obtain ⟨cI, kI, pI, hI1, hI2, hI3⟩ := Cond.arrayClass_spec (hw _ kw1_45)
  obtain ⟨cZ, kZ, pZ, hZ1, hZ2, hZ3⟩ := Cond.arrayClass_spec (hw _ kw1_89)
  obtain ⟨pS, cS, kS, hS1, hS2, hS3, hS4, hS5⟩ := Cond.arrayOver_spec (hts _ kw1_156)
  have aI : ArrOfT s cI .int := fun n z => ⟨fun k h => (by cases h), kI, hI2, pI, hI3⟩
  have aZ : ArrOfT s cZ .boolean := fun n z => ⟨fun k h => (by cases h), kZ, hZ2, pZ, hZ3⟩
  have aS : ArrOfT s cS (.object "TrainNote$Sheet") := fun n z => ⟨fun k h => (by cases h), kS, hS3, pS, hS4⟩
  have hKC : va_K (dC, dI) vwCl (tyC cI cZ cS) s := by
    refine ⟨hKc, fun k q h => ?_⟩
    match k, h with
    | 0, h => cases h; exact ⟨aI, hI1⟩
    | 1, h => cases h; exact ⟨aZ, hZ1⟩
    | 2, h => cases h; exact ⟨aS, kS, pS, hS3, hS4, hS1, hS5⟩
    | k + 3, h => simp [tyC] at h
  have hKM : va_K (dC, dI) vwCl (tyM cI) s := by
    refine ⟨hKc, fun k q h => ?_⟩
    match k, h with
    | 0, h => cases h; exact ⟨aI, hI1⟩
    | k + 1, h => simp [tyM] at h
  obtain ⟨tS, etS, TtS⟩ := va_Tof (args := #[Value.ref b]) (s := s) (tm := (.static "TrainNote" "SETTINGS" "[I")) (ty := .int) (N := 4) (f := fun j => .int (setF j)) (A := fun q : Nat => s.heap.size ≤ q) (by decide) (hs _ (by decide +kernel)) (va_eqt (hs (Cond.eq (.length (.static "TrainNote" "SETTINGS" "[I")) (.int 4)) (by decide +kernel))) (fun j hj => by
    rcases (show j = 0 ∨ j = 1 ∨ j = 2 ∨ j = 3 by omega) with rfl | rfl | rfl | rfl
    · exact va_eqt (hs (Cond.eq (.elem (.static "TrainNote" "SETTINGS" "[I") (.int 0)) (.int 100)) (by decide +kernel))
    · exact va_eqt (hs (Cond.eq (.elem (.static "TrainNote" "SETTINGS" "[I") (.int 1)) (.int 10)) (by decide +kernel))
    · exact va_eqt (hs (Cond.eq (.elem (.static "TrainNote" "SETTINGS" "[I") (.int 2)) (.int 19)) (by decide +kernel))
    · exact va_eqt (hs (Cond.eq (.elem (.static "TrainNote" "SETTINGS" "[I") (.int 3)) (.int 100)) (by decide +kernel)))
      hA0
  obtain ⟨tF, etF, TtF⟩ := va_Tof (args := #[Value.ref b]) (s := s) (tm := (.static "TrainNote" "FACTORIALS" "[I")) (ty := .int) (N := 6) (f := fun j => .int (facF j)) (A := fun q : Nat => s.heap.size ≤ q) (by decide) (hs _ (by decide +kernel)) (va_eqt (hs (Cond.eq (.length (.static "TrainNote" "FACTORIALS" "[I")) (.int 6)) (by decide +kernel))) (fun j hj => by
    rcases (show j = 0 ∨ j = 1 ∨ j = 2 ∨ j = 3 ∨ j = 4 ∨ j = 5 by omega) with rfl | rfl | rfl | rfl | rfl | rfl
    · exact va_eqt (hs (Cond.eq (.elem (.static "TrainNote" "FACTORIALS" "[I") (.int 0)) (.int 1)) (by decide +kernel))
    · exact va_eqt (hs (Cond.eq (.elem (.static "TrainNote" "FACTORIALS" "[I") (.int 1)) (.int 1)) (by decide +kernel))
    · exact va_eqt (hs (Cond.eq (.elem (.static "TrainNote" "FACTORIALS" "[I") (.int 2)) (.int 2)) (by decide +kernel))
    · exact va_eqt (hs (Cond.eq (.elem (.static "TrainNote" "FACTORIALS" "[I") (.int 3)) (.int 6)) (by decide +kernel))
    · exact va_eqt (hs (Cond.eq (.elem (.static "TrainNote" "FACTORIALS" "[I") (.int 4)) (.int 24)) (by decide +kernel))
    · exact va_eqt (hs (Cond.eq (.elem (.static "TrainNote" "FACTORIALS" "[I") (.int 5)) (.int 120)) (by decide +kernel)))
      hA0
  have hSX : SXC tS tF (fun q : Nat => s.heap.size ≤ q) s s.heap := ⟨⟨va_Zof (hts _ kw2_72) (hw _ kw1_1) etS hA0, TtS⟩, va_Zof (hts _ kw2_154) (hw _ kw1_1) etF hA0, TtF⟩
  have hNX : NXC s := ⟨va_Nw.of rfl (hts _ kw1_48), va_Nw.of rfl (hts _ kw1_92), va_Nw.of rfl (hts _ kw1_111), va_Nw.of rfl (hts _ kw1_134), va_Nw.of rfl (hts _ kw1_158), va_AO.of (hts _ kw1_156)⟩
  have hl := lv_entry ([.ref b]) (n := 4) (Nat.le_of_ble_eq_true rfl)
  rw [lg_entry_eq]
  have hP : va_P (dC, dI) vwCl [] s.heap := fun k q h => by simp at h
  have hD : va_D (fun q : Nat => s.heap.size ≤ q) [] := ⟨fun i j p q h => by simp at h, fun k q h => by simp at h⟩
  suffices hG : GK p l e room_1 s m #[Value.ref b] below meth c (lw_Z below #[Value.ref b] s) 4 (dC, dI) (fun q : Nat => s.heap.size ≤ q) 0 0 0 [(0, .ref b)] [] [] from hG s.heap [] _ hP hD va_S.rf hl
  refine k_new (pc := 0) (ci := 6) (fs := [.null, .null, .null, .null, .null, .null, .null, .null, .null, .null, .null, .int 0]) (C := "TrainNote") (T := TX6) (N := 12) X hKC hA inAX6 tyX6 tyX6_ok kw1_13 kw1_14 kw1_1 rfl (fun j hj => by rcases (show j = 0 ∨ j = 1 ∨ j = 2 ∨ j = 3 ∨ j = 4 ∨ j = 5 ∨ j = 6 ∨ j = 7 ∨ j = 8 ∨ j = 9 ∨ j = 10 ∨ j = 11 by omega) with rfl | rfl | rfl | rfl | rfl | rfl | rfl | rfl | rfl | rfl | rfl | rfl <;> rfl) (Nat.le_of_ble_eq_true rfl) (Nat.le_of_ble_eq_true rfl) dL_law_0 (fun q0 => ?_)
  refine k_dup (pc := 3) X rfl dL_law_3 ?_
  refine k_ctor (pc := 4) (ws := []) (As := []) X hKC hA NXC_ok hNX (fun sz => c_X6_init (cI := cI) (cZ := cZ) (cS := cS) q0 sz) kw1_17 kw1_1 kw1_16 kw1_15 rfl ⟨by decide +kernel, by decide +kernel, by decide +kernel⟩ rfl rfl ⟨?_, ?_⟩ rfl rfl ?_ ?_ ?_ dL_law_4 (fun u0 => ?_)
  · exact Nat.le_of_ble_eq_true rfl
  · exact Nat.le_of_ble_eq_true rfl
  · exact Nat.le_of_ble_eq_true rfl
  · exact Nat.le_of_ble_eq_true rfl
  · exact Nat.le_of_ble_eq_true rfl
  refine k_astore_n (pc := 7) (lv' := [(1, .ref q0), (0, .ref b)]) X rfl (by decide) rfl dL_law_7 ?_
  refine k_new (pc := 8) (ci := 7) (fs := [.null, .null, .null, .null, .int 0, .null, .null, .int 0, .null, .int 0, .null, .null, .null, .null, .null, .null, .null, .null, .int 0, .null, .null, .int 0]) (C := "TrainNoteModel") (T := TX7) (N := 22) X hKM hA inAX7 tyX7 tyX7_ok kw3_129 kw3_130 kw1_9 rfl (fun j hj => by rcases (show j = 0 ∨ j = 1 ∨ j = 2 ∨ j = 3 ∨ j = 4 ∨ j = 5 ∨ j = 6 ∨ j = 7 ∨ j = 8 ∨ j = 9 ∨ j = 10 ∨ j = 11 ∨ j = 12 ∨ j = 13 ∨ j = 14 ∨ j = 15 ∨ j = 16 ∨ j = 17 ∨ j = 18 ∨ j = 19 ∨ j = 20 ∨ j = 21 by omega) with rfl | rfl | rfl | rfl | rfl | rfl | rfl | rfl | rfl | rfl | rfl | rfl | rfl | rfl | rfl | rfl | rfl | rfl | rfl | rfl | rfl | rfl <;> rfl) (Nat.le_of_ble_eq_true rfl) (Nat.le_of_ble_eq_true rfl) dL_law_8 (fun q1 => ?_)
  refine k_dup (pc := 11) X rfl dL_law_11 ?_
  refine k_ctor (pc := 12) (ws := ([] ++ wC cI cZ cS (adr q0 u0) σC0)) (As := []) X hKM hA NX0_ok trivial (fun sz => c_X7_init (cI := cI) (cZ := cZ) (cS := cS) q1 sz) kw3_133 kw1_9 kw3_132 kw3_131 rfl ⟨by decide +kernel, by decide +kernel, by decide +kernel⟩ rfl rfl ⟨?_, ?_⟩ rfl rfl ?_ ?_ ?_ dL_law_12 (fun u1 => ?_)
  · exact Nat.le_of_ble_eq_true rfl
  · exact Nat.le_of_ble_eq_true rfl
  · exact Nat.le_of_ble_eq_true rfl
  · exact Nat.le_of_ble_eq_true rfl
  · exact Nat.le_of_ble_eq_true rfl
  refine k_astore_n (pc := 15) (lv' := [(2, .ref q1), (1, .ref q0), (0, .ref b)]) X rfl (by decide) rfl dL_law_15 ?_
  refine k_iconst (pc := 16) X ic_0 dL_law_16 ?_
  refine k_istore_n (pc := 17) (lv' := [(3, .int 0), (2, .ref q1), (1, .ref q0), (0, .ref b)]) X rfl (by decide) rfl dL_law_17 ?_
  intro H locs ls hP hD hS hl
  have hlen : ([] ++ wC cI cZ cS (adr q0 u0) σC0).length = 43 := by rw [List.nil_append]; exact wl_len
  have g1 : ∀ (k : Nat) (q : Nat × va_E), (wC cI cZ cS (adr q0 u0) σC0)[k]? = some q → (([] ++ wC cI cZ cS (adr q0 u0) σC0) ++ wM cI (adr q1 u1) σM0)[k]? = some q ∧ k < 43 := by
    intro k q h
    have hk : k < 43 := by
      have := (List.getElem?_eq_some_iff.mp h).1
      rw [wl_len] at this
      exact this
    exact ⟨by rw [List.getElem?_append_left (by rw [hlen]; exact hk)]; exact h, hk⟩
  have g2 : ∀ (k : Nat) (q : Nat × va_E), (wM cI (adr q1 u1) σM0)[k]? = some q → (([] ++ wC cI cZ cS (adr q0 u0) σC0) ++ wM cI (adr q1 u1) σM0)[43 + k]? = some q := by
    intro k q h
    rw [List.getElem?_append_right (by rw [hlen]; omega), hlen]
    rw [show 43 + k - 43 = k by omega]
    exact h
  have key := law_loop (p := p) (l := l) (e := e) (below := below) (c := c) (D := (dC, dI)) (cZ := cZ) (a := adr q0 u0) (aM := adr q1 u1) hL X hKC hKM hSX hXs hbl hr hlk L 0 σC0 σM0 (Nat.zero_le _) (by omega) Rel_0
  refine key H locs ls (fun k q h => hP k q (g1 k q h).1) (fun k q h => hP (43 + k) q (g2 k q h)) ⟨fun i j x y h1 h2 e1 => hD.1 i j x y (g1 i x h1).1 (g1 j y h2).1 e1, fun k q h => hD.2 k q (g1 k q h).1⟩ ⟨fun i j x y h1 h2 e1 => by have := hD.1 _ _ x y (g2 i x h1) (g2 j y h2) e1; omega, fun k q h => hD.2 _ q (g2 k q h)⟩ (fun i j x y h1 h2 e1 => by have := hD.1 _ _ x y (g1 i x h1).1 (g2 j y h2) e1; have := (g1 i x h1).2; omega) hS ?_
  exact hl

set_option maxHeartbeats 4000000 in
theorem lw_walk (l : Launch) (b : Addr) (xs : List Int32) : MetFree l x (headSpec (Jvm.Cond.code x code maxLocals ret :: tables_1) room_1) (lw_P b xs) (fun _ _ _ _ _ => True) lw_Q := by
  refine MetFree.of_bodyS (code := code) (maxLocals := maxLocals) (ret := ret) (by decide) ?_ ?_
  · intro args s m h hn
    obtain ⟨meth, c, h1, h2, h3, h4, h5, h6, -, -⟩ := Cond.code_spec hn (atoms_spec (ws := Jvm.Cond.code x code maxLocals ret :: tables_1) h _ List.mem_cons_self)
    exact ⟨meth, c, h1, h2, h3, h4, h5, h6⟩
  · intro p e s m args below meth c s₁ B hml0 hP _
    obtain ⟨rfl, hx, hbd, hgv⟩ := hP
    obtain ⟨scr, harrAt, hlist, hof, hsmall⟩ := hx
    obtain ⟨hcb, hkn, -, -⟩ := State.arrayAt?_spec harrAt
    have hown : s.vm.findClass R_law = some m.cls := findClass_of_methodNamed B.named
    have hts0 : ∀ c ∈ (Jvm.Cond.code x code maxLocals ret :: tables_1), c.before #[Value.ref b] s = true := atoms_spec (ws := Jvm.Cond.code x code maxLocals ret :: tables_1) B.pre
    have hts : ∀ w ∈ lw_tbl, w.before #[Value.ref b] s = true := k2_hts_sels lw_privs (fun w hw => hts0 w (List.mem_cons_of_mem _ hw)) lw_privs_ok
    have hml : c.maxLocals = 4 := B.maxLocals_eq (hts0 _ List.mem_cons_self)
    have X₀ : Stand p l e room_1 s m #[Value.ref b] below meth c s₁ [] 0 0 := Stand.of_body B
    have hh0 : s₁.heap = s.heap := by rw [B.state]; rfl
    have hsz : scr.slots.size = xs.length := by rw [← Array.length_toList, hlist, List.length_map]
    have hval : ∀ j : Nat, j < xs.length → scr.slots[j]? = some (.int (xs.getD j 0)) := fun j hj => by
      rw [← Array.getElem?_toList, hlist]
      simp [hj]
    have hbl : b < s.heap.size := (Array.getElem?_eq_some_iff.mp hcb).1
    have hX : va_X b xs.length (fun j => xs.getD j 0) s s.heap := ⟨scr, hcb, hof, hkn, hsz, hval⟩
    have K : W p l e room_1 s m #[Value.ref b] below meth c s₁.heap [] 0 0 (lw_Z below #[Value.ref b] s) (entryFrame m ([Value.ref b] : List Value).toArray 4) := by
      rw [hh0]
      exact whole_start l hbd ⟨B.exec, B.bytes, B.returns, hml, hown, hts, hX, hbl, B.notSynchronized, hgv⟩
    obtain ⟨t, a1, o, b1, b2, b3⟩ := K s₁ rfl X₀
    exact ⟨t, o, a1, b1, b2, b3⟩
theorem lw_pre_spec {args : Array Value} {s : State} (h : (Jvm.Cond.and given_1 narrow_1).before args s = true) (hr : rest_1_c.before args s = true) : ∃ (b : Addr) (xs : List Int32), lw_P b xs args s := by
  have hs := flat_of_before _ h
  have hq := flat_of_before _ hr
  have hc : (Cond.count 1).before args s = true := hs _ (by decide +kernel)
  have harr : (Cond.arrayOf (.arg 0) .int).before args s = true := hs _ (by decide +kernel)
  have hle : (Cond.le (.length (.arg 0)) (.int 384)).before args s = true := hs _ (by decide +kernel)
  have hlen : (Cond.isInt (.length (.arg 0))).before args s = true := hq _ (by decide +kernel)
  have hall : (Cond.all (.arg 0) (.isInt (.elem (.arg 0) (.index 0)))).before args s = true := hq _ (by decide +kernel)
  obtain ⟨b, xs, hb, hx⟩ := State.ints_of_pre rfl harr hlen hall
  have hsm : xs.length < 2 ^ 31 := hx.choose_spec.2.2.2
  have hev : (Term.length (.arg 0)).eval args s none [] s = some (.int xs.length.toInt32) := hx.length_eval hb
  have hv := Cond.le_ints hev (show (Term.int 384).eval args s none [] s = some (.int 384) from rfl)
  have hd : xs.length.toInt32 ≤ 384 := by
    simpa [Cond.before, Cond.holds, hv] using hle
  have hN : xs.length ≤ 384 := (Int32.ofNat_le_ofNat hsm (by decide)).mp (show Int32.ofNat xs.length ≤ Int32.ofNat 384 from hd)
  exact ⟨b, xs, Cond.one_arg hc (show args[0]? = some (.ref b) from hb), hx, hN, h⟩
theorem lw_comes (l : Launch) : Comes l x (Jvm.Cond.code x code maxLocals ret :: tables_1) room_1 (fun tb e args s => Calls_1 tb e args s ∧ rest_1 tb e args s ∧ Pre_1 tb e args s)
    (fun _ _ args s o t => lw_Q args s o t) := by
  intro p e ha hc hk s m args below hf hfit hheap happ hpre
  obtain ⟨b, xs, hP⟩ := lw_pre_spec hpre.2.2 hpre.2.1
  obtain ⟨k, o, h1, h2, h3, hQ⟩ := lw_walk l b xs p e ha hc hk s m args below hf ((Spec.applies_iff_loose hf).mp happ).1 hP trivial
  exact ⟨k, o, h1, h2, h3, hQ⟩
theorem lw_frame {s t : State} {o : Outcome} {args : Array Value} (h : Framed s o t [] 61 2028) :
    Framed s o t (fieldLocs frame_1_writes args s ++ arrayLocs frame_1_arrays args s ++ staticLocs frame_1_statics s) 61 2028 := h
theorem lw_limb (L : Cond) (hL : ∀ (args : Array Value) (s t : State), L.after args s (.returned (some (.int 1))) t = true) :
    ArmFor flags0 classFile x code maxLocals ret World_1 tables_1 room_1 Calls_1 rest_1 Pre_1
      (fun tb e a s o t => postC L tb e a s o t ∧ Framed s o t (fieldLocs frame_1_writes a s ++ arrayLocs frame_1_arrays a s ++ staticLocs frame_1_statics s) 61 2028) := by
  intro l _ _ _ p e ha hc hk s m args below hf hfit hheap happ hpre
  obtain ⟨k, o, h1, h2, h3, rfl, hF⟩ := lw_comes l p e ha hc hk s m args below hf hfit hheap happ hpre
  exact ⟨k, _, h1, h2, h3, hL args s _, lw_frame hF⟩
theorem i_vc : Claimed_1_1 ∧ Claimed_1_2 := ⟨lw_limb limb_1_1 (fun args s t => by simp [limb_1_1, Cond.after, Cond.holds, Cond.value]), lw_limb limb_1_2 (fun args s t => Cond.after_iff.mpr (by
  first | (rw [show limb_1_2 = Cond.eq .result (.int 1) from rfl, Cond.eq_ints (x := 1) (y := 1) rfl rfl]; simp; done) | (simp [limb_1_2, Cond.value, Term.eval]; done)))⟩

