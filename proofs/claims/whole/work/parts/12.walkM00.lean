section
variable {l : Launch} {D : va_G} {cI cZ cS : ClassId} {a : Nat → Nat} {tS tF : Nat}
set_option maxRecDepth 20000 in
theorem c_X7_in (x0 : Int64) (x2 : Int64) (x4 : Int64) (K : Int32 → Prop) : Met l yX7_in (.code yX7_in cX7_in 6 (some .boolean) :: AW) ({ frames := 0, cells := 0, slots := 0, locals := 0 } : Room) (pv0 (w_X7_in x0 x2 x4 K) [.long x0, .long x2, .long x4]) (vp_Si K) 0 0 (fun _ => False) := by
  refine met_0i (own := "TrainNoteModel") (lv := [(0, .long x0), (2, .long x2), (4, .long x4)]) (fun _ _ => 0) (by decide +kernel) rfl (Nat.le_of_ble_eq_true rfl) rfl ?_
  intro p e s m args below meth c X hr hlk h
  refine g_lload_n (pc := 0) X rfl 0 rfl dX7_in_0 ?_
  refine g_lload_n (pc := 1) X rfl 1 rfl dX7_in_1 ?_
  refine g_lcmp (pc := 2) X dX7_in_2 ?_
  refine g_if_lt (pc := 3) (tgt := 17) X (by decide) dX7_in_3 (fun c_3 => ?_) (fun c_3 => ?_)
  · have h := ite_t c_3 h
    refine g_iconst (pc := 17) X ic_0 dX7_in_17 ?_
    exact g_ret0z (pc := 18) X hr hlk dX7_in_18 (Or.inl rfl) h
  · have h := ite_f c_3 h
    refine g_lload_n (pc := 6) X rfl 0 rfl dX7_in_6 ?_
    refine g_lload (pc := 7) X 2 rfl dX7_in_7 ?_
    refine g_lcmp (pc := 9) X dX7_in_9 ?_
    refine g_if_gt (pc := 10) (tgt := 17) X (by decide) dX7_in_10 (fun c_10 => ?_) (fun c_10 => ?_)
    · have h := ite_t c_10 h
      refine g_iconst (pc := 17) X ic_0 dX7_in_17 ?_
      exact g_ret0z (pc := 18) X hr hlk dX7_in_18 (Or.inl rfl) h
    · have h := ite_f c_10 h
      refine g_iconst (pc := 13) X ic_1 dX7_in_13 ?_
      refine g_goto (pc := 14) (tgt := 18) X (by decide) dX7_in_14 ?_
      exact g_ret0z (pc := 18) X hr hlk dX7_in_18 (Or.inr rfl) h
set_option maxRecDepth 20000 in
theorem c_X7_no (x0 : Int32) (K : Int64 → Prop) : Met l yX7_no (.code yX7_no cX7_no 1 (some .long) :: AW) ({ frames := 0, cells := 0, slots := 0, locals := 0 } : Room) (pv0 (w_X7_no x0 K) [.int x0]) (vp_Sl K) 0 0 (fun _ => False) := by
  refine met_0l (own := "TrainNoteModel") (lv := [(0, .int x0)]) (fun _ _ => 0) (by decide +kernel) rfl (Nat.le_of_ble_eq_true rfl) rfl ?_
  intro p e s m args below meth c X hr hlk h
  refine g_ldc2 (pc := 0) X kw5_6 dX7_no_0 ?_
  refine g_iload_n (pc := 3) X rfl 0 rfl dX7_no_3 ?_
  refine g_i2l (pc := 4) X dX7_no_4 ?_
  refine g_lsub (pc := 5) X dX7_no_5 ?_
  exact g_ret0l (pc := 6) X hr hlk dX7_no_6 h
set_option maxRecDepth 20000 in
theorem c_X7_isTwo (x0 : Int32) (K : Int32 → Prop) : Met l yX7_isTwo (.code yX7_isTwo cX7_isTwo 1 (some .boolean) :: AW) ({ frames := 1, cells := 0, slots := 0, locals := 25 } : Room) (pv0 (w_X7_isTwo x0 K) [.int x0]) (vp_Si K) 0 0 (fun _ => False) := by
  refine met_0i (own := "TrainNoteModel") (lv := [(0, .int x0)]) (fun _ _ => 0) (by decide +kernel) rfl (Nat.le_of_ble_eq_true rfl) rfl ?_
  intro p e s m args below meth c X hr hlk h
  refine g_iload_n (pc := 0) X rfl 0 rfl dX7_isTwo_0 ?_
  refine g_i2l (pc := 1) X dX7_isTwo_1 ?_
  refine g_lconst (pc := 2) (v := 0) X rfl dX7_isTwo_2 ?_
  refine g_lconst (pc := 3) (v := 1) X rfl dX7_isTwo_3 ?_
  refine g_cS0i (pc := 4) (As := [.long (x0).toInt64, .long (0 : Int64), .long (1 : Int64)]) X mi_X7_in (c_X7_in (x0).toInt64 (0 : Int64) (1 : Int64) _) kw3_210 ⟨rfl, rfl⟩ ⟨Nat.le_of_ble_eq_true rfl, Nat.le_of_ble_eq_true rfl⟩ rfl (Nat.le_of_ble_eq_true rfl) dX7_isTwo_4 rfl h (fun r4 h => ?_)
  exact g_ret0z (pc := 7) X hr hlk dX7_isTwo_7 h.1 h.2
set_option maxRecDepth 20000 in
theorem c_X7_isIn (x0 : Int32) (x1 : Int32) (K : Int32 → Prop) : Met l yX7_isIn (.code yX7_isIn cX7_isIn 2 (some .boolean) :: AW) ({ frames := 0, cells := 0, slots := 0, locals := 0 } : Room) (pv0 (w_X7_isIn x0 x1 K) [.int x0, .int x1]) (vp_Si K) 0 0 (fun _ => False) := by
  refine met_0i (own := "TrainNoteModel") (lv := [(0, .int x0), (1, .int x1)]) (fun _ _ => 0) (by decide +kernel) rfl (Nat.le_of_ble_eq_true rfl) rfl ?_
  intro p e s m args below meth c X hr hlk h
  refine g_iload_n (pc := 0) X rfl 0 rfl dX7_isIn_0 ?_
  refine g_iload_n (pc := 1) X rfl 1 rfl dX7_isIn_1 ?_
  refine g_ishr (pc := 2) X dX7_isIn_2 ?_
  refine g_iconst (pc := 3) X ic_1 dX7_isIn_3 ?_
  refine g_iand (pc := 4) X dX7_isIn_4 ?_
  refine g_iconst (pc := 5) X ic_1 dX7_isIn_5 ?_
  refine g_icmp_ne (pc := 6) (tgt := 13) X (by decide) dX7_isIn_6 (fun c_6 => ?_) (fun c_6 => ?_)
  · have h := ite_f c_6 h
    refine g_iconst (pc := 13) X ic_0 dX7_isIn_13 ?_
    exact g_ret0z (pc := 14) X hr hlk dX7_isIn_14 (Or.inl rfl) h
  · have h := ite_t c_6 h
    refine g_iconst (pc := 9) X ic_1 dX7_isIn_9 ?_
    refine g_goto (pc := 10) (tgt := 14) X (by decide) dX7_isIn_10 ?_
    exact g_ret0z (pc := 14) X hr hlk dX7_isIn_14 (Or.inr rfl) h
set_option maxRecDepth 20000 in
theorem c_X7_ones (x0 : Int32) (K : Int32 → Prop) : Met l yX7_ones (.code yX7_ones cX7_ones 3 (some .int) :: AW) ({ frames := 0, cells := 0, slots := 0, locals := 0 } : Room) (pv0 (w_X7_ones x0 K) [.int x0]) (vp_Si K) 0 0 (fun _ => False) := by
  refine met_0i (own := "TrainNoteModel") (lv := [(0, .int x0)]) (fun _ _ => 0) (by decide +kernel) rfl (Nat.le_of_ble_eq_true rfl) rfl ?_
  intro p e s m args below meth c X hr hlk h
  refine g_iconst (pc := 0) X ic_0 dX7_ones_0 ?_
  refine g_istore_n (pc := 1) (lv' := [(1, .int (0 : Int32)), (0, .int x0)]) X rfl (by decide) rfl dX7_ones_1 ?_
  refine g_iload_n (pc := 2) X rfl 1 rfl dX7_ones_2 ?_
  refine g_istore_n (pc := 3) (lv' := [(2, .int x0), (1, .int (0 : Int32)), (0, .int x0)]) X rfl (by decide) rfl dX7_ones_3 ?_
  obtain ⟨n4, h⟩ := h
  have X20 : ∀ (u1_20 : Int32), E_X7_ones_4 K u1_20 → G0i p l e ({ frames := 0, cells := 0, slots := 0, locals := 0 } : Room) s m args below meth c K 3 20 [(1, .int u1_20)] []  (fun _ _ => 0) := by
    intro u1_20 h
    refine g_iload_n (pc := 20) X rfl 0 rfl dX7_ones_20 ?_
    exact g_ret0i (pc := 21) X hr hlk dX7_ones_21 h
  have L4 : ∀ (n : Nat) (y1_4 : Int32) (y2_4 : Int32), lq2 (F_X7_ones_4 (E_X7_ones_4 K)) n y1_4 y2_4 → G0i p l e ({ frames := 0, cells := 0, slots := 0, locals := 0 } : Room) s m args below meth c K 3 4 [(1, .int y1_4), (2, .int y2_4)] []  (fun _ _ => 0) := by
    intro n
    induction n with
    | zero =>
      intro y1_4 y2_4 h
      exact h.elim
    | succ n ih =>
      intro y1_4 y2_4 h
      have h : F_X7_ones_4 (E_X7_ones_4 K) (lq2 (F_X7_ones_4 (E_X7_ones_4 K)) n) y1_4 y2_4 := h
      refine g_iload_n (pc := 4) X rfl 1 rfl dX7_ones_4 ?_
      refine g_if_eq (pc := 5) (tgt := 20) X (by decide) dX7_ones_5 (fun c_5 => ?_) (fun c_5 => ?_)
      · have h := ite_t c_5 h
        exact g_lv (X20 y1_4 h) [0] rfl
      · have h := ite_f c_5 h
        refine g_iinc (pc := 8) (lv' := [(1, .int (y1_4 + (1 : Int32))), (2, .int y2_4)]) X 0 rfl rfl (by decide) rfl dX7_ones_8 ?_
        refine g_iload_n (pc := 11) X rfl 1 rfl dX7_ones_11 ?_
        refine g_iload_n (pc := 12) X rfl 1 rfl dX7_ones_12 ?_
        refine g_iconst (pc := 13) X ic_1 dX7_ones_13 ?_
        refine g_isub (pc := 14) X dX7_ones_14 ?_
        refine g_iand (pc := 15) X dX7_ones_15 ?_
        refine g_topi (fun x2_16 ex2_16 => ?_)
        have h := h x2_16 ex2_16
        refine g_istore_n (pc := 16) (lv' := [(2, .int x2_16), (1, .int (y1_4 + (1 : Int32)))]) X rfl (by decide) rfl dX7_ones_16 ?_
        refine g_goto (pc := 17) (tgt := 4) X (by decide) dX7_ones_17 ?_
        exact g_lv (ih (y1_4 + (1 : Int32)) x2_16 h) [1, 0] rfl
  exact g_lv (L4 n4 (0 : Int32) x0 h) [1, 0] rfl
set_option maxRecDepth 20000 in
theorem c_X7_lesser (x0 : Int32) (x1 : Int32) (K : Int32 → Prop) : Met l yX7_lesser (.code yX7_lesser cX7_lesser 2 (some .int) :: AW) ({ frames := 0, cells := 0, slots := 0, locals := 0 } : Room) (pv0 (w_X7_lesser x0 x1 K) [.int x0, .int x1]) (vp_Si K) 0 0 (fun _ => False) := by
  refine met_0i (own := "TrainNoteModel") (lv := [(0, .int x0), (1, .int x1)]) (fun _ _ => 0) (by decide +kernel) rfl (Nat.le_of_ble_eq_true rfl) rfl ?_
  intro p e s m args below meth c X hr hlk h
  refine g_iload_n (pc := 0) X rfl 0 rfl dX7_lesser_0 ?_
  refine g_iload_n (pc := 1) X rfl 1 rfl dX7_lesser_1 ?_
  refine g_icmp_ge (pc := 2) (tgt := 9) X (by decide) dX7_lesser_2 (fun c_2 => ?_) (fun c_2 => ?_)
  · have h := ite_t c_2 h
    refine g_iload_n (pc := 9) X rfl 1 rfl dX7_lesser_9 ?_
    exact g_ret0i (pc := 10) X hr hlk dX7_lesser_10 h
  · have h := ite_f c_2 h
    refine g_iload_n (pc := 5) X rfl 0 rfl dX7_lesser_5 ?_
    refine g_goto (pc := 6) (tgt := 10) X (by decide) dX7_lesser_6 ?_
    exact g_ret0i (pc := 10) X hr hlk dX7_lesser_10 h
set_option maxRecDepth 20000 in
theorem c_X7_greater (x0 : Int32) (x1 : Int32) (K : Int32 → Prop) : Met l yX7_greater (.code yX7_greater cX7_greater 2 (some .int) :: AW) ({ frames := 0, cells := 0, slots := 0, locals := 0 } : Room) (pv0 (w_X7_greater x0 x1 K) [.int x0, .int x1]) (vp_Si K) 0 0 (fun _ => False) := by
  refine met_0i (own := "TrainNoteModel") (lv := [(0, .int x0), (1, .int x1)]) (fun _ _ => 0) (by decide +kernel) rfl (Nat.le_of_ble_eq_true rfl) rfl ?_
  intro p e s m args below meth c X hr hlk h
  refine g_iload_n (pc := 0) X rfl 0 rfl dX7_greater_0 ?_
  refine g_iload_n (pc := 1) X rfl 1 rfl dX7_greater_1 ?_
  refine g_icmp_le (pc := 2) (tgt := 9) X (by decide) dX7_greater_2 (fun c_2 => ?_) (fun c_2 => ?_)
  · have h := ite_t c_2 h
    refine g_iload_n (pc := 9) X rfl 1 rfl dX7_greater_9 ?_
    exact g_ret0i (pc := 10) X hr hlk dX7_greater_10 h
  · have h := ite_f c_2 h
    refine g_iload_n (pc := 5) X rfl 0 rfl dX7_greater_5 ?_
    refine g_goto (pc := 6) (tgt := 10) X (by decide) dX7_greater_6 ?_
    exact g_ret0i (pc := 10) X hr hlk dX7_greater_10 h
set_option maxRecDepth 20000 in
theorem c_X7_amount (x0 : Int32) (K : Int32 → Prop) : Met l yX7_amount (.code yX7_amount cX7_amount 1 (some .int) :: AW) ({ frames := 0, cells := 0, slots := 0, locals := 0 } : Room) (pv0 (w_X7_amount x0 K) [.int x0]) (vp_Si K) 0 0 (fun _ => False) := by
  refine met_0i (own := "TrainNoteModel") (lv := [(0, .int x0)]) (fun _ _ => 0) (by decide +kernel) rfl (Nat.le_of_ble_eq_true rfl) rfl ?_
  intro p e s m args below meth c X hr hlk h
  refine g_iload_n (pc := 0) X rfl 0 rfl dX7_amount_0 ?_
  refine g_if_ge (pc := 1) (tgt := 9) X (by decide) dX7_amount_1 (fun c_1 => ?_) (fun c_1 => ?_)
  · have h := ite_t c_1 h
    refine g_iload_n (pc := 9) X rfl 0 rfl dX7_amount_9 ?_
    exact g_ret0i (pc := 10) X hr hlk dX7_amount_10 h
  · have h := ite_f c_1 h
    refine g_iload_n (pc := 4) X rfl 0 rfl dX7_amount_4 ?_
    refine g_ineg (pc := 5) X dX7_amount_5 ?_
    refine g_goto (pc := 6) (tgt := 10) X (by decide) dX7_amount_6 ?_
    exact g_ret0i (pc := 10) X hr hlk dX7_amount_10 h
set_option maxRecDepth 20000 in
theorem c_X7_part (x0 : Int64) (x2 : Int64) (x4 : Int32) (K : Int64 → Prop) : Met l yX7_part (.code yX7_part cX7_part 11 (some .long) :: AW) ({ frames := 0, cells := 0, slots := 0, locals := 0 } : Room) (pv0 (w_X7_part x0 x2 x4 K) [.long x0, .long x2, .int x4]) (vp_Sl K) 0 0 (fun _ => False) := by
  refine met_0l (own := "TrainNoteModel") (lv := [(0, .long x0), (2, .long x2), (4, .int x4)]) (fun _ _ => 0) (by decide +kernel) rfl (Nat.le_of_ble_eq_true rfl) rfl ?_
  intro p e s m args below meth c X hr hlk h
  refine g_lload_n (pc := 0) X rfl 0 rfl dX7_part_0 ?_
  refine g_lstore (pc := 1) (lv' := [(5, .long x0), (0, .long x0), (2, .long x2), (4, .int x4)]) X (by decide) rfl dX7_part_1 ?_
  refine g_lload_n (pc := 3) X rfl 2 rfl dX7_part_3 ?_
  refine g_lstore (pc := 4) (lv' := [(7, .long x2), (5, .long x0), (0, .long x0), (2, .long x2), (4, .int x4)]) X (by decide) rfl dX7_part_4 ?_
  obtain ⟨n6, h⟩ := h
  have X31 : ∀ (u5_31 : Int64), E_X7_part_6 x4 K x0 x2 u5_31 → G0l p l e ({ frames := 0, cells := 0, slots := 0, locals := 0 } : Room) s m args below meth c K 11 31 [(0, .long x0), (2, .long x2), (4, .int x4), (5, .long u5_31)] []  (fun _ _ => 0) := by
    intro u5_31 h
    refine g_iload (pc := 31) X 2 rfl dX7_part_31 ?_
    refine g_if_ne (pc := 33) (tgt := 40) X (by decide) dX7_part_33 (fun c_33 => ?_) (fun c_33 => ?_)
    · have h := ite_f c_33 h
      refine g_lload_n (pc := 40) X rfl 1 rfl dX7_part_40 ?_
      refine g_lload (pc := 41) X 3 rfl dX7_part_41 ?_
      obtain ⟨h_43, h⟩ := h
      refine g_ldiv (pc := 43) X h_43 dX7_part_43 ?_
      exact g_ret0l (pc := 44) X hr hlk dX7_part_44 h
    · have h := ite_t c_33 h
      refine g_lload_n (pc := 36) X rfl 0 rfl dX7_part_36 ?_
      refine g_goto (pc := 37) (tgt := 41) X (by decide) dX7_part_37 ?_
      refine g_lload (pc := 41) X 3 rfl dX7_part_41 ?_
      obtain ⟨h_43, h⟩ := h
      refine g_ldiv (pc := 43) X h_43 dX7_part_43 ?_
      exact g_ret0l (pc := 44) X hr hlk dX7_part_44 h
  have L6 : ∀ (n : Nat) (y5_6 : Int64) (y7_6 : Int64), lq2 (F_X7_part_6 (E_X7_part_6 x4 K x0 x2)) n y5_6 y7_6 → G0l p l e ({ frames := 0, cells := 0, slots := 0, locals := 0 } : Room) s m args below meth c K 11 6 [(0, .long x0), (2, .long x2), (4, .int x4), (5, .long y5_6), (7, .long y7_6)] []  (fun _ _ => 0) := by
    intro n
    induction n with
    | zero =>
      intro y5_6 y7_6 h
      exact h.elim
    | succ n ih =>
      intro y5_6 y7_6 h
      have h : F_X7_part_6 (E_X7_part_6 x4 K x0 x2) (lq2 (F_X7_part_6 (E_X7_part_6 x4 K x0 x2)) n) y5_6 y7_6 := h
      refine g_lload (pc := 6) X 4 rfl dX7_part_6 ?_
      refine g_lconst (pc := 8) (v := 0) X rfl dX7_part_8 ?_
      refine g_lcmp (pc := 9) X dX7_part_9 ?_
      refine g_if_eq (pc := 10) (tgt := 31) X (by decide) dX7_part_10 (fun c_10 => ?_) (fun c_10 => ?_)
      · have h := ite_t c_10 h
        exact g_lv (X31 y5_6 h) [0, 1, 2, 3] rfl
      · have h := ite_f c_10 h
        refine g_lload (pc := 13) X 3 rfl dX7_part_13 ?_
        refine g_lload (pc := 15) X 4 rfl dX7_part_15 ?_
        obtain ⟨h_17, h⟩ := h
        refine g_lrem (pc := 17) X h_17 dX7_part_17 ?_
        refine g_topl (fun x9_18 ex9_18 => ?_)
        have h := h x9_18 ex9_18
        refine g_lstore (pc := 18) (lv' := [(9, .long x9_18), (0, .long x0), (2, .long x2), (4, .int x4), (5, .long y5_6), (7, .long y7_6)]) X (by decide) rfl dX7_part_18 ?_
        refine g_lload (pc := 20) X 5 rfl dX7_part_20 ?_
        refine g_lstore (pc := 22) (lv' := [(5, .long y7_6), (9, .long x9_18), (0, .long x0), (2, .long x2), (4, .int x4), (7, .long y7_6)]) X (by decide) rfl dX7_part_22 ?_
        refine g_lload (pc := 24) X 1 rfl dX7_part_24 ?_
        refine g_lstore (pc := 26) (lv' := [(7, .long x9_18), (5, .long y7_6), (9, .long x9_18), (0, .long x0), (2, .long x2), (4, .int x4)]) X (by decide) rfl dX7_part_26 ?_
        refine g_goto (pc := 28) (tgt := 6) X (by decide) dX7_part_28 ?_
        exact g_lv (ih y7_6 x9_18 h) [3, 4, 5, 1, 0] rfl
  exact g_lv (L6 n6 x0 x2 h) [2, 3, 4, 1, 0] rfl
set_option maxRecDepth 20000 in
theorem c_X7_finds (x1 : Int32) (σ : Sg) (K : Int32 → Sg → Prop) : ∀ sz, Met l yX7_finds (.code yX7_finds cX7_finds 2 (some .int) :: AW) ({ frames := 0, cells := 0, slots := 0, locals := 0 } : Room) (pvM D (tyM cI) SXM (wM cI a σ) sz (w_X7_finds x1 σ K) [.ref (a 0), .int x1]) (va_Qi K (atM D (tyM cI) (wM cI a) (va_A (wM cI a σ) sz)) (va_A (wM cI a σ) sz)) 0 0 (va_A (wM cI a σ) sz) := by
  intro sz
  refine met_Mi (own := "TrainNoteModel") (lv := [(0, .ref (a 0)), (1, .int x1)]) (by decide +kernel) rfl (Nat.le_of_ble_eq_true rfl) rfl ?_
  intro p e s m args below meth c A X hK hX hA hr hlk h
  have hR : ∀ σ H locs, hpM D (wM cI a) A s σ H locs → va_P D vwCl ((wM cI a σ)) H := fun _ _ _ h => h.1
  have hok := SXM_ok
  refine g_aload_n (pc := 0) X rfl 0 rfl dX7_finds_0 ?_
  refine g_iload_n (pc := 1) X rfl 1 rfl dX7_finds_1 ?_
  refine pX7_67 (pc := 2) X hK k_isMod_0 dX7_finds_2 (fun τ2 eτ2 => ?_)
  have h := h τ2 eτ2
  refine g_bipush (pc := 5) X bp_m10 dX7_finds_5 ?_
  refine g_iload_n (pc := 7) X rfl 1 rfl dX7_finds_7 ?_
  refine g_isub (pc := 8) X dX7_finds_8 ?_
  exact g_retMi (pc := 9) X hK hr hlk dX7_finds_9 h
set_option maxRecDepth 20000 in
theorem c_X7_isSheet (x0 : Int32) (K : Int32 → Prop) : Met l yX7_isSheet (.code yX7_isSheet cX7_isSheet 1 (some .boolean) :: AW) ({ frames := 1, cells := 0, slots := 0, locals := 25 } : Room) (pv0 (w_X7_isSheet x0 K) [.int x0]) (vp_Si K) 0 0 (fun _ => False) := by
  refine met_0i (own := "TrainNoteModel") (lv := [(0, .int x0)]) (fun _ _ => 0) (by decide +kernel) rfl (Nat.le_of_ble_eq_true rfl) rfl ?_
  intro p e s m args below meth c X hr hlk h
  refine g_iload_n (pc := 0) X rfl 0 rfl dX7_isSheet_0 ?_
  refine g_i2l (pc := 1) X dX7_isSheet_1 ?_
  refine g_lconst (pc := 2) (v := 0) X rfl dX7_isSheet_2 ?_
  refine g_ldc2 (pc := 3) X kw3_209 dX7_isSheet_3 ?_
  refine g_cS0i (pc := 6) (As := [.long (x0).toInt64, .long (0 : Int64), .long (3 : Int64)]) X mi_X7_in (c_X7_in (x0).toInt64 (0 : Int64) (3 : Int64) _) kw3_210 ⟨rfl, rfl⟩ ⟨Nat.le_of_ble_eq_true rfl, Nat.le_of_ble_eq_true rfl⟩ rfl (Nat.le_of_ble_eq_true rfl) dX7_isSheet_6 rfl h (fun r6 h => ?_)
  exact g_ret0z (pc := 9) X hr hlk dX7_isSheet_9 h.1 h.2
set_option maxRecDepth 20000 in
theorem c_X7_sheet (x1 : Int32) (x2 : Int32) (x3 : Int32) (σ : Sg) (K : Int32 → Sg → Prop) : ∀ sz, Met l yX7_sheet (.code yX7_sheet cX7_sheet 5 (some .int) :: AW) ({ frames := 2, cells := 0, slots := 0, locals := 45 } : Room) (pvM D (tyM cI) SXM (wM cI a σ) sz (w_X7_sheet x1 x2 x3 σ K) [.ref (a 0), .int x1, .int x2, .int x3]) (va_Qi K (atM D (tyM cI) (wM cI a) (va_A (wM cI a σ) sz)) (va_A (wM cI a σ) sz)) 0 0 (va_A (wM cI a σ) sz) := by
  intro sz
  refine met_Mi (own := "TrainNoteModel") (lv := [(0, .ref (a 0)), (1, .int x1), (2, .int x2), (3, .int x3)]) (by decide +kernel) rfl (Nat.le_of_ble_eq_true rfl) rfl ?_
  intro p e s m args below meth c A X hK hX hA hr hlk h
  have hR : ∀ σ H locs, hpM D (wM cI a) A s σ H locs → va_P D vwCl ((wM cI a σ)) H := fun _ _ _ h => h.1
  have hok := SXM_ok
  refine g_iload_n (pc := 0) X rfl 1 rfl dX7_sheet_0 ?_
  refine g_cS0i (pc := 1) (As := [.int x1]) X mi_X7_isSheet (c_X7_isSheet x1 _) kw3_206 ⟨rfl, rfl⟩ ⟨Nat.le_of_ble_eq_true rfl, Nat.le_of_ble_eq_true rfl⟩ rfl (Nat.le_of_ble_eq_true rfl) dX7_sheet_1 rfl h (fun r1 h => ?_)
  refine g_if_eq (pc := 4) (tgt := 25) X (by decide) dX7_sheet_4 (fun c_4 => ?_) (fun c_4 => ?_)
  · have h := ite_t c_4 h
    refine g_bipush (pc := 25) X bp_m2 dX7_sheet_25 ?_
    exact g_retMi (pc := 27) X hK hr hlk dX7_sheet_27 h
  · have h := ite_f c_4 h
    refine g_iload_n (pc := 7) X rfl 2 rfl dX7_sheet_7 ?_
    refine g_i2l (pc := 8) X dX7_sheet_8 ?_
    refine g_lconst (pc := 9) (v := 0) X rfl dX7_sheet_9 ?_
    refine g_ldc2 (pc := 10) X kw3_213 dX7_sheet_10 ?_
    refine g_cS0i (pc := 13) (As := [.long (x2).toInt64, .long (0 : Int64), .long (2 : Int64)]) X mi_X7_in (c_X7_in (x2).toInt64 (0 : Int64) (2 : Int64) _) kw3_210 ⟨rfl, rfl⟩ ⟨Nat.le_of_ble_eq_true rfl, Nat.le_of_ble_eq_true rfl⟩ rfl (Nat.le_of_ble_eq_true rfl) dX7_sheet_13 rfl h (fun r13 h => ?_)
    refine g_if_eq (pc := 16) (tgt := 25) X (by decide) dX7_sheet_16 (fun c_16 => ?_) (fun c_16 => ?_)
    · have h := ite_t c_16 h
      refine g_bipush (pc := 25) X bp_m2 dX7_sheet_25 ?_
      exact g_retMi (pc := 27) X hK hr hlk dX7_sheet_27 h
    · have h := ite_f c_16 h
      refine g_iload_n (pc := 19) X rfl 3 rfl dX7_sheet_19 ?_
      refine g_bipush (pc := 20) X bp_60 dX7_sheet_20 ?_
      refine g_icmp_le (pc := 22) (tgt := 28) X (by decide) dX7_sheet_22 (fun c_22 => ?_) (fun c_22 => ?_)
      · have h := ite_t c_22 h
        refine g_iload_n (pc := 28) X rfl 3 rfl dX7_sheet_28 ?_
        refine g_if_ge (pc := 29) (tgt := 38) X (by decide) dX7_sheet_29 (fun c_29 => ?_) (fun c_29 => ?_)
        · have h := ite_t c_29 h
          refine g_aload_n (pc := 38) X rfl 0 rfl dX7_sheet_38 ?_
          refine fX7_7 (pc := 39) X hK hR k_isMod_0 dX7_sheet_39 ?_
          refine g_iload_n (pc := 42) X rfl 1 rfl dX7_sheet_42 ?_
          refine g_iload_n (pc := 43) X rfl 2 rfl dX7_sheet_43 ?_
          obtain ⟨h_44, h⟩ := h
          refine tX7_forms (pc := 44) X hK k_isMod_0 h_44 dX7_sheet_44 (fun τ44 eτ44 => ?_)
          have h := h τ44 eτ44
          refine g_aload_n (pc := 45) X rfl 0 rfl dX7_sheet_45 ?_
          refine fX7_13 (pc := 46) X hK hR k_isMod_0 dX7_sheet_46 ?_
          refine g_iload_n (pc := 49) X rfl 1 rfl dX7_sheet_49 ?_
          refine g_iload_n (pc := 50) X rfl 3 rfl dX7_sheet_50 ?_
          obtain ⟨h_51, h⟩ := h
          refine tX7_sizes (pc := 51) X hK k_isMod_0 h_51 dX7_sheet_51 (fun τ51 eτ51 => ?_)
          have h := h τ51 eτ51
          refine g_iconst (pc := 52) X ic_0 dX7_sheet_52 ?_
          refine g_istore (pc := 53) (lv' := [(4, .int (0 : Int32)), (0, .ref (a 0)), (1, .int x1), (2, .int x2), (3, .int x3)]) X (by decide) rfl dX7_sheet_53 ?_
          obtain ⟨n55, h⟩ := h
          have X80 : ∀ (ρe80 : Sg), E_X7_sheet_55 K x3 ρe80 → GMi p l e ({ frames := 2, cells := 0, slots := 0, locals := 45 } : Room) s m args below meth c K 5 D (tyM cI) (wM cI a) A 80 [(3, .int x3)] [] ρe80 := by
            intro ρe80 h
            refine g_iload_n (pc := 80) X rfl 0 rfl dX7_sheet_80 ?_
            exact g_retMi (pc := 81) X hK hr hlk dX7_sheet_81 h
          have L55 : ∀ (n : Nat) (y4_55 : Int32) (ρ55 : Sg), lq2 (F_X7_sheet_55 x3 x1 (E_X7_sheet_55 K x3)) n y4_55 ρ55 → GMi p l e ({ frames := 2, cells := 0, slots := 0, locals := 45 } : Room) s m args below meth c K 5 D (tyM cI) (wM cI a) A 55 [(0, .ref (a 0)), (1, .int x1), (3, .int x3), (4, .int y4_55)] [] ρ55 := by
            intro n
            induction n with
            | zero =>
              intro y4_55 ρ55 h
              exact h.elim
            | succ n ih =>
              intro y4_55 ρ55 h
              have h : F_X7_sheet_55 x3 x1 (E_X7_sheet_55 K x3) (lq2 (F_X7_sheet_55 x3 x1 (E_X7_sheet_55 K x3)) n) y4_55 ρ55 := h
              refine g_iload (pc := 55) X 3 rfl dX7_sheet_55 ?_
              refine g_iload_n (pc := 57) X rfl 2 rfl dX7_sheet_57 ?_
              refine g_icmp_ge (pc := 58) (tgt := 80) X (by decide) dX7_sheet_58 (fun c_58 => ?_) (fun c_58 => ?_)
              · have h := ite_t c_58 h
                exact g_lv (X80 ρ55 h) [2] rfl
              · have h := ite_f c_58 h
                refine g_aload_n (pc := 61) X rfl 0 rfl dX7_sheet_61 ?_
                refine fX7_16 (pc := 62) X hK hR k_isMod_0 dX7_sheet_62 ?_
                refine g_bipush (pc := 65) X bp_60 dX7_sheet_65 ?_
                refine g_iload_n (pc := 67) X rfl 1 rfl dX7_sheet_67 ?_
                refine g_imul (pc := 68) X dX7_sheet_68 ?_
                refine g_iload (pc := 69) X 3 rfl dX7_sheet_69 ?_
                refine g_iadd (pc := 71) X dX7_sheet_71 ?_
                refine g_iconst (pc := 72) X ic_0 dX7_sheet_72 ?_
                obtain ⟨h_73, h⟩ := h
                refine tX7_items (pc := 73) X hK k_isMod_0 h_73 dX7_sheet_73 (fun τ73 eτ73 => ?_)
                have h := h τ73 eτ73
                refine g_iinc (pc := 74) (lv' := [(4, .int (y4_55 + (1 : Int32))), (0, .ref (a 0)), (1, .int x1), (3, .int x3)]) X 3 rfl rfl (by decide) rfl dX7_sheet_74 ?_
                refine g_goto (pc := 77) (tgt := 55) X (by decide) dX7_sheet_77 ?_
                exact g_lv (ih (y4_55 + (1 : Int32)) τ73 h) [1, 2, 3, 0] rfl
          exact g_lv (L55 n55 (0 : Int32) τ51 h) [1, 2, 4, 0] rfl
        · have h := ite_f c_29 h
          refine g_aload_n (pc := 32) X rfl 0 rfl dX7_sheet_32 ?_
          refine g_iconst (pc := 33) X ic_5 dX7_sheet_33 ?_
          refine g_cVMi (pc := 34) (As := [.int (5 : Int32)]) X hK hX hok hA mi_X7_finds (c_X7_finds (5 : Int32) σ _) (fun _ => ⟨_, wl_ate (oX7 (cI := cI) (a := a) k_isMod_0).1 ((oX7 (cI := cI) (a := a) k_isMod_0).2 _)⟩) rfl rfl kw3_214 ⟨rfl, rfl⟩ ⟨Nat.le_of_ble_eq_true rfl, Nat.le_of_ble_eq_true rfl⟩ rfl (Nat.le_of_ble_eq_true rfl) dX7_sheet_34 rfl h (fun r34 τ34 h => ?_)
          exact g_retMi (pc := 37) X hK hr hlk dX7_sheet_37 h
      · have h := ite_f c_22 h
        refine g_bipush (pc := 25) X bp_m2 dX7_sheet_25 ?_
        exact g_retMi (pc := 27) X hK hr hlk dX7_sheet_27 h
set_option maxRecDepth 20000 in
theorem c_X7_lose (x1 : Int32) (σ : Sg) (K : Int32 → Sg → Prop) : ∀ sz, Met l yX7_lose (.code yX7_lose cX7_lose 2 (some .int) :: AW) ({ frames := 2, cells := 0, slots := 0, locals := 45 } : Room) (pvM D (tyM cI) SXM (wM cI a σ) sz (w_X7_lose x1 σ K) [.ref (a 0), .int x1]) (va_Qi K (atM D (tyM cI) (wM cI a) (va_A (wM cI a σ) sz)) (va_A (wM cI a σ) sz)) 0 0 (va_A (wM cI a σ) sz) := by
  intro sz
  refine met_Mi (own := "TrainNoteModel") (lv := [(0, .ref (a 0)), (1, .int x1)]) (by decide +kernel) rfl (Nat.le_of_ble_eq_true rfl) rfl ?_
  intro p e s m args below meth c A X hK hX hA hr hlk h
  have hR : ∀ σ H locs, hpM D (wM cI a) A s σ H locs → va_P D vwCl ((wM cI a σ)) H := fun _ _ _ h => h.1
  have hok := SXM_ok
  refine g_iload_n (pc := 0) X rfl 1 rfl dX7_lose_0 ?_
  refine g_cS0i (pc := 1) (As := [.int x1]) X mi_X7_isSheet (c_X7_isSheet x1 _) kw3_206 ⟨rfl, rfl⟩ ⟨Nat.le_of_ble_eq_true rfl, Nat.le_of_ble_eq_true rfl⟩ rfl (Nat.le_of_ble_eq_true rfl) dX7_lose_1 rfl h (fun r1 h => ?_)
  refine g_if_ne (pc := 4) (tgt := 10) X (by decide) dX7_lose_4 (fun c_4 => ?_) (fun c_4 => ?_)
  · have h := ite_f c_4 h
    refine g_aload_n (pc := 10) X rfl 0 rfl dX7_lose_10 ?_
    refine fX7_7 (pc := 11) X hK hR k_isMod_0 dX7_lose_11 ?_
    refine g_iload_n (pc := 14) X rfl 1 rfl dX7_lose_14 ?_
    obtain ⟨h_15, h⟩ := h
    refine aX7_forms (pc := 15) X hK hR k_isMod_0 h_15 dX7_lose_15 ?_
    refine g_if_ge (pc := 16) (tgt := 25) X (by decide) dX7_lose_16 (fun c_16 => ?_) (fun c_16 => ?_)
    · have h := ite_t c_16 h
      refine g_aload_n (pc := 25) X rfl 0 rfl dX7_lose_25 ?_
      refine fX7_7 (pc := 26) X hK hR k_isMod_0 dX7_lose_26 ?_
      refine g_iload_n (pc := 29) X rfl 1 rfl dX7_lose_29 ?_
      refine g_iconst (pc := 30) X ic_m1 dX7_lose_30 ?_
      obtain ⟨h_31, h⟩ := h
      refine tX7_forms (pc := 31) X hK k_isMod_0 h_31 dX7_lose_31 (fun τ31 eτ31 => ?_)
      have h := h τ31 eτ31
      refine g_aload_n (pc := 32) X rfl 0 rfl dX7_lose_32 ?_
      refine fX7_13 (pc := 33) X hK hR k_isMod_0 dX7_lose_33 ?_
      refine g_iload_n (pc := 36) X rfl 1 rfl dX7_lose_36 ?_
      obtain ⟨h_37, h⟩ := h
      refine aX7_sizes (pc := 37) X hK hR k_isMod_0 h_37 dX7_lose_37 ?_
      exact g_retMi (pc := 38) X hK hr hlk dX7_lose_38 h
    · have h := ite_f c_16 h
      refine g_aload_n (pc := 19) X rfl 0 rfl dX7_lose_19 ?_
      refine g_iconst (pc := 20) X ic_1 dX7_lose_20 ?_
      refine g_cVMi (pc := 21) (As := [.int (1 : Int32)]) X hK hX hok hA mi_X7_finds (c_X7_finds (1 : Int32) σ _) (fun _ => ⟨_, wl_ate (oX7 (cI := cI) (a := a) k_isMod_0).1 ((oX7 (cI := cI) (a := a) k_isMod_0).2 _)⟩) rfl rfl kw3_214 ⟨rfl, rfl⟩ ⟨Nat.le_of_ble_eq_true rfl, Nat.le_of_ble_eq_true rfl⟩ rfl (Nat.le_of_ble_eq_true rfl) dX7_lose_21 rfl h (fun r21 τ21 h => ?_)
      exact g_retMi (pc := 24) X hK hr hlk dX7_lose_24 h
  · have h := ite_t c_4 h
    refine g_bipush (pc := 7) X bp_m2 dX7_lose_7 ?_
    exact g_retMi (pc := 9) X hK hr hlk dX7_lose_9 h
set_option maxRecDepth 20000 in
theorem c_X7_lacks (x1 : Int32) (x2 : Int32) (x3 : Int32) (σ : Sg) (K : Int32 → Sg → Prop) : ∀ sz, Met l yX7_lacks (.code yX7_lacks cX7_lacks 4 (some .int) :: AW) ({ frames := 1, cells := 0, slots := 0, locals := 25 } : Room) (pvM D (tyM cI) SXM (wM cI a σ) sz (w_X7_lacks x1 x2 x3 σ K) [.ref (a 0), .int x1, .int x2, .int x3]) (va_Qi K (atM D (tyM cI) (wM cI a) (va_A (wM cI a σ) sz)) (va_A (wM cI a σ) sz)) 0 0 (va_A (wM cI a σ) sz) := by
  intro sz
  refine met_Mi (own := "TrainNoteModel") (lv := [(0, .ref (a 0)), (1, .int x1), (2, .int x2), (3, .int x3)]) (by decide +kernel) rfl (Nat.le_of_ble_eq_true rfl) rfl ?_
  intro p e s m args below meth c A X hK hX hA hr hlk h
  have hR : ∀ σ H locs, hpM D (wM cI a) A s σ H locs → va_P D vwCl ((wM cI a σ)) H := fun _ _ _ h => h.1
  have hok := SXM_ok
  refine g_aload_n (pc := 0) X rfl 0 rfl dX7_lacks_0 ?_
  refine fX7_7 (pc := 1) X hK hR k_isMod_0 dX7_lacks_1 ?_
  refine g_iload_n (pc := 4) X rfl 1 rfl dX7_lacks_4 ?_
  obtain ⟨h_5, h⟩ := h
  refine aX7_forms (pc := 5) X hK hR k_isMod_0 h_5 dX7_lacks_5 ?_
  refine g_if_ge (pc := 6) (tgt := 15) X (by decide) dX7_lacks_6 (fun c_6 => ?_) (fun c_6 => ?_)
  · have h := ite_t c_6 h
    refine g_aload_n (pc := 15) X rfl 0 rfl dX7_lacks_15 ?_
    refine fX7_7 (pc := 16) X hK hR k_isMod_0 dX7_lacks_16 ?_
    refine g_iload_n (pc := 19) X rfl 1 rfl dX7_lacks_19 ?_
    obtain ⟨h_20, h⟩ := h
    refine aX7_forms (pc := 20) X hK hR k_isMod_0 h_20 dX7_lacks_20 ?_
    refine g_iload_n (pc := 21) X rfl 2 rfl dX7_lacks_21 ?_
    refine g_icmp_eq (pc := 22) (tgt := 31) X (by decide) dX7_lacks_22 (fun c_22 => ?_) (fun c_22 => ?_)
    · have h := ite_t c_22 h
      refine g_iload_n (pc := 31) X rfl 3 rfl dX7_lacks_31 ?_
      refine g_i2l (pc := 32) X dX7_lacks_32 ?_
      refine g_lconst (pc := 33) (v := 0) X rfl dX7_lacks_33 ?_
      refine g_aload_n (pc := 34) X rfl 0 rfl dX7_lacks_34 ?_
      refine fX7_13 (pc := 35) X hK hR k_isMod_0 dX7_lacks_35 ?_
      refine g_iload_n (pc := 38) X rfl 1 rfl dX7_lacks_38 ?_
      obtain ⟨h_39, h⟩ := h
      refine aX7_sizes (pc := 39) X hK hR k_isMod_0 h_39 dX7_lacks_39 ?_
      refine g_iconst (pc := 40) X ic_1 dX7_lacks_40 ?_
      refine g_isub (pc := 41) X dX7_lacks_41 ?_
      refine g_i2l (pc := 42) X dX7_lacks_42 ?_
      refine g_cS0i (pc := 43) (As := [.long (x3).toInt64, .long (0 : Int64), .long (((σ 2 (x1).toNatClampNeg) - (1 : Int32))).toInt64]) X mi_X7_in (c_X7_in (x3).toInt64 (0 : Int64) (((σ 2 (x1).toNatClampNeg) - (1 : Int32))).toInt64 _) kw3_210 ⟨rfl, rfl⟩ ⟨Nat.le_of_ble_eq_true rfl, Nat.le_of_ble_eq_true rfl⟩ rfl (Nat.le_of_ble_eq_true rfl) dX7_lacks_43 rfl h (fun r43 h => ?_)
      refine g_if_eq (pc := 46) (tgt := 53) X (by decide) dX7_lacks_46 (fun c_46 => ?_) (fun c_46 => ?_)
      · have h := ite_t c_46 h
        refine g_aload_n (pc := 53) X rfl 0 rfl dX7_lacks_53 ?_
        refine g_iconst (pc := 54) X ic_2 dX7_lacks_54 ?_
        refine g_cVMi (pc := 55) (As := [.int (2 : Int32)]) X hK hX hok hA mi_X7_finds (c_X7_finds (2 : Int32) σ _) (fun _ => ⟨_, wl_ate (oX7 (cI := cI) (a := a) k_isMod_0).1 ((oX7 (cI := cI) (a := a) k_isMod_0).2 _)⟩) rfl rfl kw3_214 ⟨rfl, rfl⟩ ⟨Nat.le_of_ble_eq_true rfl, Nat.le_of_ble_eq_true rfl⟩ rfl (Nat.le_of_ble_eq_true rfl) dX7_lacks_55 rfl h (fun r55 τ55 h => ?_)
        exact g_retMi (pc := 58) X hK hr hlk dX7_lacks_58 h
      · have h := ite_f c_46 h
        refine g_iconst (pc := 49) X ic_0 dX7_lacks_49 ?_
        refine g_goto (pc := 50) (tgt := 58) X (by decide) dX7_lacks_50 ?_
        exact g_retMi (pc := 58) X hK hr hlk dX7_lacks_58 h
    · have h := ite_f c_22 h
      refine g_aload_n (pc := 25) X rfl 0 rfl dX7_lacks_25 ?_
      refine g_iconst (pc := 26) X ic_3 dX7_lacks_26 ?_
      refine g_cVMi (pc := 27) (As := [.int (3 : Int32)]) X hK hX hok hA mi_X7_finds (c_X7_finds (3 : Int32) σ _) (fun _ => ⟨_, wl_ate (oX7 (cI := cI) (a := a) k_isMod_0).1 ((oX7 (cI := cI) (a := a) k_isMod_0).2 _)⟩) rfl rfl kw3_214 ⟨rfl, rfl⟩ ⟨Nat.le_of_ble_eq_true rfl, Nat.le_of_ble_eq_true rfl⟩ rfl (Nat.le_of_ble_eq_true rfl) dX7_lacks_27 rfl h (fun r27 τ27 h => ?_)
      exact g_retMi (pc := 30) X hK hr hlk dX7_lacks_30 h
  · have h := ite_f c_6 h
    refine g_aload_n (pc := 9) X rfl 0 rfl dX7_lacks_9 ?_
    refine g_iconst (pc := 10) X ic_1 dX7_lacks_10 ?_
    refine g_cVMi (pc := 11) (As := [.int (1 : Int32)]) X hK hX hok hA mi_X7_finds (c_X7_finds (1 : Int32) σ _) (fun _ => ⟨_, wl_ate (oX7 (cI := cI) (a := a) k_isMod_0).1 ((oX7 (cI := cI) (a := a) k_isMod_0).2 _)⟩) rfl rfl kw3_214 ⟨rfl, rfl⟩ ⟨Nat.le_of_ble_eq_true rfl, Nat.le_of_ble_eq_true rfl⟩ rfl (Nat.le_of_ble_eq_true rfl) dX7_lacks_11 rfl h (fun r11 τ11 h => ?_)
    exact g_retMi (pc := 14) X hK hr hlk dX7_lacks_14 h
set_option maxRecDepth 20000 in
theorem c_X7_cut (x0 : Int32) (x1 : Int32) (K : Int32 → Prop) : Met l yX7_cut (.code yX7_cut cX7_cut 2 (some .int) :: AW) ({ frames := 0, cells := 0, slots := 0, locals := 0 } : Room) (pv0 (w_X7_cut x0 x1 K) [.int x0, .int x1]) (vp_Si K) 0 0 (fun _ => False) := by
  refine met_0i (own := "TrainNoteModel") (lv := [(0, .int x0), (1, .int x1)]) (fun _ _ => 0) (by decide +kernel) rfl (Nat.le_of_ble_eq_true rfl) rfl ?_
  intro p e s m args below meth c X hr hlk h
  refine g_iload_n (pc := 0) X rfl 0 rfl dX7_cut_0 ?_
  refine g_if_ne (pc := 1) (tgt := 9) X (by decide) dX7_cut_1 (fun c_1 => ?_) (fun c_1 => ?_)
  · have h := ite_f c_1 h
    refine g_iload_n (pc := 9) X rfl 0 rfl dX7_cut_9 ?_
    refine g_iconst (pc := 10) X ic_1 dX7_cut_10 ?_
    refine g_icmp_ne (pc := 11) (tgt := 19) X (by decide) dX7_cut_11 (fun c_11 => ?_) (fun c_11 => ?_)
    · have h := ite_f c_11 h
      refine g_iload_n (pc := 19) X rfl 1 rfl dX7_cut_19 ?_
      exact g_ret0i (pc := 20) X hr hlk dX7_cut_20 h
    · have h := ite_t c_11 h
      refine g_iload_n (pc := 14) X rfl 1 rfl dX7_cut_14 ?_
      refine g_i2s (pc := 15) X dX7_cut_15 ?_
      refine g_goto (pc := 16) (tgt := 20) X (by decide) dX7_cut_16 ?_
      exact g_ret0i (pc := 20) X hr hlk dX7_cut_20 h
  · have h := ite_t c_1 h
    refine g_iload_n (pc := 4) X rfl 1 rfl dX7_cut_4 ?_
    refine g_i2b (pc := 5) X dX7_cut_5 ?_
    refine g_goto (pc := 6) (tgt := 20) X (by decide) dX7_cut_6 ?_
    exact g_ret0i (pc := 20) X hr hlk dX7_cut_20 h
set_option maxRecDepth 20000 in
theorem c_X7_lay (x1 : Int32) (x2 : Int32) (x3 : Int32) (x4 : Int32) (σ : Sg) (K : Int32 → Sg → Prop) : ∀ sz, Met l yX7_lay (.code yX7_lay cX7_lay 6 (some .int) :: AW) ({ frames := 2, cells := 0, slots := 0, locals := 48 } : Room) (pvM D (tyM cI) SXM (wM cI a σ) sz (w_X7_lay x1 x2 x3 x4 σ K) [.ref (a 0), .int x1, .int x2, .int x3, .int x4]) (va_Qi K (atM D (tyM cI) (wM cI a) (va_A (wM cI a σ) sz)) (va_A (wM cI a σ) sz)) 0 0 (va_A (wM cI a σ) sz) := by
  intro sz
  refine met_Mi (own := "TrainNoteModel") (lv := [(0, .ref (a 0)), (1, .int x1), (2, .int x2), (3, .int x3), (4, .int x4)]) (by decide +kernel) rfl (Nat.le_of_ble_eq_true rfl) rfl ?_
  intro p e s m args below meth c A X hK hX hA hr hlk h
  have hR : ∀ σ H locs, hpM D (wM cI a) A s σ H locs → va_P D vwCl ((wM cI a σ)) H := fun _ _ _ h => h.1
  have hok := SXM_ok
  refine g_iload_n (pc := 0) X rfl 1 rfl dX7_lay_0 ?_
  refine g_cS0i (pc := 1) (As := [.int x1]) X mi_X7_isSheet (c_X7_isSheet x1 _) kw3_206 ⟨rfl, rfl⟩ ⟨Nat.le_of_ble_eq_true rfl, Nat.le_of_ble_eq_true rfl⟩ rfl (Nat.le_of_ble_eq_true rfl) dX7_lay_1 rfl h (fun r1 h => ?_)
  refine g_if_eq (pc := 4) (tgt := 19) X (by decide) dX7_lay_4 (fun c_4 => ?_) (fun c_4 => ?_)
  · have h := ite_t c_4 h
    refine g_bipush (pc := 19) X bp_m2 dX7_lay_19 ?_
    exact g_retMi (pc := 21) X hK hr hlk dX7_lay_21 h
  · have h := ite_f c_4 h
    refine g_iload_n (pc := 7) X rfl 2 rfl dX7_lay_7 ?_
    refine g_i2l (pc := 8) X dX7_lay_8 ?_
    refine g_lconst (pc := 9) (v := 0) X rfl dX7_lay_9 ?_
    refine g_ldc2 (pc := 10) X kw3_213 dX7_lay_10 ?_
    refine g_cS0i (pc := 13) (As := [.long (x2).toInt64, .long (0 : Int64), .long (2 : Int64)]) X mi_X7_in (c_X7_in (x2).toInt64 (0 : Int64) (2 : Int64) _) kw3_210 ⟨rfl, rfl⟩ ⟨Nat.le_of_ble_eq_true rfl, Nat.le_of_ble_eq_true rfl⟩ rfl (Nat.le_of_ble_eq_true rfl) dX7_lay_13 rfl h (fun r13 h => ?_)
    refine g_if_ne (pc := 16) (tgt := 22) X (by decide) dX7_lay_16 (fun c_16 => ?_) (fun c_16 => ?_)
    · have h := ite_f c_16 h
      refine g_aload_n (pc := 22) X rfl 0 rfl dX7_lay_22 ?_
      refine g_iload_n (pc := 23) X rfl 1 rfl dX7_lay_23 ?_
      refine g_iload_n (pc := 24) X rfl 2 rfl dX7_lay_24 ?_
      refine g_iload_n (pc := 25) X rfl 3 rfl dX7_lay_25 ?_
      refine g_cVMi (pc := 26) (As := [.int x1, .int x2, .int x3]) X hK hX hok hA mi_X7_lacks (c_X7_lacks x1 x2 x3 σ _) (fun _ => ⟨_, wl_ate (oX7 (cI := cI) (a := a) k_isMod_0).1 ((oX7 (cI := cI) (a := a) k_isMod_0).2 _)⟩) rfl rfl kw3_226 ⟨rfl, rfl⟩ ⟨Nat.le_of_ble_eq_true rfl, Nat.le_of_ble_eq_true rfl⟩ rfl (Nat.le_of_ble_eq_true rfl) dX7_lay_26 rfl h (fun r26 τ26 h => ?_)
      refine g_istore (pc := 29) (lv' := [(5, .int r26), (0, .ref (a 0)), (1, .int x1), (2, .int x2), (3, .int x3), (4, .int x4)]) X (by decide) rfl dX7_lay_29 ?_
      refine g_iload (pc := 31) X 0 rfl dX7_lay_31 ?_
      refine g_if_eq (pc := 33) (tgt := 39) X (by decide) dX7_lay_33 (fun c_33 => ?_) (fun c_33 => ?_)
      · have h := ite_t c_33 h
        refine g_aload_n (pc := 39) X rfl 1 rfl dX7_lay_39 ?_
        refine fX7_16 (pc := 40) X hK hR k_isMod_0 dX7_lay_40 ?_
        refine g_bipush (pc := 43) X bp_60 dX7_lay_43 ?_
        refine g_iload_n (pc := 45) X rfl 2 rfl dX7_lay_45 ?_
        refine g_imul (pc := 46) X dX7_lay_46 ?_
        refine g_iload_n (pc := 47) X rfl 4 rfl dX7_lay_47 ?_
        refine g_iadd (pc := 48) X dX7_lay_48 ?_
        refine g_iload_n (pc := 49) X rfl 3 rfl dX7_lay_49 ?_
        refine g_iload (pc := 50) X 5 rfl dX7_lay_50 ?_
        refine g_cS0i (pc := 52) (As := [.int x2, .int x4]) X mi_X7_cut (c_X7_cut x2 x4 _) kw3_230 ⟨rfl, rfl⟩ ⟨Nat.le_of_ble_eq_true rfl, Nat.le_of_ble_eq_true rfl⟩ rfl (Nat.le_of_ble_eq_true rfl) dX7_lay_52 rfl h (fun r52 h => ?_)
        obtain ⟨h_55, h⟩ := h
        refine tX7_items (pc := 55) X hK k_isMod_0 h_55 dX7_lay_55 (fun τ55 eτ55 => ?_)
        have h := h τ55 eτ55
        refine g_iconst (pc := 56) X ic_1 dX7_lay_56 ?_
        exact g_retMi (pc := 57) X hK hr hlk dX7_lay_57 h
      · have h := ite_f c_33 h
        refine g_iload (pc := 36) X 0 rfl dX7_lay_36 ?_
        exact g_retMi (pc := 38) X hK hr hlk dX7_lay_38 h
    · have h := ite_t c_16 h
      refine g_bipush (pc := 19) X bp_m2 dX7_lay_19 ?_
      exact g_retMi (pc := 21) X hK hr hlk dX7_lay_21 h
set_option maxRecDepth 20000 in
theorem c_X7_get (x1 : Int32) (x2 : Int32) (x3 : Int32) (σ : Sg) (K : Int32 → Sg → Prop) : ∀ sz, Met l yX7_get (.code yX7_get cX7_get 4 (some .int) :: AW) ({ frames := 2, cells := 0, slots := 0, locals := 48 } : Room) (pvM D (tyM cI) SXM (wM cI a σ) sz (w_X7_get x1 x2 x3 σ K) [.ref (a 0), .int x1, .int x2, .int x3]) (va_Qi K (atM D (tyM cI) (wM cI a) (va_A (wM cI a σ) sz)) (va_A (wM cI a σ) sz)) 0 0 (va_A (wM cI a σ) sz) := by
  intro sz
  refine met_Mi (own := "TrainNoteModel") (lv := [(0, .ref (a 0)), (1, .int x1), (2, .int x2), (3, .int x3)]) (by decide +kernel) rfl (Nat.le_of_ble_eq_true rfl) rfl ?_
  intro p e s m args below meth c A X hK hX hA hr hlk h
  have hR : ∀ σ H locs, hpM D (wM cI a) A s σ H locs → va_P D vwCl ((wM cI a σ)) H := fun _ _ _ h => h.1
  have hok := SXM_ok
  refine g_iload_n (pc := 0) X rfl 1 rfl dX7_get_0 ?_
  refine g_cS0i (pc := 1) (As := [.int x1]) X mi_X7_isSheet (c_X7_isSheet x1 _) kw3_206 ⟨rfl, rfl⟩ ⟨Nat.le_of_ble_eq_true rfl, Nat.le_of_ble_eq_true rfl⟩ rfl (Nat.le_of_ble_eq_true rfl) dX7_get_1 rfl h (fun r1 h => ?_)
  refine g_if_eq (pc := 4) (tgt := 29) X (by decide) dX7_get_4 (fun c_4 => ?_) (fun c_4 => ?_)
  · have h := ite_t c_4 h
    refine g_ldc (pc := 29) X kw3_237 dX7_get_29 ?_
    exact g_retMi (pc := 31) X hK hr hlk dX7_get_31 h
  · have h := ite_f c_4 h
    refine g_iload_n (pc := 7) X rfl 2 rfl dX7_get_7 ?_
    refine g_i2l (pc := 8) X dX7_get_8 ?_
    refine g_lconst (pc := 9) (v := 0) X rfl dX7_get_9 ?_
    refine g_ldc2 (pc := 10) X kw3_213 dX7_get_10 ?_
    refine g_cS0i (pc := 13) (As := [.long (x2).toInt64, .long (0 : Int64), .long (2 : Int64)]) X mi_X7_in (c_X7_in (x2).toInt64 (0 : Int64) (2 : Int64) _) kw3_210 ⟨rfl, rfl⟩ ⟨Nat.le_of_ble_eq_true rfl, Nat.le_of_ble_eq_true rfl⟩ rfl (Nat.le_of_ble_eq_true rfl) dX7_get_13 rfl h (fun r13 h => ?_)
    refine g_if_eq (pc := 16) (tgt := 29) X (by decide) dX7_get_16 (fun c_16 => ?_) (fun c_16 => ?_)
    · have h := ite_t c_16 h
      refine g_ldc (pc := 29) X kw3_237 dX7_get_29 ?_
      exact g_retMi (pc := 31) X hK hr hlk dX7_get_31 h
    · have h := ite_f c_16 h
      refine g_aload_n (pc := 19) X rfl 0 rfl dX7_get_19 ?_
      refine g_iload_n (pc := 20) X rfl 1 rfl dX7_get_20 ?_
      refine g_iload_n (pc := 21) X rfl 2 rfl dX7_get_21 ?_
      refine g_iload_n (pc := 22) X rfl 3 rfl dX7_get_22 ?_
      refine g_cVMi (pc := 23) (As := [.int x1, .int x2, .int x3]) X hK hX hok hA mi_X7_lacks (c_X7_lacks x1 x2 x3 σ _) (fun _ => ⟨_, wl_ate (oX7 (cI := cI) (a := a) k_isMod_0).1 ((oX7 (cI := cI) (a := a) k_isMod_0).2 _)⟩) rfl rfl kw3_226 ⟨rfl, rfl⟩ ⟨Nat.le_of_ble_eq_true rfl, Nat.le_of_ble_eq_true rfl⟩ rfl (Nat.le_of_ble_eq_true rfl) dX7_get_23 rfl h (fun r23 τ23 h => ?_)
      refine g_if_eq (pc := 26) (tgt := 32) X (by decide) dX7_get_26 (fun c_26 => ?_) (fun c_26 => ?_)
      · have h := ite_t c_26 h
        refine g_aload_n (pc := 32) X rfl 0 rfl dX7_get_32 ?_
        refine fX7_16 (pc := 33) X hK hR k_isMod_0 dX7_get_33 ?_
        refine g_bipush (pc := 36) X bp_60 dX7_get_36 ?_
        refine g_iload_n (pc := 38) X rfl 1 rfl dX7_get_38 ?_
        refine g_imul (pc := 39) X dX7_get_39 ?_
        refine g_iload_n (pc := 40) X rfl 3 rfl dX7_get_40 ?_
        refine g_iadd (pc := 41) X dX7_get_41 ?_
        obtain ⟨h_42, h⟩ := h
        refine aX7_items (pc := 42) X hK hR k_isMod_0 h_42 dX7_get_42 ?_
        exact g_retMi (pc := 43) X hK hr hlk dX7_get_43 h
      · have h := ite_f c_26 h
        refine g_ldc (pc := 29) X kw3_237 dX7_get_29 ?_
        exact g_retMi (pc := 31) X hK hr hlk dX7_get_31 h
set_option maxRecDepth 20000 in
theorem c_X7_copy (x1 : Int32) (x2 : Int32) (x3 : Int32) (x4 : Int32) (x5 : Int32) (σ : Sg) (K : Int32 → Sg → Prop) : ∀ sz, Met l yX7_copy (.code yX7_copy cX7_copy 7 (some .int) :: AW) ({ frames := 2, cells := 0, slots := 0, locals := 45 } : Room) (pvM D (tyM cI) SXM (wM cI a σ) sz (w_X7_copy x1 x2 x3 x4 x5 σ K) [.ref (a 0), .int x1, .int x2, .int x3, .int x4, .int x5]) (va_Qi K (atM D (tyM cI) (wM cI a) (va_A (wM cI a σ) sz)) (va_A (wM cI a σ) sz)) 0 0 (va_A (wM cI a σ) sz) := by
  intro sz
  refine met_Mi (own := "TrainNoteModel") (lv := [(0, .ref (a 0)), (1, .int x1), (2, .int x2), (3, .int x3), (4, .int x4), (5, .int x5)]) (by decide +kernel) rfl (Nat.le_of_ble_eq_true rfl) rfl ?_
  intro p e s m args below meth c A X hK hX hA hr hlk h
  have hR : ∀ σ H locs, hpM D (wM cI a) A s σ H locs → va_P D vwCl ((wM cI a σ)) H := fun _ _ _ h => h.1
  have hok := SXM_ok
  refine g_iload_n (pc := 0) X rfl 1 rfl dX7_copy_0 ?_
  refine g_cS0i (pc := 1) (As := [.int x1]) X mi_X7_isSheet (c_X7_isSheet x1 _) kw3_206 ⟨rfl, rfl⟩ ⟨Nat.le_of_ble_eq_true rfl, Nat.le_of_ble_eq_true rfl⟩ rfl (Nat.le_of_ble_eq_true rfl) dX7_copy_1 rfl h (fun r1 h => ?_)
  refine g_if_eq (pc := 4) (tgt := 14) X (by decide) dX7_copy_4 (fun c_4 => ?_) (fun c_4 => ?_)
  · have h := ite_t c_4 h
    refine g_bipush (pc := 14) X bp_m2 dX7_copy_14 ?_
    exact g_retMi (pc := 16) X hK hr hlk dX7_copy_16 h
  · have h := ite_f c_4 h
    refine g_iload_n (pc := 7) X rfl 3 rfl dX7_copy_7 ?_
    refine g_cS0i (pc := 8) (As := [.int x3]) X mi_X7_isSheet (c_X7_isSheet x3 _) kw3_206 ⟨rfl, rfl⟩ ⟨Nat.le_of_ble_eq_true rfl, Nat.le_of_ble_eq_true rfl⟩ rfl (Nat.le_of_ble_eq_true rfl) dX7_copy_8 rfl h (fun r8 h => ?_)
    refine g_if_ne (pc := 11) (tgt := 17) X (by decide) dX7_copy_11 (fun c_11 => ?_) (fun c_11 => ?_)
    · have h := ite_f c_11 h
      refine g_aload_n (pc := 17) X rfl 0 rfl dX7_copy_17 ?_
      refine fX7_7 (pc := 18) X hK hR k_isMod_0 dX7_copy_18 ?_
      refine g_iload_n (pc := 21) X rfl 1 rfl dX7_copy_21 ?_
      obtain ⟨h_22, h⟩ := h
      refine aX7_forms (pc := 22) X hK hR k_isMod_0 h_22 dX7_copy_22 ?_
      have J35 : ∀ (_ : Unit), J_X7_copy_35 σ K → GMi p l e ({ frames := 2, cells := 0, slots := 0, locals := 45 } : Room) s m args below meth c K 7 D (tyM cI) (wM cI a) A 35 [(0, .ref (a 0))] [] σ := by
        intro _ h
        refine g_aload_n (pc := 35) X rfl 0 rfl dX7_copy_35 ?_
        refine g_iconst (pc := 36) X ic_1 dX7_copy_36 ?_
        refine g_cVMi (pc := 37) (As := [.int (1 : Int32)]) X hK hX hok hA mi_X7_finds (c_X7_finds (1 : Int32) σ _) (fun _ => ⟨_, wl_ate (oX7 (cI := cI) (a := a) k_isMod_0).1 ((oX7 (cI := cI) (a := a) k_isMod_0).2 _)⟩) rfl rfl kw3_214 ⟨rfl, rfl⟩ ⟨Nat.le_of_ble_eq_true rfl, Nat.le_of_ble_eq_true rfl⟩ rfl (Nat.le_of_ble_eq_true rfl) dX7_copy_37 rfl h (fun r37 τ37 h => ?_)
        exact g_retMi (pc := 40) X hK hr hlk dX7_copy_40 h
      refine g_if_lt (pc := 23) (tgt := 35) X (by decide) dX7_copy_23 (fun c_23 => ?_) (fun c_23 => ?_)
      · have h := ite_t c_23 h
        exact g_lv (J35 () h) [0] rfl
      · have h := ite_f c_23 h
        refine g_aload_n (pc := 26) X rfl 0 rfl dX7_copy_26 ?_
        refine fX7_7 (pc := 27) X hK hR k_isMod_0 dX7_copy_27 ?_
        refine g_iload_n (pc := 30) X rfl 3 rfl dX7_copy_30 ?_
        obtain ⟨h_31, h⟩ := h
        refine aX7_forms (pc := 31) X hK hR k_isMod_0 h_31 dX7_copy_31 ?_
        refine g_if_ge (pc := 32) (tgt := 41) X (by decide) dX7_copy_32 (fun c_32 => ?_) (fun c_32 => ?_)
        · have h := ite_t c_32 h
          refine g_aload_n (pc := 41) X rfl 0 rfl dX7_copy_41 ?_
          refine fX7_7 (pc := 42) X hK hR k_isMod_0 dX7_copy_42 ?_
          refine g_iload_n (pc := 45) X rfl 1 rfl dX7_copy_45 ?_
          obtain ⟨h_46, h⟩ := h
          refine aX7_forms (pc := 46) X hK hR k_isMod_0 h_46 dX7_copy_46 ?_
          refine g_aload_n (pc := 47) X rfl 0 rfl dX7_copy_47 ?_
          refine fX7_7 (pc := 48) X hK hR k_isMod_0 dX7_copy_48 ?_
          refine g_iload_n (pc := 51) X rfl 3 rfl dX7_copy_51 ?_
          obtain ⟨h_52, h⟩ := h
          refine aX7_forms (pc := 52) X hK hR k_isMod_0 h_52 dX7_copy_52 ?_
          refine g_icmp_eq (pc := 53) (tgt := 62) X (by decide) dX7_copy_53 (fun c_53 => ?_) (fun c_53 => ?_)
          · have h := ite_t c_53 h
            refine g_iload_n (pc := 62) X rfl 2 rfl dX7_copy_62 ?_
            have J111 : ∀ (_ : Unit), J_X7_copy_111 σ K → GMi p l e ({ frames := 2, cells := 0, slots := 0, locals := 45 } : Room) s m args below meth c K 7 D (tyM cI) (wM cI a) A 111 [(0, .ref (a 0))] [] σ := by
              intro _ h
              refine g_aload_n (pc := 111) X rfl 0 rfl dX7_copy_111 ?_
              refine g_iconst (pc := 112) X ic_2 dX7_copy_112 ?_
              refine g_cVMi (pc := 113) (As := [.int (2 : Int32)]) X hK hX hok hA mi_X7_finds (c_X7_finds (2 : Int32) σ _) (fun _ => ⟨_, wl_ate (oX7 (cI := cI) (a := a) k_isMod_0).1 ((oX7 (cI := cI) (a := a) k_isMod_0).2 _)⟩) rfl rfl kw3_214 ⟨rfl, rfl⟩ ⟨Nat.le_of_ble_eq_true rfl, Nat.le_of_ble_eq_true rfl⟩ rfl (Nat.le_of_ble_eq_true rfl) dX7_copy_113 rfl h (fun r113 τ113 h => ?_)
              exact g_retMi (pc := 116) X hK hr hlk dX7_copy_116 h
            refine g_if_lt (pc := 63) (tgt := 111) X (by decide) dX7_copy_63 (fun c_63 => ?_) (fun c_63 => ?_)
            · have h := ite_t c_63 h
              exact g_lv (J111 () h) [0] rfl
            · have h := ite_f c_63 h
              refine g_iload (pc := 66) X 4 rfl dX7_copy_66 ?_
              refine g_if_lt (pc := 68) (tgt := 111) X (by decide) dX7_copy_68 (fun c_68 => ?_) (fun c_68 => ?_)
              · have h := ite_t c_68 h
                exact g_lv (J111 () h) [0] rfl
              · have h := ite_f c_68 h
                refine g_iload (pc := 71) X 5 rfl dX7_copy_71 ?_
                refine g_if_lt (pc := 73) (tgt := 111) X (by decide) dX7_copy_73 (fun c_73 => ?_) (fun c_73 => ?_)
                · have h := ite_t c_73 h
                  exact g_lv (J111 () h) [0] rfl
                · have h := ite_f c_73 h
                  refine g_iload_n (pc := 76) X rfl 2 rfl dX7_copy_76 ?_
                  refine g_i2l (pc := 77) X dX7_copy_77 ?_
                  refine g_iload (pc := 78) X 5 rfl dX7_copy_78 ?_
                  refine g_i2l (pc := 80) X dX7_copy_80 ?_
                  refine g_ladd (pc := 81) X dX7_copy_81 ?_
                  refine g_aload_n (pc := 82) X rfl 0 rfl dX7_copy_82 ?_
                  refine fX7_13 (pc := 83) X hK hR k_isMod_0 dX7_copy_83 ?_
                  refine g_iload_n (pc := 86) X rfl 1 rfl dX7_copy_86 ?_
                  obtain ⟨h_87, h⟩ := h
                  refine aX7_sizes (pc := 87) X hK hR k_isMod_0 h_87 dX7_copy_87 ?_
                  refine g_i2l (pc := 88) X dX7_copy_88 ?_
                  refine g_lcmp (pc := 89) X dX7_copy_89 ?_
                  refine g_if_gt (pc := 90) (tgt := 111) X (by decide) dX7_copy_90 (fun c_90 => ?_) (fun c_90 => ?_)
                  · have h := ite_t c_90 h
                    exact g_lv (J111 () h) [0] rfl
                  · have h := ite_f c_90 h
                    refine g_iload (pc := 93) X 4 rfl dX7_copy_93 ?_
                    refine g_i2l (pc := 95) X dX7_copy_95 ?_
                    refine g_iload (pc := 96) X 5 rfl dX7_copy_96 ?_
                    refine g_i2l (pc := 98) X dX7_copy_98 ?_
                    refine g_ladd (pc := 99) X dX7_copy_99 ?_
                    refine g_aload_n (pc := 100) X rfl 0 rfl dX7_copy_100 ?_
                    refine fX7_13 (pc := 101) X hK hR k_isMod_0 dX7_copy_101 ?_
                    refine g_iload_n (pc := 104) X rfl 3 rfl dX7_copy_104 ?_
                    obtain ⟨h_105, h⟩ := h
                    refine aX7_sizes (pc := 105) X hK hR k_isMod_0 h_105 dX7_copy_105 ?_
                    refine g_i2l (pc := 106) X dX7_copy_106 ?_
                    refine g_lcmp (pc := 107) X dX7_copy_107 ?_
                    refine g_if_le (pc := 108) (tgt := 117) X (by decide) dX7_copy_108 (fun c_108 => ?_) (fun c_108 => ?_)
                    · have h := ite_t c_108 h
                      refine g_iconst (pc := 117) X ic_0 dX7_copy_117 ?_
                      refine g_istore (pc := 118) (lv' := [(6, .int (0 : Int32)), (0, .ref (a 0)), (1, .int x1), (2, .int x2), (3, .int x3), (4, .int x4), (5, .int x5)]) X (by decide) rfl dX7_copy_118 ?_
                      obtain ⟨n120, h⟩ := h
                      have X154 : ∀ (ρe154 : Sg), E_X7_copy_120 x5 x3 x4 K ρe154 → GMi p l e ({ frames := 2, cells := 0, slots := 0, locals := 45 } : Room) s m args below meth c K 7 D (tyM cI) (wM cI a) A 154 [(0, .ref (a 0)), (3, .int x3), (4, .int x4), (5, .int x5)] [] ρe154 := by
                        intro ρe154 h
                        refine g_iconst (pc := 154) X ic_0 dX7_copy_154 ?_
                        refine g_istore (pc := 155) (lv' := [(6, .int (0 : Int32)), (0, .ref (a 0)), (3, .int x3), (4, .int x4), (5, .int x5)]) X (by decide) rfl dX7_copy_155 ?_
                        obtain ⟨n157, h⟩ := h
                        have X192 : ∀ (ρe192 : Sg), E_X7_copy_157 K ρe192 → GMi p l e ({ frames := 2, cells := 0, slots := 0, locals := 45 } : Room) s m args below meth c K 7 D (tyM cI) (wM cI a) A 192 [] [] ρe192 := by
                          intro ρe192 h
                          refine g_iconst (pc := 192) X ic_1 dX7_copy_192 ?_
                          exact g_retMi (pc := 193) X hK hr hlk dX7_copy_193 h
                        have L157 : ∀ (n : Nat) (y6_157 : Int32) (ρ157 : Sg), lq2 (F_X7_copy_157 x5 x3 x4 (E_X7_copy_157 K)) n y6_157 ρ157 → GMi p l e ({ frames := 2, cells := 0, slots := 0, locals := 45 } : Room) s m args below meth c K 7 D (tyM cI) (wM cI a) A 157 [(0, .ref (a 0)), (3, .int x3), (4, .int x4), (5, .int x5), (6, .int y6_157)] [] ρ157 := by
                          intro n
                          induction n with
                          | zero =>
                            intro y6_157 ρ157 h
                            exact h.elim
                          | succ n ih =>
                            intro y6_157 ρ157 h
                            have h : F_X7_copy_157 x5 x3 x4 (E_X7_copy_157 K) (lq2 (F_X7_copy_157 x5 x3 x4 (E_X7_copy_157 K)) n) y6_157 ρ157 := h
                            refine g_iload (pc := 157) X 4 rfl dX7_copy_157 ?_
                            refine g_iload (pc := 159) X 3 rfl dX7_copy_159 ?_
                            refine g_icmp_ge (pc := 161) (tgt := 192) X (by decide) dX7_copy_161 (fun c_161 => ?_) (fun c_161 => ?_)
                            · have h := ite_t c_161 h
                              exact g_lv (X192 ρ157 h) [] rfl
                            · have h := ite_f c_161 h
                              refine g_aload_n (pc := 164) X rfl 0 rfl dX7_copy_164 ?_
                              refine fX7_16 (pc := 165) X hK hR k_isMod_0 dX7_copy_165 ?_
                              refine g_bipush (pc := 168) X bp_60 dX7_copy_168 ?_
                              refine g_iload_n (pc := 170) X rfl 1 rfl dX7_copy_170 ?_
                              refine g_imul (pc := 171) X dX7_copy_171 ?_
                              refine g_iload (pc := 172) X 2 rfl dX7_copy_172 ?_
                              refine g_iadd (pc := 174) X dX7_copy_174 ?_
                              refine g_iload (pc := 175) X 4 rfl dX7_copy_175 ?_
                              refine g_iadd (pc := 177) X dX7_copy_177 ?_
                              refine g_aload_n (pc := 178) X rfl 0 rfl dX7_copy_178 ?_
                              refine fX7_19 (pc := 179) X hK hR k_isMod_0 dX7_copy_179 ?_
                              refine g_iload (pc := 182) X 4 rfl dX7_copy_182 ?_
                              obtain ⟨h_184, h⟩ := h
                              refine aX7_moved (pc := 184) X hK hR k_isMod_0 h_184 dX7_copy_184 ?_
                              obtain ⟨h_185, h⟩ := h
                              refine tX7_items (pc := 185) X hK k_isMod_0 h_185 dX7_copy_185 (fun τ185 eτ185 => ?_)
                              have h := h τ185 eτ185
                              refine g_iinc (pc := 186) (lv' := [(6, .int (y6_157 + (1 : Int32))), (0, .ref (a 0)), (3, .int x3), (4, .int x4), (5, .int x5)]) X 4 rfl rfl (by decide) rfl dX7_copy_186 ?_
                              refine g_goto (pc := 189) (tgt := 157) X (by decide) dX7_copy_189 ?_
                              exact g_lv (ih (y6_157 + (1 : Int32)) τ185 h) [1, 2, 3, 4, 0] rfl
                        exact g_lv (L157 n157 (0 : Int32) ρe154 h) [1, 2, 3, 4, 0] rfl
                      have L120 : ∀ (n : Nat) (y6_120 : Int32) (ρ120 : Sg), lq2 (F_X7_copy_120 x5 x1 x2 (E_X7_copy_120 x5 x3 x4 K)) n y6_120 ρ120 → GMi p l e ({ frames := 2, cells := 0, slots := 0, locals := 45 } : Room) s m args below meth c K 7 D (tyM cI) (wM cI a) A 120 [(0, .ref (a 0)), (1, .int x1), (2, .int x2), (3, .int x3), (4, .int x4), (5, .int x5), (6, .int y6_120)] [] ρ120 := by
                        intro n
                        induction n with
                        | zero =>
                          intro y6_120 ρ120 h
                          exact h.elim
                        | succ n ih =>
                          intro y6_120 ρ120 h
                          have h : F_X7_copy_120 x5 x1 x2 (E_X7_copy_120 x5 x3 x4 K) (lq2 (F_X7_copy_120 x5 x1 x2 (E_X7_copy_120 x5 x3 x4 K)) n) y6_120 ρ120 := h
                          refine g_iload (pc := 120) X 6 rfl dX7_copy_120 ?_
                          refine g_iload (pc := 122) X 5 rfl dX7_copy_122 ?_
                          refine g_icmp_ge (pc := 124) (tgt := 154) X (by decide) dX7_copy_124 (fun c_124 => ?_) (fun c_124 => ?_)
                          · have h := ite_t c_124 h
                            exact g_lv (X154 ρ120 h) [0, 3, 4, 5] rfl
                          · have h := ite_f c_124 h
                            refine g_aload_n (pc := 127) X rfl 0 rfl dX7_copy_127 ?_
                            refine fX7_19 (pc := 128) X hK hR k_isMod_0 dX7_copy_128 ?_
                            refine g_iload (pc := 131) X 6 rfl dX7_copy_131 ?_
                            refine g_aload_n (pc := 133) X rfl 0 rfl dX7_copy_133 ?_
                            refine fX7_16 (pc := 134) X hK hR k_isMod_0 dX7_copy_134 ?_
                            refine g_bipush (pc := 137) X bp_60 dX7_copy_137 ?_
                            refine g_iload_n (pc := 139) X rfl 1 rfl dX7_copy_139 ?_
                            refine g_imul (pc := 140) X dX7_copy_140 ?_
                            refine g_iload_n (pc := 141) X rfl 2 rfl dX7_copy_141 ?_
                            refine g_iadd (pc := 142) X dX7_copy_142 ?_
                            refine g_iload (pc := 143) X 6 rfl dX7_copy_143 ?_
                            refine g_iadd (pc := 145) X dX7_copy_145 ?_
                            obtain ⟨h_146, h⟩ := h
                            refine aX7_items (pc := 146) X hK hR k_isMod_0 h_146 dX7_copy_146 ?_
                            obtain ⟨h_147, h⟩ := h
                            refine tX7_moved (pc := 147) X hK k_isMod_0 h_147 dX7_copy_147 (fun τ147 eτ147 => ?_)
                            have h := h τ147 eτ147
                            refine g_iinc (pc := 148) (lv' := [(6, .int (y6_120 + (1 : Int32))), (0, .ref (a 0)), (1, .int x1), (2, .int x2), (3, .int x3), (4, .int x4), (5, .int x5)]) X 6 rfl rfl (by decide) rfl dX7_copy_148 ?_
                            refine g_goto (pc := 151) (tgt := 120) X (by decide) dX7_copy_151 ?_
                            exact g_lv (ih (y6_120 + (1 : Int32)) τ147 h) [1, 2, 3, 4, 5, 6, 0] rfl
                      exact g_lv (L120 n120 (0 : Int32) σ h) [1, 2, 3, 4, 5, 6, 0] rfl
                    · have h := ite_f c_108 h
                      exact g_lv (J111 () h) [0] rfl
          · have h := ite_f c_53 h
            refine g_aload_n (pc := 56) X rfl 0 rfl dX7_copy_56 ?_
            refine g_iconst (pc := 57) X ic_4 dX7_copy_57 ?_
            refine g_cVMi (pc := 58) (As := [.int (4 : Int32)]) X hK hX hok hA mi_X7_finds (c_X7_finds (4 : Int32) σ _) (fun _ => ⟨_, wl_ate (oX7 (cI := cI) (a := a) k_isMod_0).1 ((oX7 (cI := cI) (a := a) k_isMod_0).2 _)⟩) rfl rfl kw3_214 ⟨rfl, rfl⟩ ⟨Nat.le_of_ble_eq_true rfl, Nat.le_of_ble_eq_true rfl⟩ rfl (Nat.le_of_ble_eq_true rfl) dX7_copy_58 rfl h (fun r58 τ58 h => ?_)
            exact g_retMi (pc := 61) X hK hr hlk dX7_copy_61 h
        · have h := ite_f c_32 h
          exact g_lv (J35 () h) [0] rfl
    · have h := ite_t c_11 h
      refine g_bipush (pc := 14) X bp_m2 dX7_copy_14 ?_
      exact g_retMi (pc := 16) X hK hr hlk dX7_copy_16 h
end
