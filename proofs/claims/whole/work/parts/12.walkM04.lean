section
variable {l : Launch} {D : va_G} {cI cZ cS : ClassId} {a : Nat → Nat} {tS tF : Nat}
set_option maxRecDepth 20000 in
theorem c_X7_drive (x1 : Int32) (x2 : Int32) (σ : Sg) (K : Int32 → Sg → Prop) : ∀ sz, Met l yX7_drive (.code yX7_drive cX7_drive 3 (some .int) :: AW) ({ frames := 4, cells := 0, slots := 0, locals := 95 } : Room) (pvM D (tyM cI) SXM (wM cI a σ) sz (w_X7_drive x1 x2 σ K) [.ref (a 0), .int x1, .int x2]) (va_Qi K (atM D (tyM cI) (wM cI a) (va_A (wM cI a σ) sz)) (va_A (wM cI a σ) sz)) 0 0 (va_A (wM cI a σ) sz) := by
  intro sz
  refine met_Mi (own := "TrainNoteModel") (lv := [(0, .ref (a 0)), (1, .int x1), (2, .int x2)]) (by decide +kernel) rfl (Nat.le_of_ble_eq_true rfl) rfl ?_
  intro p e s m args below meth c A X hK hX hA hr hlk h
  have hR : ∀ σ H locs, hpM D (wM cI a) A s σ H locs → va_P D vwCl ((wM cI a σ)) H := fun _ _ _ h => h.1
  have hok := SXM_ok
  refine g_aload_n (pc := 0) X rfl 0 rfl dX7_drive_0 ?_
  refine g_cVMv (pc := 1) (As := []) X hK hX hok hA mi_X7_find (c_X7_find  σ _) (fun _ => ⟨_, wl_ate (oX7 (cI := cI) (a := a) k_isMod_0).1 ((oX7 (cI := cI) (a := a) k_isMod_0).2 _)⟩) rfl rfl kw4_67 ⟨rfl, rfl⟩ ⟨Nat.le_of_ble_eq_true rfl, Nat.le_of_ble_eq_true rfl⟩ rfl (Nat.le_of_ble_eq_true rfl) dX7_drive_1 rfl h (fun τ1 h => ?_)
  refine g_aload_n (pc := 4) X rfl 0 rfl dX7_drive_4 ?_
  refine g_iload_n (pc := 5) X rfl 1 rfl dX7_drive_5 ?_
  refine g_cVPi (pc := 6) (As := [.int x1]) X hK hR mi_X7_isBar (c_X7_isBar x1 τ1 _) (wl_ate (oX7 (cI := cI) (a := a) k_isMod_0).1 ((oX7 (cI := cI) (a := a) k_isMod_0).2 _)) rfl rfl kw4_94 ⟨rfl, rfl⟩ ⟨Nat.le_of_ble_eq_true rfl, Nat.le_of_ble_eq_true rfl⟩ rfl (Nat.le_of_ble_eq_true rfl) dX7_drive_6 rfl h (fun r6 h => ?_)
  refine g_if_eq (pc := 9) (tgt := 28) X (by decide) dX7_drive_9 (fun c_9 => ?_) (fun c_9 => ?_)
  · have h := ite_t c_9 h
    refine g_bipush (pc := 28) X bp_m2 dX7_drive_28 ?_
    exact g_retMi (pc := 30) X hK hr hlk dX7_drive_30 h
  · have h := ite_f c_9 h
    refine g_iload_n (pc := 12) X rfl 2 rfl dX7_drive_12 ?_
    refine g_cS0i (pc := 13) (As := [.int x2]) X mi_X7_isTwo (c_X7_isTwo x2 _) kw4_6 ⟨rfl, rfl⟩ ⟨Nat.le_of_ble_eq_true rfl, Nat.le_of_ble_eq_true rfl⟩ rfl (Nat.le_of_ble_eq_true rfl) dX7_drive_13 rfl h (fun r13 h => ?_)
    refine g_if_eq (pc := 16) (tgt := 28) X (by decide) dX7_drive_16 (fun c_16 => ?_) (fun c_16 => ?_)
    · have h := ite_t c_16 h
      refine g_bipush (pc := 28) X bp_m2 dX7_drive_28 ?_
      exact g_retMi (pc := 30) X hK hr hlk dX7_drive_30 h
    · have h := ite_f c_16 h
      refine g_aload_n (pc := 19) X rfl 0 rfl dX7_drive_19 ?_
      refine g_iload_n (pc := 20) X rfl 1 rfl dX7_drive_20 ?_
      refine g_iload_n (pc := 21) X rfl 2 rfl dX7_drive_21 ?_
      refine g_cVMi (pc := 22) (As := [.int x1, .int x2]) X hK hX hok hA mi_X7_driveOf (c_X7_driveOf x1 x2 τ1 _) (fun _ => ⟨_, wl_ate (oX7 (cI := cI) (a := a) k_isMod_0).1 ((oX7 (cI := cI) (a := a) k_isMod_0).2 _)⟩) rfl rfl kw4_176 ⟨rfl, rfl⟩ ⟨Nat.le_of_ble_eq_true rfl, Nat.le_of_ble_eq_true rfl⟩ rfl (Nat.le_of_ble_eq_true rfl) dX7_drive_22 rfl h (fun r22 τ22 h => ?_)
      refine g_goto (pc := 25) (tgt := 30) X (by decide) dX7_drive_25 ?_
      exact g_retMi (pc := 30) X hK hr hlk dX7_drive_30 h
set_option maxRecDepth 20000 in
theorem c_X7_heard (x1 : Int32) (x2 : Int32) (x3 : Int32) (σ : Sg) (K : Int32 → Sg → Prop) : ∀ sz, Met l yX7_heard (.code yX7_heard cX7_heard 4 (some .int) :: AW) ({ frames := 1, cells := 0, slots := 0, locals := 25 } : Room) (pvM D (tyM cI) SXM (wM cI a σ) sz (w_X7_heard x1 x2 x3 σ K) [.ref (a 0), .int x1, .int x2, .int x3]) (va_Qi K (atM D (tyM cI) (wM cI a) (va_A (wM cI a σ) sz)) (va_A (wM cI a σ) sz)) 0 0 (va_A (wM cI a σ) sz) := by
  intro sz
  refine met_Mi (own := "TrainNoteModel") (lv := [(0, .ref (a 0)), (1, .int x1), (2, .int x2), (3, .int x3)]) (by decide +kernel) rfl (Nat.le_of_ble_eq_true rfl) rfl ?_
  intro p e s m args below meth c A X hK hX hA hr hlk h
  have hR : ∀ σ H locs, hpM D (wM cI a) A s σ H locs → va_P D vwCl ((wM cI a σ)) H := fun _ _ _ h => h.1
  have hok := SXM_ok
  refine g_iload_n (pc := 0) X rfl 1 rfl dX7_heard_0 ?_
  refine g_i2l (pc := 1) X dX7_heard_1 ?_
  refine g_lconst (pc := 2) (v := 0) X rfl dX7_heard_2 ?_
  refine g_ldc2 (pc := 3) X kw4_47 dX7_heard_3 ?_
  refine g_cS0i (pc := 6) (As := [.long (x1).toInt64, .long (0 : Int64), .long (23 : Int64)]) X mi_X7_in (c_X7_in (x1).toInt64 (0 : Int64) (23 : Int64) _) kw3_210 ⟨rfl, rfl⟩ ⟨Nat.le_of_ble_eq_true rfl, Nat.le_of_ble_eq_true rfl⟩ rfl (Nat.le_of_ble_eq_true rfl) dX7_heard_6 rfl h (fun r6 h => ?_)
  refine g_if_eq (pc := 9) (tgt := 36) X (by decide) dX7_heard_9 (fun c_9 => ?_) (fun c_9 => ?_)
  · have h := ite_t c_9 h
    refine g_bipush (pc := 36) X bp_m2 dX7_heard_36 ?_
    exact g_retMi (pc := 38) X hK hr hlk dX7_heard_38 h
  · have h := ite_f c_9 h
    refine g_iload_n (pc := 12) X rfl 2 rfl dX7_heard_12 ?_
    refine g_i2l (pc := 13) X dX7_heard_13 ?_
    refine g_lconst (pc := 14) (v := 0) X rfl dX7_heard_14 ?_
    refine g_ldc2 (pc := 15) X kw4_184 dX7_heard_15 ?_
    refine g_cS0i (pc := 18) (As := [.long (x2).toInt64, .long (0 : Int64), .long (7 : Int64)]) X mi_X7_in (c_X7_in (x2).toInt64 (0 : Int64) (7 : Int64) _) kw3_210 ⟨rfl, rfl⟩ ⟨Nat.le_of_ble_eq_true rfl, Nat.le_of_ble_eq_true rfl⟩ rfl (Nat.le_of_ble_eq_true rfl) dX7_heard_18 rfl h (fun r18 h => ?_)
    refine g_if_eq (pc := 21) (tgt := 36) X (by decide) dX7_heard_21 (fun c_21 => ?_) (fun c_21 => ?_)
    · have h := ite_t c_21 h
      refine g_bipush (pc := 36) X bp_m2 dX7_heard_36 ?_
      exact g_retMi (pc := 38) X hK hr hlk dX7_heard_38 h
    · have h := ite_f c_21 h
      refine g_iload_n (pc := 24) X rfl 3 rfl dX7_heard_24 ?_
      refine g_i2l (pc := 25) X dX7_heard_25 ?_
      refine g_lconst (pc := 26) (v := 0) X rfl dX7_heard_26 ?_
      refine g_ldc2 (pc := 27) X kw4_185 dX7_heard_27 ?_
      refine g_cS0i (pc := 30) (As := [.long (x3).toInt64, .long (0 : Int64), .long (2000 : Int64)]) X mi_X7_in (c_X7_in (x3).toInt64 (0 : Int64) (2000 : Int64) _) kw3_210 ⟨rfl, rfl⟩ ⟨Nat.le_of_ble_eq_true rfl, Nat.le_of_ble_eq_true rfl⟩ rfl (Nat.le_of_ble_eq_true rfl) dX7_heard_30 rfl h (fun r30 h => ?_)
      refine g_if_ne (pc := 33) (tgt := 39) X (by decide) dX7_heard_33 (fun c_33 => ?_) (fun c_33 => ?_)
      · have h := ite_f c_33 h
        refine g_aload_n (pc := 39) X rfl 0 rfl dX7_heard_39 ?_
        refine fX7_208 (pc := 40) X hK hR k_isMod_0 dX7_heard_40 ?_
        refine g_bipush (pc := 43) X bp_8 dX7_heard_43 ?_
        refine g_icmp_ne (pc := 45) (tgt := 51) X (by decide) dX7_heard_45 (fun c_45 => ?_) (fun c_45 => ?_)
        · have h := ite_f c_45 h
          refine g_aload_n (pc := 51) X rfl 0 rfl dX7_heard_51 ?_
          refine fX7_55 (pc := 52) X hK hR k_isMod_0 dX7_heard_52 ?_
          refine g_iconst (pc := 55) X ic_3 dX7_heard_55 ?_
          refine g_aload_n (pc := 56) X rfl 0 rfl dX7_heard_56 ?_
          refine fX7_208 (pc := 57) X hK hR k_isMod_0 dX7_heard_57 ?_
          refine g_imul (pc := 60) X dX7_heard_60 ?_
          refine g_iload_n (pc := 61) X rfl 1 rfl dX7_heard_61 ?_
          obtain ⟨h_62, h⟩ := h
          refine tX7_sight (pc := 62) X hK k_isMod_0 h_62 dX7_heard_62 (fun τ62 eτ62 => ?_)
          have h := h τ62 eτ62
          refine g_aload_n (pc := 63) X rfl 0 rfl dX7_heard_63 ?_
          refine fX7_55 (pc := 64) X hK hR k_isMod_0 dX7_heard_64 ?_
          refine g_iconst (pc := 67) X ic_3 dX7_heard_67 ?_
          refine g_aload_n (pc := 68) X rfl 0 rfl dX7_heard_68 ?_
          refine fX7_208 (pc := 69) X hK hR k_isMod_0 dX7_heard_69 ?_
          refine g_imul (pc := 72) X dX7_heard_72 ?_
          refine g_iconst (pc := 73) X ic_1 dX7_heard_73 ?_
          refine g_iadd (pc := 74) X dX7_heard_74 ?_
          refine g_iload_n (pc := 75) X rfl 2 rfl dX7_heard_75 ?_
          obtain ⟨h_76, h⟩ := h
          refine tX7_sight (pc := 76) X hK k_isMod_0 h_76 dX7_heard_76 (fun τ76 eτ76 => ?_)
          have h := h τ76 eτ76
          refine g_aload_n (pc := 77) X rfl 0 rfl dX7_heard_77 ?_
          refine fX7_55 (pc := 78) X hK hR k_isMod_0 dX7_heard_78 ?_
          refine g_iconst (pc := 81) X ic_3 dX7_heard_81 ?_
          refine g_aload_n (pc := 82) X rfl 0 rfl dX7_heard_82 ?_
          refine fX7_208 (pc := 83) X hK hR k_isMod_0 dX7_heard_83 ?_
          refine g_imul (pc := 86) X dX7_heard_86 ?_
          refine g_iconst (pc := 87) X ic_2 dX7_heard_87 ?_
          refine g_iadd (pc := 88) X dX7_heard_88 ?_
          refine g_iload_n (pc := 89) X rfl 3 rfl dX7_heard_89 ?_
          obtain ⟨h_90, h⟩ := h
          refine tX7_sight (pc := 90) X hK k_isMod_0 h_90 dX7_heard_90 (fun τ90 eτ90 => ?_)
          have h := h τ90 eτ90
          refine g_aload_n (pc := 91) X rfl 0 rfl dX7_heard_91 ?_
          refine g_dup (pc := 92) X rfl dX7_heard_92 ?_
          refine fX7_208 (pc := 93) X hK hR k_isMod_0 dX7_heard_93 ?_
          refine g_iconst (pc := 96) X ic_1 dX7_heard_96 ?_
          refine g_iadd (pc := 97) X dX7_heard_97 ?_
          refine pX7_208 (pc := 98) X hK k_isMod_0 dX7_heard_98 (fun τ98 eτ98 => ?_)
          have h := h τ98 eτ98
          refine g_aload_n (pc := 101) X rfl 0 rfl dX7_heard_101 ?_
          refine fX7_208 (pc := 102) X hK hR k_isMod_0 dX7_heard_102 ?_
          exact g_retMi (pc := 105) X hK hr hlk dX7_heard_105 h
        · have h := ite_t c_45 h
          refine g_bipush (pc := 48) X bp_m4 dX7_heard_48 ?_
          exact g_retMi (pc := 50) X hK hr hlk dX7_heard_50 h
      · have h := ite_t c_33 h
        refine g_bipush (pc := 36) X bp_m2 dX7_heard_36 ?_
        exact g_retMi (pc := 38) X hK hr hlk dX7_heard_38 h
set_option maxRecDepth 20000 in
theorem c_X7_forget (σ : Sg) (K : Int32 → Sg → Prop) : ∀ sz, Met l yX7_forget (.code yX7_forget cX7_forget 2 (some .int) :: AW) ({ frames := 0, cells := 0, slots := 0, locals := 0 } : Room) (pvM D (tyM cI) SXM (wM cI a σ) sz (w_X7_forget σ K) [.ref (a 0)]) (va_Qi K (atM D (tyM cI) (wM cI a) (va_A (wM cI a σ) sz)) (va_A (wM cI a σ) sz)) 0 0 (va_A (wM cI a σ) sz) := by
  intro sz
  refine met_Mi (own := "TrainNoteModel") (lv := [(0, .ref (a 0))]) (by decide +kernel) rfl (Nat.le_of_ble_eq_true rfl) rfl ?_
  intro p e s m args below meth c A X hK hX hA hr hlk h
  have hR : ∀ σ H locs, hpM D (wM cI a) A s σ H locs → va_P D vwCl ((wM cI a σ)) H := fun _ _ _ h => h.1
  have hok := SXM_ok
  refine g_aload_n (pc := 0) X rfl 0 rfl dX7_forget_0 ?_
  refine fX7_208 (pc := 1) X hK hR k_isMod_0 dX7_forget_1 ?_
  refine g_istore_n (pc := 4) (lv' := [(1, .int (σ 0 18)), (0, .ref (a 0))]) X rfl (by decide) rfl dX7_forget_4 ?_
  refine g_aload_n (pc := 5) X rfl 1 rfl dX7_forget_5 ?_
  refine g_iconst (pc := 6) X ic_0 dX7_forget_6 ?_
  refine pX7_208 (pc := 7) X hK k_isMod_0 dX7_forget_7 (fun τ7 eτ7 => ?_)
  have h := h τ7 eτ7
  refine g_iload_n (pc := 10) X rfl 0 rfl dX7_forget_10 ?_
  exact g_retMi (pc := 11) X hK hr hlk dX7_forget_11 h
set_option maxRecDepth 20000 in
theorem c_X7_read (x1 : Int32) (σ : Sg) (K : Int32 → Sg → Prop) : ∀ sz, Met l yX7_read (.code yX7_read cX7_read 5 (some .int) :: AW) ({ frames := 2, cells := 0, slots := 0, locals := 48 } : Room) (pvM D (tyM cI) SXM (wM cI a σ) sz (w_X7_read x1 σ K) [.ref (a 0), .int x1]) (va_Qi K (atM D (tyM cI) (wM cI a) (va_A (wM cI a σ) sz)) (va_A (wM cI a σ) sz)) 0 0 (va_A (wM cI a σ) sz) := by
  intro sz
  refine met_Mi (own := "TrainNoteModel") (lv := [(0, .ref (a 0)), (1, .int x1)]) (by decide +kernel) rfl (Nat.le_of_ble_eq_true rfl) rfl ?_
  intro p e s m args below meth c A X hK hX hA hr hlk h
  have hR : ∀ σ H locs, hpM D (wM cI a) A s σ H locs → va_P D vwCl ((wM cI a σ)) H := fun _ _ _ h => h.1
  have hok := SXM_ok
  refine g_iload_n (pc := 0) X rfl 1 rfl dX7_read_0 ?_
  refine g_cS0i (pc := 1) (As := [.int x1]) X mi_X7_isSheet (c_X7_isSheet x1 _) kw3_206 ⟨rfl, rfl⟩ ⟨Nat.le_of_ble_eq_true rfl, Nat.le_of_ble_eq_true rfl⟩ rfl (Nat.le_of_ble_eq_true rfl) dX7_read_1 rfl h (fun r1 h => ?_)
  refine g_if_ne (pc := 4) (tgt := 10) X (by decide) dX7_read_4 (fun c_4 => ?_) (fun c_4 => ?_)
  · have h := ite_f c_4 h
    refine g_aload_n (pc := 10) X rfl 0 rfl dX7_read_10 ?_
    refine fX7_7 (pc := 11) X hK hR k_isMod_0 dX7_read_11 ?_
    refine g_iload_n (pc := 14) X rfl 1 rfl dX7_read_14 ?_
    obtain ⟨h_15, h⟩ := h
    refine aX7_forms (pc := 15) X hK hR k_isMod_0 h_15 dX7_read_15 ?_
    refine g_if_ge (pc := 16) (tgt := 25) X (by decide) dX7_read_16 (fun c_16 => ?_) (fun c_16 => ?_)
    · have h := ite_t c_16 h
      refine g_iconst (pc := 25) X ic_0 dX7_read_25 ?_
      refine g_istore_n (pc := 26) (lv' := [(2, .int (0 : Int32)), (0, .ref (a 0)), (1, .int x1)]) X rfl (by decide) rfl dX7_read_26 ?_
      refine g_iconst (pc := 27) X ic_1 dX7_read_27 ?_
      refine g_istore_n (pc := 28) (lv' := [(3, .int (1 : Int32)), (2, .int (0 : Int32)), (0, .ref (a 0)), (1, .int x1)]) X rfl (by decide) rfl dX7_read_28 ?_
      obtain ⟨n29, h⟩ := h
      have X110 : ∀ (u2_110 : Int32) (ρe110 : Sg), E_X7_read_29 K u2_110 ρe110 → GMi p l e ({ frames := 2, cells := 0, slots := 0, locals := 48 } : Room) s m args below meth c K 5 D (tyM cI) (wM cI a) A 110 [(2, .int u2_110)] [] ρe110 := by
        intro u2_110 ρe110 h
        refine g_iload_n (pc := 110) X rfl 0 rfl dX7_read_110 ?_
        exact g_retMi (pc := 111) X hK hr hlk dX7_read_111 h
      have L29 : ∀ (n : Nat) (y2_29 : Int32) (y3_29 : Int32) (ρ29 : Sg), lq3 (F_X7_read_29 x1 (E_X7_read_29 K)) n y2_29 y3_29 ρ29 → GMi p l e ({ frames := 2, cells := 0, slots := 0, locals := 48 } : Room) s m args below meth c K 5 D (tyM cI) (wM cI a) A 29 [(0, .ref (a 0)), (1, .int x1), (2, .int y2_29), (3, .int y3_29)] [] ρ29 := by
        intro n
        induction n with
        | zero =>
          intro y2_29 y3_29 ρ29 h
          exact h.elim
        | succ n ih =>
          intro y2_29 y3_29 ρ29 h
          have h : F_X7_read_29 x1 (E_X7_read_29 K) (lq3 (F_X7_read_29 x1 (E_X7_read_29 K)) n) y2_29 y3_29 ρ29 := h
          generalize lq3 (F_X7_read_29 x1 (E_X7_read_29 K)) n = rec29 at h ih
          refine g_iload_n (pc := 29) X rfl 3 rfl dX7_read_29 ?_
          refine g_if_eq (pc := 30) (tgt := 110) X (by decide) dX7_read_30 (fun c_30 => ?_) (fun c_30 => ?_)
          · have h := ite_t c_30 h
            exact g_lv (X110 y2_29 ρ29 h) [2] rfl
          · have h := ite_f c_30 h
            refine g_iconst (pc := 33) X ic_3 dX7_read_33 ?_
            refine g_iload_n (pc := 34) X rfl 2 rfl dX7_read_34 ?_
            refine g_imul (pc := 35) X dX7_read_35 ?_
            refine g_iconst (pc := 36) X ic_3 dX7_read_36 ?_
            refine g_iadd (pc := 37) X dX7_read_37 ?_
            refine g_aload_n (pc := 38) X rfl 0 rfl dX7_read_38 ?_
            refine fX7_13 (pc := 39) X hK hR k_isMod_0 dX7_read_39 ?_
            refine g_iload_n (pc := 42) X rfl 1 rfl dX7_read_42 ?_
            obtain ⟨h_43, h⟩ := h
            refine aX7_sizes (pc := 43) X hK hR k_isMod_0 h_43 dX7_read_43 ?_
            refine g_icmp_gt (pc := 44) (tgt := 110) X (by decide) dX7_read_44 (fun c_44 => ?_) (fun c_44 => ?_)
            · have h := ite_t c_44 h
              exact g_lv (X110 y2_29 ρ29 h) [2] rfl
            · have h := ite_f c_44 h
              refine g_bipush (pc := 47) X bp_60 dX7_read_47 ?_
              refine g_iload_n (pc := 49) X rfl 1 rfl dX7_read_49 ?_
              refine g_imul (pc := 50) X dX7_read_50 ?_
              refine g_iconst (pc := 51) X ic_3 dX7_read_51 ?_
              refine g_iload_n (pc := 52) X rfl 2 rfl dX7_read_52 ?_
              refine g_imul (pc := 53) X dX7_read_53 ?_
              refine g_iadd (pc := 54) X dX7_read_54 ?_
              refine g_topi (fun x4_55 ex4_55 => ?_)
              have h := h x4_55 ex4_55
              refine g_istore (pc := 55) (lv' := [(4, .int x4_55), (0, .ref (a 0)), (1, .int x1), (2, .int y2_29), (3, .int y3_29)]) X (by decide) rfl dX7_read_55 ?_
              refine g_aload_n (pc := 57) X rfl 1 rfl dX7_read_57 ?_
              refine g_aload_n (pc := 58) X rfl 1 rfl dX7_read_58 ?_
              refine fX7_16 (pc := 59) X hK hR k_isMod_0 dX7_read_59 ?_
              refine g_iload (pc := 62) X 0 rfl dX7_read_62 ?_
              obtain ⟨h_64, h⟩ := h
              refine aX7_items (pc := 64) X hK hR k_isMod_0 h_64 dX7_read_64 ?_
              refine g_aload_n (pc := 65) X rfl 1 rfl dX7_read_65 ?_
              refine fX7_16 (pc := 66) X hK hR k_isMod_0 dX7_read_66 ?_
              refine g_iload (pc := 69) X 0 rfl dX7_read_69 ?_
              refine g_iconst (pc := 71) X ic_1 dX7_read_71 ?_
              refine g_iadd (pc := 72) X dX7_read_72 ?_
              obtain ⟨h_73, h⟩ := h
              refine aX7_items (pc := 73) X hK hR k_isMod_0 h_73 dX7_read_73 ?_
              refine g_aload_n (pc := 74) X rfl 1 rfl dX7_read_74 ?_
              refine fX7_16 (pc := 75) X hK hR k_isMod_0 dX7_read_75 ?_
              refine g_iload (pc := 78) X 0 rfl dX7_read_78 ?_
              refine g_iconst (pc := 80) X ic_2 dX7_read_80 ?_
              refine g_iadd (pc := 81) X dX7_read_81 ?_
              obtain ⟨h_82, h⟩ := h
              refine aX7_items (pc := 82) X hK hR k_isMod_0 h_82 dX7_read_82 ?_
              refine g_cVMi (pc := 83) (As := [.int (ρ29 3 (x4_55).toNatClampNeg), .int (ρ29 3 ((x4_55 + (1 : Int32))).toNatClampNeg), .int (ρ29 3 ((x4_55 + (2 : Int32))).toNatClampNeg)]) X hK hX hok hA mi_X7_heard (c_X7_heard (ρ29 3 (x4_55).toNatClampNeg) (ρ29 3 ((x4_55 + (1 : Int32))).toNatClampNeg) (ρ29 3 ((x4_55 + (2 : Int32))).toNatClampNeg) ρ29 _) (fun _ => ⟨_, wl_ate (oX7 (cI := cI) (a := a) k_isMod_0).1 ((oX7 (cI := cI) (a := a) k_isMod_0).2 _)⟩) rfl rfl kw4_194 ⟨rfl, rfl⟩ ⟨Nat.le_of_ble_eq_true rfl, Nat.le_of_ble_eq_true rfl⟩ rfl (Nat.le_of_ble_eq_true rfl) dX7_read_83 rfl h (fun r83 τ83 h => ?_)
              have J94 : ∀ (v0_94 : Int32), J_X7_read_94 rec29 y2_29 τ83 v0_94 → GMi p l e ({ frames := 2, cells := 0, slots := 0, locals := 48 } : Room) s m args below meth c K 5 D (tyM cI) (wM cI a) A 94 [(0, .ref (a 0)), (1, .int x1), (2, .int y2_29)] [.int v0_94] τ83 := by
                intro v0_94 h
                refine g_istore_n (pc := 94) (lv' := [(3, .int v0_94), (0, .ref (a 0)), (1, .int x1), (2, .int y2_29)]) X rfl (by decide) rfl dX7_read_94 ?_
                refine g_iload_n (pc := 95) X rfl 3 rfl dX7_read_95 ?_
                refine g_iload_n (pc := 96) X rfl 0 rfl dX7_read_96 ?_
                refine g_if_eq (pc := 97) (tgt := 104) X (by decide) dX7_read_97 (fun c_97 => ?_) (fun c_97 => ?_)
                · have h := ite_t c_97 h
                  refine g_iconst (pc := 104) X ic_0 dX7_read_104 ?_
                  refine g_iadd (pc := 105) X dX7_read_105 ?_
                  refine g_istore_n (pc := 106) (lv' := [(2, .int (y2_29 + (0 : Int32))), (3, .int v0_94), (0, .ref (a 0)), (1, .int x1)]) X rfl (by decide) rfl dX7_read_106 ?_
                  refine g_goto (pc := 107) (tgt := 29) X (by decide) dX7_read_107 ?_
                  exact g_lv (ih (y2_29 + (0 : Int32)) v0_94 τ83 h) [2, 3, 0, 1] rfl
                · have h := ite_f c_97 h
                  refine g_iconst (pc := 100) X ic_1 dX7_read_100 ?_
                  refine g_goto (pc := 101) (tgt := 105) X (by decide) dX7_read_101 ?_
                  refine g_iadd (pc := 105) X dX7_read_105 ?_
                  refine g_istore_n (pc := 106) (lv' := [(2, .int (y2_29 + (1 : Int32))), (3, .int v0_94), (0, .ref (a 0)), (1, .int x1)]) X rfl (by decide) rfl dX7_read_106 ?_
                  refine g_goto (pc := 107) (tgt := 29) X (by decide) dX7_read_107 ?_
                  exact g_lv (ih (y2_29 + (1 : Int32)) v0_94 τ83 h) [2, 3, 0, 1] rfl
              refine g_if_lt (pc := 86) (tgt := 93) X (by decide) dX7_read_86 (fun c_86 => ?_) (fun c_86 => ?_)
              · have h := ite_t c_86 h
                refine g_iconst (pc := 93) X ic_0 dX7_read_93 ?_
                exact g_lv (J94 (0 : Int32) h) [1, 2, 3] rfl
              · have h := ite_f c_86 h
                refine g_iconst (pc := 89) X ic_1 dX7_read_89 ?_
                refine g_goto (pc := 90) (tgt := 94) X (by decide) dX7_read_90 ?_
                exact g_lv (J94 (1 : Int32) h) [1, 2, 3] rfl
      exact g_lv (L29 n29 (0 : Int32) (1 : Int32) σ h) [2, 3, 1, 0] rfl
    · have h := ite_f c_16 h
      refine g_aload_n (pc := 19) X rfl 0 rfl dX7_read_19 ?_
      refine g_iconst (pc := 20) X ic_1 dX7_read_20 ?_
      refine g_cVMi (pc := 21) (As := [.int (1 : Int32)]) X hK hX hok hA mi_X7_finds (c_X7_finds (1 : Int32) σ _) (fun _ => ⟨_, wl_ate (oX7 (cI := cI) (a := a) k_isMod_0).1 ((oX7 (cI := cI) (a := a) k_isMod_0).2 _)⟩) rfl rfl kw3_214 ⟨rfl, rfl⟩ ⟨Nat.le_of_ble_eq_true rfl, Nat.le_of_ble_eq_true rfl⟩ rfl (Nat.le_of_ble_eq_true rfl) dX7_read_21 rfl h (fun r21 τ21 h => ?_)
      exact g_retMi (pc := 24) X hK hr hlk dX7_read_24 h
  · have h := ite_t c_4 h
    refine g_bipush (pc := 7) X bp_m2 dX7_read_7 ?_
    exact g_retMi (pc := 9) X hK hr hlk dX7_read_9 h
set_option maxRecDepth 20000 in
theorem c_X7_isHeard (σ : Sg) (K : Int32 → Sg → Prop) : ∀ sz, Met l yX7_isHeard (.code yX7_isHeard cX7_isHeard 5 (some .boolean) :: AW) ({ frames := 3, cells := 0, slots := 0, locals := 67 } : Room) (pvM D (tyM cI) SXM (wM cI a σ) sz (w_X7_isHeard σ K) [.ref (a 0)]) (va_Qi K (atM D (tyM cI) (wM cI a) (va_A (wM cI a σ) sz)) (va_A (wM cI a σ) sz)) 0 0 (va_A (wM cI a σ) sz) := by
  intro sz
  refine met_Mi (own := "TrainNoteModel") (lv := [(0, .ref (a 0))]) (by decide +kernel) rfl (Nat.le_of_ble_eq_true rfl) rfl ?_
  intro p e s m args below meth c A X hK hX hA hr hlk h
  have hR : ∀ σ H locs, hpM D (wM cI a) A s σ H locs → va_P D vwCl ((wM cI a σ)) H := fun _ _ _ h => h.1
  have hok := SXM_ok
  refine g_aload_n (pc := 0) X rfl 0 rfl dX7_isHeard_0 ?_
  refine g_cVMv (pc := 1) (As := []) X hK hX hok hA mi_X7_findNotes (c_X7_findNotes  σ _) (fun _ => ⟨_, wl_ate (oX7 (cI := cI) (a := a) k_isMod_0).1 ((oX7 (cI := cI) (a := a) k_isMod_0).2 _)⟩) rfl rfl kw4_71 ⟨rfl, rfl⟩ ⟨Nat.le_of_ble_eq_true rfl, Nat.le_of_ble_eq_true rfl⟩ rfl (Nat.le_of_ble_eq_true rfl) dX7_isHeard_1 rfl h (fun τ1 h => ?_)
  refine g_iconst (pc := 4) X ic_1 dX7_isHeard_4 ?_
  refine g_istore_n (pc := 5) (lv' := [(1, .int (1 : Int32)), (0, .ref (a 0))]) X rfl (by decide) rfl dX7_isHeard_5 ?_
  refine g_iconst (pc := 6) X ic_0 dX7_isHeard_6 ?_
  refine g_istore_n (pc := 7) (lv' := [(2, .int (0 : Int32)), (1, .int (1 : Int32)), (0, .ref (a 0))]) X rfl (by decide) rfl dX7_isHeard_7 ?_
  obtain ⟨n8, h⟩ := h
  have X101 : ∀ (u1_101 : Int32), E_X7_isHeard_8 K τ1 u1_101 → GMi p l e ({ frames := 3, cells := 0, slots := 0, locals := 67 } : Room) s m args below meth c K 5 D (tyM cI) (wM cI a) A 101 [(1, .int u1_101)] [] τ1 := by
    intro u1_101 h
    refine g_iload_n (pc := 101) X rfl 0 rfl dX7_isHeard_101 ?_
    exact g_retMz (pc := 102) X hK hr hlk dX7_isHeard_102 h.1 h.2
  have L8 : ∀ (n : Nat) (y1_8 : Int32) (y2_8 : Int32), lq2 (F_X7_isHeard_8 τ1 (E_X7_isHeard_8 K τ1)) n y1_8 y2_8 → GMi p l e ({ frames := 3, cells := 0, slots := 0, locals := 67 } : Room) s m args below meth c K 5 D (tyM cI) (wM cI a) A 8 [(0, .ref (a 0)), (1, .int y1_8), (2, .int y2_8)] [] τ1 := by
    intro n
    induction n with
    | zero =>
      intro y1_8 y2_8 h
      exact h.elim
    | succ n ih =>
      intro y1_8 y2_8 h
      have h : F_X7_isHeard_8 τ1 (E_X7_isHeard_8 K τ1) (lq2 (F_X7_isHeard_8 τ1 (E_X7_isHeard_8 K τ1)) n) y1_8 y2_8 := h
      refine g_iload_n (pc := 8) X rfl 2 rfl dX7_isHeard_8 ?_
      refine g_aload_n (pc := 9) X rfl 0 rfl dX7_isHeard_9 ?_
      refine fX7_208 (pc := 10) X hK hR k_isMod_0 dX7_isHeard_10 ?_
      refine g_icmp_ge (pc := 13) (tgt := 101) X (by decide) dX7_isHeard_13 (fun c_13 => ?_) (fun c_13 => ?_)
      · have h := ite_t c_13 h
        exact g_lv (X101 y1_8 h) [1] rfl
      · have h := ite_f c_13 h
        refine g_iload_n (pc := 16) X rfl 1 rfl dX7_isHeard_16 ?_
        refine g_if_eq (pc := 17) (tgt := 101) X (by decide) dX7_isHeard_17 (fun c_17 => ?_) (fun c_17 => ?_)
        · have h := ite_t c_17 h
          exact g_lv (X101 y1_8 h) [1] rfl
        · have h := ite_f c_17 h
          refine g_aload_n (pc := 20) X rfl 0 rfl dX7_isHeard_20 ?_
          refine fX7_55 (pc := 21) X hK hR k_isMod_0 dX7_isHeard_21 ?_
          refine g_iconst (pc := 24) X ic_3 dX7_isHeard_24 ?_
          refine g_iload_n (pc := 25) X rfl 2 rfl dX7_isHeard_25 ?_
          refine g_imul (pc := 26) X dX7_isHeard_26 ?_
          obtain ⟨h_27, h⟩ := h
          refine aX7_sight (pc := 27) X hK hR k_isMod_0 h_27 dX7_isHeard_27 ?_
          refine g_topi (fun x3_28 ex3_28 => ?_)
          have h := h x3_28 ex3_28
          refine g_istore_n (pc := 28) (lv' := [(3, .int x3_28), (0, .ref (a 0)), (1, .int y1_8), (2, .int y2_8)]) X rfl (by decide) rfl dX7_isHeard_28 ?_
          refine g_aload_n (pc := 29) X rfl 1 rfl dX7_isHeard_29 ?_
          refine fX7_55 (pc := 30) X hK hR k_isMod_0 dX7_isHeard_30 ?_
          refine g_iconst (pc := 33) X ic_3 dX7_isHeard_33 ?_
          refine g_iload_n (pc := 34) X rfl 3 rfl dX7_isHeard_34 ?_
          refine g_imul (pc := 35) X dX7_isHeard_35 ?_
          refine g_iconst (pc := 36) X ic_1 dX7_isHeard_36 ?_
          refine g_iadd (pc := 37) X dX7_isHeard_37 ?_
          obtain ⟨h_38, h⟩ := h
          refine aX7_sight (pc := 38) X hK hR k_isMod_0 h_38 dX7_isHeard_38 ?_
          refine g_topi (fun x4_39 ex4_39 => ?_)
          have h := h x4_39 ex4_39
          refine g_istore (pc := 39) (lv' := [(4, .int x4_39), (3, .int x3_28), (0, .ref (a 0)), (1, .int y1_8), (2, .int y2_8)]) X (by decide) rfl dX7_isHeard_39 ?_
          refine g_aload_n (pc := 41) X rfl 2 rfl dX7_isHeard_41 ?_
          refine g_iload_n (pc := 42) X rfl 1 rfl dX7_isHeard_42 ?_
          refine g_cVPi (pc := 43) (As := [.int x3_28]) X hK hR mi_X7_isBar (c_X7_isBar x3_28 τ1 _) (wl_ate (oX7 (cI := cI) (a := a) k_isMod_0).1 ((oX7 (cI := cI) (a := a) k_isMod_0).2 _)) rfl rfl kw4_94 ⟨rfl, rfl⟩ ⟨Nat.le_of_ble_eq_true rfl, Nat.le_of_ble_eq_true rfl⟩ rfl (Nat.le_of_ble_eq_true rfl) dX7_isHeard_43 rfl h (fun r43 h => ?_)
          refine g_if_eq (pc := 46) (tgt := 93) X (by decide) dX7_isHeard_46 (fun c_46 => ?_) (fun c_46 => ?_)
          · have h := ite_t c_46 h
            refine g_iconst (pc := 93) X ic_0 dX7_isHeard_93 ?_
            refine g_istore_n (pc := 94) (lv' := [(1, .int (0 : Int32)), (4, .int x4_39), (3, .int x3_28), (0, .ref (a 0)), (2, .int y2_8)]) X rfl (by decide) rfl dX7_isHeard_94 ?_
            refine g_iinc (pc := 95) (lv' := [(2, .int (y2_8 + (1 : Int32))), (1, .int (0 : Int32)), (4, .int x4_39), (3, .int x3_28), (0, .ref (a 0))]) X 4 rfl rfl (by decide) rfl dX7_isHeard_95 ?_
            refine g_goto (pc := 98) (tgt := 8) X (by decide) dX7_isHeard_98 ?_
            exact g_lv (ih (0 : Int32) (y2_8 + (1 : Int32)) h) [4, 1, 0] rfl
          · have h := ite_f c_46 h
            refine g_aload_n (pc := 49) X rfl 2 rfl dX7_isHeard_49 ?_
            refine g_iload (pc := 50) X 0 rfl dX7_isHeard_50 ?_
            refine g_cVPi (pc := 52) (As := [.int x4_39]) X hK hR mi_X7_isSinger (c_X7_isSinger x4_39 τ1 _) (wl_ate (oX7 (cI := cI) (a := a) k_isMod_0).1 ((oX7 (cI := cI) (a := a) k_isMod_0).2 _)) rfl rfl kw4_39 ⟨rfl, rfl⟩ ⟨Nat.le_of_ble_eq_true rfl, Nat.le_of_ble_eq_true rfl⟩ rfl (Nat.le_of_ble_eq_true rfl) dX7_isHeard_52 rfl h (fun r52 h => ?_)
            refine g_if_eq (pc := 55) (tgt := 93) X (by decide) dX7_isHeard_55 (fun c_55 => ?_) (fun c_55 => ?_)
            · have h := ite_t c_55 h
              refine g_iconst (pc := 93) X ic_0 dX7_isHeard_93 ?_
              refine g_istore_n (pc := 94) (lv' := [(1, .int (0 : Int32)), (4, .int x4_39), (3, .int x3_28), (0, .ref (a 0)), (2, .int y2_8)]) X rfl (by decide) rfl dX7_isHeard_94 ?_
              refine g_iinc (pc := 95) (lv' := [(2, .int (y2_8 + (1 : Int32))), (1, .int (0 : Int32)), (4, .int x4_39), (3, .int x3_28), (0, .ref (a 0))]) X 4 rfl rfl (by decide) rfl dX7_isHeard_95 ?_
              refine g_goto (pc := 98) (tgt := 8) X (by decide) dX7_isHeard_98 ?_
              exact g_lv (ih (0 : Int32) (y2_8 + (1 : Int32)) h) [4, 1, 0] rfl
            · have h := ite_f c_55 h
              refine g_aload_n (pc := 58) X rfl 2 rfl dX7_isHeard_58 ?_
              refine fX7_43 (pc := 59) X hK hR k_isMod_0 dX7_isHeard_59 ?_
              refine g_iload (pc := 62) X 0 rfl dX7_isHeard_62 ?_
              obtain ⟨h_64, h⟩ := h
              refine aX7_by (pc := 64) X hK hR k_isMod_0 h_64 dX7_isHeard_64 ?_
              refine g_iconst (pc := 65) X ic_m1 dX7_isHeard_65 ?_
              refine g_icmp_eq (pc := 66) (tgt := 93) X (by decide) dX7_isHeard_66 (fun c_66 => ?_) (fun c_66 => ?_)
              · have h := ite_t c_66 h
                refine g_iconst (pc := 93) X ic_0 dX7_isHeard_93 ?_
                refine g_istore_n (pc := 94) (lv' := [(1, .int (0 : Int32)), (4, .int x4_39), (3, .int x3_28), (0, .ref (a 0)), (2, .int y2_8)]) X rfl (by decide) rfl dX7_isHeard_94 ?_
                refine g_iinc (pc := 95) (lv' := [(2, .int (y2_8 + (1 : Int32))), (1, .int (0 : Int32)), (4, .int x4_39), (3, .int x3_28), (0, .ref (a 0))]) X 4 rfl rfl (by decide) rfl dX7_isHeard_95 ?_
                refine g_goto (pc := 98) (tgt := 8) X (by decide) dX7_isHeard_98 ?_
                exact g_lv (ih (0 : Int32) (y2_8 + (1 : Int32)) h) [4, 1, 0] rfl
              · have h := ite_f c_66 h
                refine g_aload_n (pc := 69) X rfl 2 rfl dX7_isHeard_69 ?_
                refine g_iload (pc := 70) X 0 rfl dX7_isHeard_70 ?_
                refine g_iload_n (pc := 72) X rfl 1 rfl dX7_isHeard_72 ?_
                refine g_cVPi (pc := 73) (As := [.int x4_39, .int x3_28]) X hK hR mi_X7_noteIn (c_X7_noteIn x4_39 x3_28 τ1 _) (wl_ate (oX7 (cI := cI) (a := a) k_isMod_0).1 ((oX7 (cI := cI) (a := a) k_isMod_0).2 _)) rfl rfl kw4_102 ⟨rfl, rfl⟩ ⟨Nat.le_of_ble_eq_true rfl, Nat.le_of_ble_eq_true rfl⟩ rfl (Nat.le_of_ble_eq_true rfl) dX7_isHeard_73 rfl h (fun r73 h => ?_)
                refine g_aload_n (pc := 76) X rfl 2 rfl dX7_isHeard_76 ?_
                refine fX7_55 (pc := 77) X hK hR k_isMod_0 dX7_isHeard_77 ?_
                refine g_iconst (pc := 80) X ic_3 dX7_isHeard_80 ?_
                refine g_iload_n (pc := 81) X rfl 4 rfl dX7_isHeard_81 ?_
                refine g_imul (pc := 82) X dX7_isHeard_82 ?_
                refine g_iconst (pc := 83) X ic_2 dX7_isHeard_83 ?_
                refine g_iadd (pc := 84) X dX7_isHeard_84 ?_
                obtain ⟨h_85, h⟩ := h
                refine aX7_sight (pc := 85) X hK hR k_isMod_0 h_85 dX7_isHeard_85 ?_
                refine g_icmp_ne (pc := 86) (tgt := 93) X (by decide) dX7_isHeard_86 (fun c_86 => ?_) (fun c_86 => ?_)
                · have h := ite_f c_86 h
                  refine g_iconst (pc := 93) X ic_0 dX7_isHeard_93 ?_
                  refine g_istore_n (pc := 94) (lv' := [(1, .int (0 : Int32)), (4, .int x4_39), (3, .int x3_28), (0, .ref (a 0)), (2, .int y2_8)]) X rfl (by decide) rfl dX7_isHeard_94 ?_
                  refine g_iinc (pc := 95) (lv' := [(2, .int (y2_8 + (1 : Int32))), (1, .int (0 : Int32)), (4, .int x4_39), (3, .int x3_28), (0, .ref (a 0))]) X 4 rfl rfl (by decide) rfl dX7_isHeard_95 ?_
                  refine g_goto (pc := 98) (tgt := 8) X (by decide) dX7_isHeard_98 ?_
                  exact g_lv (ih (0 : Int32) (y2_8 + (1 : Int32)) h) [4, 1, 0] rfl
                · have h := ite_t c_86 h
                  refine g_iconst (pc := 89) X ic_1 dX7_isHeard_89 ?_
                  refine g_goto (pc := 90) (tgt := 94) X (by decide) dX7_isHeard_90 ?_
                  refine g_istore_n (pc := 94) (lv' := [(1, .int (1 : Int32)), (4, .int x4_39), (3, .int x3_28), (0, .ref (a 0)), (2, .int y2_8)]) X rfl (by decide) rfl dX7_isHeard_94 ?_
                  refine g_iinc (pc := 95) (lv' := [(2, .int (y2_8 + (1 : Int32))), (1, .int (1 : Int32)), (4, .int x4_39), (3, .int x3_28), (0, .ref (a 0))]) X 4 rfl rfl (by decide) rfl dX7_isHeard_95 ?_
                  refine g_goto (pc := 98) (tgt := 8) X (by decide) dX7_isHeard_98 ?_
                  exact g_lv (ih (1 : Int32) (y2_8 + (1 : Int32)) h) [4, 1, 0] rfl
  exact g_lv (L8 n8 (1 : Int32) (0 : Int32) h) [2, 1, 0] rfl
set_option maxRecDepth 20000 in
theorem c_X7_speedsOf (x1 : Int32) (σ : Sg) (K : Int32 → Sg → Prop) : ∀ sz, Met l yX7_speedsOf (.code yX7_speedsOf cX7_speedsOf 7 (some .int) :: AW) ({ frames := 4, cells := 0, slots := 0, locals := 91 } : Room) (pvM D (tyM cI) SXM (wM cI a σ) sz (w_X7_speedsOf x1 σ K) [.ref (a 0), .int x1]) (va_Qi K (atM D (tyM cI) (wM cI a) (va_A (wM cI a σ) sz)) (va_A (wM cI a σ) sz)) 0 0 (va_A (wM cI a σ) sz) := by
  intro sz
  refine met_Mi (own := "TrainNoteModel") (lv := [(0, .ref (a 0)), (1, .int x1)]) (by decide +kernel) rfl (Nat.le_of_ble_eq_true rfl) rfl ?_
  intro p e s m args below meth c A X hK hX hA hr hlk h
  have hR : ∀ σ H locs, hpM D (wM cI a) A s σ H locs → va_P D vwCl ((wM cI a σ)) H := fun _ _ _ h => h.1
  have hok := SXM_ok
  refine g_aload_n (pc := 0) X rfl 0 rfl dX7_speedsOf_0 ?_
  refine fX7_34 (pc := 1) X hK hR k_isMod_0 dX7_speedsOf_1 ?_
  refine g_iconst (pc := 4) X ic_0 dX7_speedsOf_4 ?_
  obtain ⟨h_5, h⟩ := h
  refine aX7_train (pc := 5) X hK hR k_isMod_0 h_5 dX7_speedsOf_5 ?_
  refine g_topi (fun x2_6 ex2_6 => ?_)
  have h := h x2_6 ex2_6
  refine g_istore_n (pc := 6) (lv' := [(2, .int x2_6), (0, .ref (a 0)), (1, .int x1)]) X rfl (by decide) rfl dX7_speedsOf_6 ?_
  refine g_iconst (pc := 7) X ic_0 dX7_speedsOf_7 ?_
  refine g_istore_n (pc := 8) (lv' := [(3, .int (0 : Int32)), (2, .int x2_6), (0, .ref (a 0)), (1, .int x1)]) X rfl (by decide) rfl dX7_speedsOf_8 ?_
  refine g_iconst (pc := 9) X ic_m1 dX7_speedsOf_9 ?_
  refine g_istore (pc := 10) (lv' := [(4, .int (-1 : Int32)), (3, .int (0 : Int32)), (2, .int x2_6), (0, .ref (a 0)), (1, .int x1)]) X (by decide) rfl dX7_speedsOf_10 ?_
  refine g_iconst (pc := 12) X ic_0 dX7_speedsOf_12 ?_
  refine g_istore (pc := 13) (lv' := [(5, .int (0 : Int32)), (4, .int (-1 : Int32)), (3, .int (0 : Int32)), (2, .int x2_6), (0, .ref (a 0)), (1, .int x1)]) X (by decide) rfl dX7_speedsOf_13 ?_
  obtain ⟨n15, h⟩ := h
  have X74 : ∀ (u3_74 : Int32) (u4_74 : Int32) (ρe74 : Sg), E_X7_speedsOf_15 x2_6 x1 K u3_74 u4_74 ρe74 → GMi p l e ({ frames := 4, cells := 0, slots := 0, locals := 91 } : Room) s m args below meth c K 7 D (tyM cI) (wM cI a) A 74 [(0, .ref (a 0)), (1, .int x1), (2, .int x2_6), (3, .int u3_74), (4, .int u4_74)] [] ρe74 := by
    intro u3_74 u4_74 ρe74 h
    refine g_aload_n (pc := 74) X rfl 0 rfl dX7_speedsOf_74 ?_
    refine fX7_34 (pc := 75) X hK hR k_isMod_0 dX7_speedsOf_75 ?_
    refine g_iconst (pc := 78) X ic_0 dX7_speedsOf_78 ?_
    refine g_iload_n (pc := 79) X rfl 2 rfl dX7_speedsOf_79 ?_
    obtain ⟨h_80, h⟩ := h
    refine tX7_train (pc := 80) X hK k_isMod_0 h_80 dX7_speedsOf_80 (fun τ80 eτ80 => ?_)
    have h := h τ80 eτ80
    refine g_aload_n (pc := 81) X rfl 0 rfl dX7_speedsOf_81 ?_
    refine g_cVMv (pc := 82) (As := []) X hK hX hok hA mi_X7_findNotes (c_X7_findNotes  τ80 _) (fun _ => ⟨_, wl_ate (oX7 (cI := cI) (a := a) k_isMod_0).1 ((oX7 (cI := cI) (a := a) k_isMod_0).2 _)⟩) rfl rfl kw4_71 ⟨rfl, rfl⟩ ⟨Nat.le_of_ble_eq_true rfl, Nat.le_of_ble_eq_true rfl⟩ rfl (Nat.le_of_ble_eq_true rfl) dX7_speedsOf_82 rfl h (fun τ82 h => ?_)
    refine g_iload_n (pc := 85) X rfl 1 rfl dX7_speedsOf_85 ?_
    refine g_iconst (pc := 86) X ic_m1 dX7_speedsOf_86 ?_
    refine g_icmp_ne (pc := 87) (tgt := 94) X (by decide) dX7_speedsOf_87 (fun c_87 => ?_) (fun c_87 => ?_)
    · have h := ite_f c_87 h
      refine g_iload (pc := 94) X 4 rfl dX7_speedsOf_94 ?_
      exact g_retMi (pc := 96) X hK hr hlk dX7_speedsOf_96 h
    · have h := ite_t c_87 h
      refine g_iload_n (pc := 90) X rfl 3 rfl dX7_speedsOf_90 ?_
      refine g_goto (pc := 91) (tgt := 96) X (by decide) dX7_speedsOf_91 ?_
      exact g_retMi (pc := 96) X hK hr hlk dX7_speedsOf_96 h
  have L15 : ∀ (n : Nat) (y3_15 : Int32) (y4_15 : Int32) (y5_15 : Int32) (ρ15 : Sg), lq4 (F_X7_speedsOf_15 x1 (E_X7_speedsOf_15 x2_6 x1 K)) n y3_15 y4_15 y5_15 ρ15 → GMi p l e ({ frames := 4, cells := 0, slots := 0, locals := 91 } : Room) s m args below meth c K 7 D (tyM cI) (wM cI a) A 15 [(0, .ref (a 0)), (1, .int x1), (2, .int x2_6), (3, .int y3_15), (4, .int y4_15), (5, .int y5_15)] [] ρ15 := by
    intro n
    induction n with
    | zero =>
      intro y3_15 y4_15 y5_15 ρ15 h
      exact h.elim
    | succ n ih =>
      intro y3_15 y4_15 y5_15 ρ15 h
      have h : F_X7_speedsOf_15 x1 (E_X7_speedsOf_15 x2_6 x1 K) (lq4 (F_X7_speedsOf_15 x1 (E_X7_speedsOf_15 x2_6 x1 K)) n) y3_15 y4_15 y5_15 ρ15 := h
      generalize lq4 (F_X7_speedsOf_15 x1 (E_X7_speedsOf_15 x2_6 x1 K)) n = rec15 at h ih
      refine g_iload (pc := 15) X 5 rfl dX7_speedsOf_15 ?_
      refine g_bipush (pc := 17) X bp_100 dX7_speedsOf_17 ?_
      refine g_icmp_ge (pc := 19) (tgt := 74) X (by decide) dX7_speedsOf_19 (fun c_19 => ?_) (fun c_19 => ?_)
      · have h := ite_t c_19 h
        exact g_lv (X74 y3_15 y4_15 ρ15 h) [0, 1, 2, 3, 4] rfl
      · have h := ite_f c_19 h
        refine g_aload_n (pc := 22) X rfl 0 rfl dX7_speedsOf_22 ?_
        refine fX7_34 (pc := 23) X hK hR k_isMod_0 dX7_speedsOf_23 ?_
        refine g_iconst (pc := 26) X ic_0 dX7_speedsOf_26 ?_
        refine g_iload (pc := 27) X 5 rfl dX7_speedsOf_27 ?_
        obtain ⟨h_29, h⟩ := h
        refine tX7_train (pc := 29) X hK k_isMod_0 h_29 dX7_speedsOf_29 (fun τ29 eτ29 => ?_)
        have h := h τ29 eτ29
        refine g_aload_n (pc := 30) X rfl 0 rfl dX7_speedsOf_30 ?_
        refine g_cVMi (pc := 31) (As := []) X hK hX hok hA mi_X7_isHeard (c_X7_isHeard  τ29 _) (fun _ => ⟨_, wl_ate (oX7 (cI := cI) (a := a) k_isMod_0).1 ((oX7 (cI := cI) (a := a) k_isMod_0).2 _)⟩) rfl rfl kw4_203 ⟨rfl, rfl⟩ ⟨Nat.le_of_ble_eq_true rfl, Nat.le_of_ble_eq_true rfl⟩ rfl (Nat.le_of_ble_eq_true rfl) dX7_speedsOf_31 rfl h (fun r31 τ31 h => ?_)
        refine g_istore (pc := 34) (lv' := [(6, .int r31), (0, .ref (a 0)), (1, .int x1), (2, .int x2_6), (3, .int y3_15), (4, .int y4_15), (5, .int y5_15)]) X (by decide) rfl dX7_speedsOf_34 ?_
        refine g_iload (pc := 36) X 0 rfl dX7_speedsOf_36 ?_
        have J53 : ∀ (v0_53 : Int32), J_X7_speedsOf_53 r31 rec15 y3_15 y5_15 τ31 v0_53 → GMi p l e ({ frames := 4, cells := 0, slots := 0, locals := 91 } : Room) s m args below meth c K 7 D (tyM cI) (wM cI a) A 53 [(0, .ref (a 0)), (1, .int x1), (2, .int x2_6), (3, .int y3_15), (5, .int y5_15), (6, .int r31)] [.int v0_53] τ31 := by
          intro v0_53 h
          refine g_istore (pc := 53) (lv' := [(4, .int v0_53), (0, .ref (a 0)), (1, .int x1), (2, .int x2_6), (3, .int y3_15), (5, .int y5_15), (6, .int r31)]) X (by decide) rfl dX7_speedsOf_53 ?_
          refine g_iload_n (pc := 55) X rfl 4 rfl dX7_speedsOf_55 ?_
          refine g_iload (pc := 56) X 6 rfl dX7_speedsOf_56 ?_
          refine g_if_eq (pc := 58) (tgt := 65) X (by decide) dX7_speedsOf_58 (fun c_58 => ?_) (fun c_58 => ?_)
          · have h := ite_t c_58 h
            refine g_iconst (pc := 65) X ic_0 dX7_speedsOf_65 ?_
            refine g_iadd (pc := 66) X dX7_speedsOf_66 ?_
            refine g_istore_n (pc := 67) (lv' := [(3, .int (y3_15 + (0 : Int32))), (4, .int v0_53), (0, .ref (a 0)), (1, .int x1), (2, .int x2_6), (5, .int y5_15), (6, .int r31)]) X rfl (by decide) rfl dX7_speedsOf_67 ?_
            refine g_iinc (pc := 68) (lv' := [(5, .int (y5_15 + (1 : Int32))), (3, .int (y3_15 + (0 : Int32))), (4, .int v0_53), (0, .ref (a 0)), (1, .int x1), (2, .int x2_6), (6, .int r31)]) X 5 rfl rfl (by decide) rfl dX7_speedsOf_68 ?_
            refine g_goto (pc := 71) (tgt := 15) X (by decide) dX7_speedsOf_71 ?_
            exact g_lv (ih (y3_15 + (0 : Int32)) v0_53 (y5_15 + (1 : Int32)) τ31 h) [3, 4, 5, 1, 2, 0] rfl
          · have h := ite_f c_58 h
            refine g_iconst (pc := 61) X ic_1 dX7_speedsOf_61 ?_
            refine g_goto (pc := 62) (tgt := 66) X (by decide) dX7_speedsOf_62 ?_
            refine g_iadd (pc := 66) X dX7_speedsOf_66 ?_
            refine g_istore_n (pc := 67) (lv' := [(3, .int (y3_15 + (1 : Int32))), (4, .int v0_53), (0, .ref (a 0)), (1, .int x1), (2, .int x2_6), (5, .int y5_15), (6, .int r31)]) X rfl (by decide) rfl dX7_speedsOf_67 ?_
            refine g_iinc (pc := 68) (lv' := [(5, .int (y5_15 + (1 : Int32))), (3, .int (y3_15 + (1 : Int32))), (4, .int v0_53), (0, .ref (a 0)), (1, .int x1), (2, .int x2_6), (6, .int r31)]) X 5 rfl rfl (by decide) rfl dX7_speedsOf_68 ?_
            refine g_goto (pc := 71) (tgt := 15) X (by decide) dX7_speedsOf_71 ?_
            exact g_lv (ih (y3_15 + (1 : Int32)) v0_53 (y5_15 + (1 : Int32)) τ31 h) [3, 4, 5, 1, 2, 0] rfl
        have J51 : ∀ (_ : Unit), J_X7_speedsOf_51 r31 rec15 y3_15 y5_15 τ31 y4_15 → GMi p l e ({ frames := 4, cells := 0, slots := 0, locals := 91 } : Room) s m args below meth c K 7 D (tyM cI) (wM cI a) A 51 [(0, .ref (a 0)), (1, .int x1), (2, .int x2_6), (3, .int y3_15), (4, .int y4_15), (5, .int y5_15), (6, .int r31)] [] τ31 := by
          intro _ h
          refine g_iload (pc := 51) X 4 rfl dX7_speedsOf_51 ?_
          exact g_lv (J53 y4_15 h) [0, 1, 2, 3, 5, 6] rfl
        refine g_if_eq (pc := 38) (tgt := 51) X (by decide) dX7_speedsOf_38 (fun c_38 => ?_) (fun c_38 => ?_)
        · have h := ite_t c_38 h
          exact g_lv (J51 () h) [1, 2, 3, 4, 5, 6, 0] rfl
        · have h := ite_f c_38 h
          refine g_iload_n (pc := 41) X rfl 4 rfl dX7_speedsOf_41 ?_
          refine g_iload_n (pc := 42) X rfl 2 rfl dX7_speedsOf_42 ?_
          refine g_icmp_ne (pc := 43) (tgt := 51) X (by decide) dX7_speedsOf_43 (fun c_43 => ?_) (fun c_43 => ?_)
          · have h := ite_f c_43 h
            exact g_lv (J51 () h) [1, 2, 3, 4, 5, 6, 0] rfl
          · have h := ite_t c_43 h
            refine g_iload (pc := 46) X 6 rfl dX7_speedsOf_46 ?_
            refine g_goto (pc := 48) (tgt := 53) X (by decide) dX7_speedsOf_48 ?_
            exact g_lv (J53 y5_15 h) [1, 2, 3, 4, 6, 0] rfl
  exact g_lv (L15 n15 (0 : Int32) (-1 : Int32) (0 : Int32) σ h) [4, 5, 3, 2, 1, 0] rfl
set_option maxRecDepth 20000 in
theorem c_X7_speeds (x1 : Int32) (σ : Sg) (K : Int32 → Sg → Prop) : ∀ sz, Met l yX7_speeds (.code yX7_speeds cX7_speeds 2 (some .int) :: AW) ({ frames := 5, cells := 0, slots := 0, locals := 117 } : Room) (pvM D (tyM cI) SXM (wM cI a σ) sz (w_X7_speeds x1 σ K) [.ref (a 0), .int x1]) (va_Qi K (atM D (tyM cI) (wM cI a) (va_A (wM cI a σ) sz)) (va_A (wM cI a σ) sz)) 0 0 (va_A (wM cI a σ) sz) := by
  intro sz
  refine met_Mi (own := "TrainNoteModel") (lv := [(0, .ref (a 0)), (1, .int x1)]) (by decide +kernel) rfl (Nat.le_of_ble_eq_true rfl) rfl ?_
  intro p e s m args below meth c A X hK hX hA hr hlk h
  have hR : ∀ σ H locs, hpM D (wM cI a) A s σ H locs → va_P D vwCl ((wM cI a σ)) H := fun _ _ _ h => h.1
  have hok := SXM_ok
  refine g_aload_n (pc := 0) X rfl 0 rfl dX7_speeds_0 ?_
  refine g_cVMv (pc := 1) (As := []) X hK hX hok hA mi_X7_find (c_X7_find  σ _) (fun _ => ⟨_, wl_ate (oX7 (cI := cI) (a := a) k_isMod_0).1 ((oX7 (cI := cI) (a := a) k_isMod_0).2 _)⟩) rfl rfl kw4_67 ⟨rfl, rfl⟩ ⟨Nat.le_of_ble_eq_true rfl, Nat.le_of_ble_eq_true rfl⟩ rfl (Nat.le_of_ble_eq_true rfl) dX7_speeds_1 rfl h (fun τ1 h => ?_)
  refine g_iload_n (pc := 4) X rfl 1 rfl dX7_speeds_4 ?_
  refine g_i2l (pc := 5) X dX7_speeds_5 ?_
  refine g_ldc2 (pc := 6) X kw4_151 dX7_speeds_6 ?_
  refine g_ldc2 (pc := 9) X kw4_54 dX7_speeds_9 ?_
  refine g_cS0i (pc := 12) (As := [.long (x1).toInt64, .long (-1 : Int64), .long (99 : Int64)]) X mi_X7_in (c_X7_in (x1).toInt64 (-1 : Int64) (99 : Int64) _) kw3_210 ⟨rfl, rfl⟩ ⟨Nat.le_of_ble_eq_true rfl, Nat.le_of_ble_eq_true rfl⟩ rfl (Nat.le_of_ble_eq_true rfl) dX7_speeds_12 rfl h (fun r12 h => ?_)
  refine g_if_eq (pc := 15) (tgt := 26) X (by decide) dX7_speeds_15 (fun c_15 => ?_) (fun c_15 => ?_)
  · have h := ite_t c_15 h
    refine g_bipush (pc := 26) X bp_m2 dX7_speeds_26 ?_
    exact g_retMi (pc := 28) X hK hr hlk dX7_speeds_28 h
  · have h := ite_f c_15 h
    refine g_aload_n (pc := 18) X rfl 0 rfl dX7_speeds_18 ?_
    refine g_iload_n (pc := 19) X rfl 1 rfl dX7_speeds_19 ?_
    refine g_cVMi (pc := 20) (As := [.int x1]) X hK hX hok hA mi_X7_speedsOf (c_X7_speedsOf x1 τ1 _) (fun _ => ⟨_, wl_ate (oX7 (cI := cI) (a := a) k_isMod_0).1 ((oX7 (cI := cI) (a := a) k_isMod_0).2 _)⟩) rfl rfl kw4_199 ⟨rfl, rfl⟩ ⟨Nat.le_of_ble_eq_true rfl, Nat.le_of_ble_eq_true rfl⟩ rfl (Nat.le_of_ble_eq_true rfl) dX7_speeds_20 rfl h (fun r20 τ20 h => ?_)
    refine g_goto (pc := 23) (tgt := 28) X (by decide) dX7_speeds_23 ?_
    exact g_retMi (pc := 28) X hK hr hlk dX7_speeds_28 h
set_option maxRecDepth 20000 in
theorem c_X7_cowsNow (σ : Sg) (K : Int32 → Sg → Prop) : ∀ sz, Met l yX7_cowsNow (.code yX7_cowsNow cX7_cowsNow 4 (some .int) :: AW) ({ frames := 4, cells := 0, slots := 0, locals := 91 } : Room) (pvM D (tyM cI) SXM (wM cI a σ) sz (w_X7_cowsNow σ K) [.ref (a 0)]) (va_Qi K (atM D (tyM cI) (wM cI a) (va_A (wM cI a σ) sz)) (va_A (wM cI a σ) sz)) 0 0 (va_A (wM cI a σ) sz) := by
  intro sz
  refine met_Mi (own := "TrainNoteModel") (lv := [(0, .ref (a 0))]) (by decide +kernel) rfl (Nat.le_of_ble_eq_true rfl) rfl ?_
  intro p e s m args below meth c A X hK hX hA hr hlk h
  have hR : ∀ σ H locs, hpM D (wM cI a) A s σ H locs → va_P D vwCl ((wM cI a σ)) H := fun _ _ _ h => h.1
  have hok := SXM_ok
  refine g_aload_n (pc := 0) X rfl 0 rfl dX7_cowsNow_0 ?_
  refine fX7_34 (pc := 1) X hK hR k_isMod_0 dX7_cowsNow_1 ?_
  refine g_iconst (pc := 4) X ic_1 dX7_cowsNow_4 ?_
  obtain ⟨h_5, h⟩ := h
  refine aX7_train (pc := 5) X hK hR k_isMod_0 h_5 dX7_cowsNow_5 ?_
  refine g_topi (fun x1_6 ex1_6 => ?_)
  have h := h x1_6 ex1_6
  refine g_istore_n (pc := 6) (lv' := [(1, .int x1_6), (0, .ref (a 0))]) X rfl (by decide) rfl dX7_cowsNow_6 ?_
  refine g_iconst (pc := 7) X ic_0 dX7_cowsNow_7 ?_
  refine g_istore_n (pc := 8) (lv' := [(2, .int (0 : Int32)), (1, .int x1_6), (0, .ref (a 0))]) X rfl (by decide) rfl dX7_cowsNow_8 ?_
  refine g_iconst (pc := 9) X ic_0 dX7_cowsNow_9 ?_
  refine g_istore_n (pc := 10) (lv' := [(3, .int (0 : Int32)), (2, .int (0 : Int32)), (1, .int x1_6), (0, .ref (a 0))]) X rfl (by decide) rfl dX7_cowsNow_10 ?_
  obtain ⟨n11, h⟩ := h
  have X47 : ∀ (u2_47 : Int32) (ρe47 : Sg), E_X7_cowsNow_11 x1_6 K u2_47 ρe47 → GMi p l e ({ frames := 4, cells := 0, slots := 0, locals := 91 } : Room) s m args below meth c K 4 D (tyM cI) (wM cI a) A 47 [(0, .ref (a 0)), (1, .int x1_6), (2, .int u2_47)] [] ρe47 := by
    intro u2_47 ρe47 h
    refine g_aload_n (pc := 47) X rfl 0 rfl dX7_cowsNow_47 ?_
    refine fX7_34 (pc := 48) X hK hR k_isMod_0 dX7_cowsNow_48 ?_
    refine g_iconst (pc := 51) X ic_1 dX7_cowsNow_51 ?_
    refine g_iload_n (pc := 52) X rfl 1 rfl dX7_cowsNow_52 ?_
    obtain ⟨h_53, h⟩ := h
    refine tX7_train (pc := 53) X hK k_isMod_0 h_53 dX7_cowsNow_53 (fun τ53 eτ53 => ?_)
    have h := h τ53 eτ53
    refine g_aload_n (pc := 54) X rfl 0 rfl dX7_cowsNow_54 ?_
    refine g_cVMv (pc := 55) (As := []) X hK hX hok hA mi_X7_findNotes (c_X7_findNotes  τ53 _) (fun _ => ⟨_, wl_ate (oX7 (cI := cI) (a := a) k_isMod_0).1 ((oX7 (cI := cI) (a := a) k_isMod_0).2 _)⟩) rfl rfl kw4_71 ⟨rfl, rfl⟩ ⟨Nat.le_of_ble_eq_true rfl, Nat.le_of_ble_eq_true rfl⟩ rfl (Nat.le_of_ble_eq_true rfl) dX7_cowsNow_55 rfl h (fun τ55 h => ?_)
    refine g_iload_n (pc := 58) X rfl 2 rfl dX7_cowsNow_58 ?_
    exact g_retMi (pc := 59) X hK hr hlk dX7_cowsNow_59 h
  have L11 : ∀ (n : Nat) (y2_11 : Int32) (y3_11 : Int32) (ρ11 : Sg), lq3 (F_X7_cowsNow_11 (E_X7_cowsNow_11 x1_6 K)) n y2_11 y3_11 ρ11 → GMi p l e ({ frames := 4, cells := 0, slots := 0, locals := 91 } : Room) s m args below meth c K 4 D (tyM cI) (wM cI a) A 11 [(0, .ref (a 0)), (1, .int x1_6), (2, .int y2_11), (3, .int y3_11)] [] ρ11 := by
    intro n
    induction n with
    | zero =>
      intro y2_11 y3_11 ρ11 h
      exact h.elim
    | succ n ih =>
      intro y2_11 y3_11 ρ11 h
      have h : F_X7_cowsNow_11 (E_X7_cowsNow_11 x1_6 K) (lq3 (F_X7_cowsNow_11 (E_X7_cowsNow_11 x1_6 K)) n) y2_11 y3_11 ρ11 := h
      refine g_iload_n (pc := 11) X rfl 3 rfl dX7_cowsNow_11 ?_
      refine g_bipush (pc := 12) X bp_10 dX7_cowsNow_12 ?_
      refine g_icmp_ge (pc := 14) (tgt := 47) X (by decide) dX7_cowsNow_14 (fun c_14 => ?_) (fun c_14 => ?_)
      · have h := ite_t c_14 h
        exact g_lv (X47 y2_11 ρ11 h) [0, 1, 2] rfl
      · have h := ite_f c_14 h
        refine g_aload_n (pc := 17) X rfl 0 rfl dX7_cowsNow_17 ?_
        refine fX7_34 (pc := 18) X hK hR k_isMod_0 dX7_cowsNow_18 ?_
        refine g_iconst (pc := 21) X ic_1 dX7_cowsNow_21 ?_
        refine g_iload_n (pc := 22) X rfl 3 rfl dX7_cowsNow_22 ?_
        obtain ⟨h_23, h⟩ := h
        refine tX7_train (pc := 23) X hK k_isMod_0 h_23 dX7_cowsNow_23 (fun τ23 eτ23 => ?_)
        have h := h τ23 eτ23
        refine g_iload_n (pc := 24) X rfl 2 rfl dX7_cowsNow_24 ?_
        refine g_aload_n (pc := 25) X rfl 0 rfl dX7_cowsNow_25 ?_
        refine g_cVMi (pc := 26) (As := []) X hK hX hok hA mi_X7_isHeard (c_X7_isHeard  τ23 _) (fun _ => ⟨_, wl_ate (oX7 (cI := cI) (a := a) k_isMod_0).1 ((oX7 (cI := cI) (a := a) k_isMod_0).2 _)⟩) rfl rfl kw4_203 ⟨rfl, rfl⟩ ⟨Nat.le_of_ble_eq_true rfl, Nat.le_of_ble_eq_true rfl⟩ rfl (Nat.le_of_ble_eq_true rfl) dX7_cowsNow_26 rfl h (fun r26 τ26 h => ?_)
        refine g_if_eq (pc := 29) (tgt := 38) X (by decide) dX7_cowsNow_29 (fun c_29 => ?_) (fun c_29 => ?_)
        · have h := ite_t c_29 h
          refine g_iconst (pc := 38) X ic_0 dX7_cowsNow_38 ?_
          refine g_ior (pc := 39) X dX7_cowsNow_39 ?_
          refine g_istore_n (pc := 40) (lv' := [(2, .int (y2_11 ||| (0 : Int32))), (0, .ref (a 0)), (1, .int x1_6), (3, .int y3_11)]) X rfl (by decide) rfl dX7_cowsNow_40 ?_
          refine g_iinc (pc := 41) (lv' := [(3, .int (y3_11 + (1 : Int32))), (2, .int (y2_11 ||| (0 : Int32))), (0, .ref (a 0)), (1, .int x1_6)]) X 3 rfl rfl (by decide) rfl dX7_cowsNow_41 ?_
          refine g_goto (pc := 44) (tgt := 11) X (by decide) dX7_cowsNow_44 ?_
          exact g_lv (ih (y2_11 ||| (0 : Int32)) (y3_11 + (1 : Int32)) τ26 h) [2, 3, 1, 0] rfl
        · have h := ite_f c_29 h
          refine g_iconst (pc := 32) X ic_1 dX7_cowsNow_32 ?_
          refine g_iload_n (pc := 33) X rfl 3 rfl dX7_cowsNow_33 ?_
          refine g_ishl (pc := 34) X dX7_cowsNow_34 ?_
          refine g_goto (pc := 35) (tgt := 39) X (by decide) dX7_cowsNow_35 ?_
          refine g_ior (pc := 39) X dX7_cowsNow_39 ?_
          refine g_topi (fun x2_40 ex2_40 => ?_)
          have h := h x2_40 ex2_40
          refine g_istore_n (pc := 40) (lv' := [(2, .int x2_40), (0, .ref (a 0)), (1, .int x1_6), (3, .int y3_11)]) X rfl (by decide) rfl dX7_cowsNow_40 ?_
          refine g_iinc (pc := 41) (lv' := [(3, .int (y3_11 + (1 : Int32))), (2, .int x2_40), (0, .ref (a 0)), (1, .int x1_6)]) X 3 rfl rfl (by decide) rfl dX7_cowsNow_41 ?_
          refine g_goto (pc := 44) (tgt := 11) X (by decide) dX7_cowsNow_44 ?_
          exact g_lv (ih x2_40 (y3_11 + (1 : Int32)) τ26 h) [2, 3, 1, 0] rfl
  exact g_lv (L11 n11 (0 : Int32) (0 : Int32) σ h) [3, 2, 1, 0] rfl
set_option maxRecDepth 20000 in
theorem c_X7_cows (σ : Sg) (K : Int32 → Sg → Prop) : ∀ sz, Met l yX7_cows (.code yX7_cows cX7_cows 1 (some .int) :: AW) ({ frames := 5, cells := 0, slots := 0, locals := 114 } : Room) (pvM D (tyM cI) SXM (wM cI a σ) sz (w_X7_cows σ K) [.ref (a 0)]) (va_Qi K (atM D (tyM cI) (wM cI a) (va_A (wM cI a σ) sz)) (va_A (wM cI a σ) sz)) 0 0 (va_A (wM cI a σ) sz) := by
  intro sz
  refine met_Mi (own := "TrainNoteModel") (lv := [(0, .ref (a 0))]) (by decide +kernel) rfl (Nat.le_of_ble_eq_true rfl) rfl ?_
  intro p e s m args below meth c A X hK hX hA hr hlk h
  have hR : ∀ σ H locs, hpM D (wM cI a) A s σ H locs → va_P D vwCl ((wM cI a σ)) H := fun _ _ _ h => h.1
  have hok := SXM_ok
  refine g_aload_n (pc := 0) X rfl 0 rfl dX7_cows_0 ?_
  refine g_cVMv (pc := 1) (As := []) X hK hX hok hA mi_X7_find (c_X7_find  σ _) (fun _ => ⟨_, wl_ate (oX7 (cI := cI) (a := a) k_isMod_0).1 ((oX7 (cI := cI) (a := a) k_isMod_0).2 _)⟩) rfl rfl kw4_67 ⟨rfl, rfl⟩ ⟨Nat.le_of_ble_eq_true rfl, Nat.le_of_ble_eq_true rfl⟩ rfl (Nat.le_of_ble_eq_true rfl) dX7_cows_1 rfl h (fun τ1 h => ?_)
  refine g_aload_n (pc := 4) X rfl 0 rfl dX7_cows_4 ?_
  refine g_cVMi (pc := 5) (As := []) X hK hX hok hA mi_X7_cowsNow (c_X7_cowsNow  τ1 _) (fun _ => ⟨_, wl_ate (oX7 (cI := cI) (a := a) k_isMod_0).1 ((oX7 (cI := cI) (a := a) k_isMod_0).2 _)⟩) rfl rfl kw4_211 ⟨rfl, rfl⟩ ⟨Nat.le_of_ble_eq_true rfl, Nat.le_of_ble_eq_true rfl⟩ rfl (Nat.le_of_ble_eq_true rfl) dX7_cows_5 rfl h (fun r5 τ5 h => ?_)
  exact g_retMi (pc := 8) X hK hr hlk dX7_cows_8 h
set_option maxRecDepth 20000 in
theorem c_X7_mostAlike (x1 : Int32) (x2 : Int32) (σ : Sg) (K : Int32 → Prop) : Met l yX7_mostAlike (.code yX7_mostAlike cX7_mostAlike 7 (some .int) :: AW) ({ frames := 1, cells := 0, slots := 0, locals := 21 } : Room) (pvP D (tyM cI) (wM cI a σ) (w_X7_mostAlike x1 x2 σ K) [.ref (a 0), .int x1, .int x2]) (vp_Si K) 0 0 (fun _ => False) := by
  refine met_Pi (own := "TrainNoteModel") (lv := [(0, .ref (a 0)), (1, .int x1), (2, .int x2)]) (by decide +kernel) rfl (Nat.le_of_ble_eq_true rfl) rfl ?_
  intro p e s m args below meth c X hK hr hlk h
  have hR : ∀ σ H locs, hpP D (wM cI a) s σ H locs → va_P D vwCl ((wM cI a σ)) H := fun _ _ _ h => h.1
  refine g_iconst (pc := 0) X ic_0 dX7_mostAlike_0 ?_
  refine g_istore_n (pc := 1) (lv' := [(3, .int (0 : Int32)), (0, .ref (a 0)), (1, .int x1), (2, .int x2)]) X rfl (by decide) rfl dX7_mostAlike_1 ?_
  refine g_iconst (pc := 2) X ic_0 dX7_mostAlike_2 ?_
  refine g_istore (pc := 3) (lv' := [(4, .int (0 : Int32)), (3, .int (0 : Int32)), (0, .ref (a 0)), (1, .int x1), (2, .int x2)]) X (by decide) rfl dX7_mostAlike_3 ?_
  obtain ⟨n5, h⟩ := h
  have X73 : ∀ (u3_73 : Int32), E_X7_mostAlike_5 K u3_73 → GPi p l e ({ frames := 1, cells := 0, slots := 0, locals := 21 } : Room) s m args below meth c K 7 D (wM cI a) 73 [(3, .int u3_73)] [] σ := by
    intro u3_73 h
    refine g_iload_n (pc := 73) X rfl 0 rfl dX7_mostAlike_73 ?_
    exact g_retPi (pc := 74) X hr hlk dX7_mostAlike_74 h
  have L5 : ∀ (n : Nat) (y3_5 : Int32) (y4_5 : Int32), lq2 (F_X7_mostAlike_5 x2 x1 σ (E_X7_mostAlike_5 K)) n y3_5 y4_5 → GPi p l e ({ frames := 1, cells := 0, slots := 0, locals := 21 } : Room) s m args below meth c K 7 D (wM cI a) 5 [(0, .ref (a 0)), (1, .int x1), (2, .int x2), (3, .int y3_5), (4, .int y4_5)] [] σ := by
    intro n
    induction n with
    | zero =>
      intro y3_5 y4_5 h
      exact h.elim
    | succ n ih =>
      intro y3_5 y4_5 h
      have h : F_X7_mostAlike_5 x2 x1 σ (E_X7_mostAlike_5 K) (lq2 (F_X7_mostAlike_5 x2 x1 σ (E_X7_mostAlike_5 K)) n) y3_5 y4_5 := h
      generalize lq2 (F_X7_mostAlike_5 x2 x1 σ (E_X7_mostAlike_5 K)) n = rec5 at h ih
      refine g_iload (pc := 5) X 4 rfl dX7_mostAlike_5 ?_
      refine g_iload_n (pc := 7) X rfl 2 rfl dX7_mostAlike_7 ?_
      refine g_icmp_ge (pc := 8) (tgt := 73) X (by decide) dX7_mostAlike_8 (fun c_8 => ?_) (fun c_8 => ?_)
      · have h := ite_t c_8 h
        exact g_lv (X73 y3_5 h) [3] rfl
      · have h := ite_f c_8 h
        refine g_iconst (pc := 11) X ic_0 dX7_mostAlike_11 ?_
        refine g_istore (pc := 12) (lv' := [(5, .int (0 : Int32)), (0, .ref (a 0)), (1, .int x1), (2, .int x2), (3, .int y3_5), (4, .int y4_5)]) X (by decide) rfl dX7_mostAlike_12 ?_
        refine g_iconst (pc := 14) X ic_0 dX7_mostAlike_14 ?_
        refine g_istore (pc := 15) (lv' := [(6, .int (0 : Int32)), (5, .int (0 : Int32)), (0, .ref (a 0)), (1, .int x1), (2, .int x2), (3, .int y3_5), (4, .int y4_5)]) X (by decide) rfl dX7_mostAlike_15 ?_
        obtain ⟨n17, h⟩ := h
        have X60 : ∀ (u5_60 : Int32), E_X7_mostAlike_17 y3_5 rec5 y4_5 u5_60 → GPi p l e ({ frames := 1, cells := 0, slots := 0, locals := 21 } : Room) s m args below meth c K 7 D (wM cI a) 60 [(0, .ref (a 0)), (1, .int x1), (2, .int x2), (3, .int y3_5), (4, .int y4_5), (5, .int u5_60)] [] σ := by
          intro u5_60 h
          refine g_iload (pc := 60) X 5 rfl dX7_mostAlike_60 ?_
          refine g_iload_n (pc := 62) X rfl 3 rfl dX7_mostAlike_62 ?_
          refine g_cS0i (pc := 63) (As := [.int u5_60, .int y3_5]) X mi_X7_greater (c_X7_greater u5_60 y3_5 _) kw4_128 ⟨rfl, rfl⟩ ⟨Nat.le_of_ble_eq_true rfl, Nat.le_of_ble_eq_true rfl⟩ rfl (Nat.le_of_ble_eq_true rfl) dX7_mostAlike_63 rfl h (fun r63 h => ?_)
          refine g_istore_n (pc := 66) (lv' := [(3, .int r63), (0, .ref (a 0)), (1, .int x1), (2, .int x2), (4, .int y4_5), (5, .int u5_60)]) X rfl (by decide) rfl dX7_mostAlike_66 ?_
          refine g_iinc (pc := 67) (lv' := [(4, .int (y4_5 + (1 : Int32))), (3, .int r63), (0, .ref (a 0)), (1, .int x1), (2, .int x2), (5, .int u5_60)]) X 4 rfl rfl (by decide) rfl dX7_mostAlike_67 ?_
          refine g_goto (pc := 70) (tgt := 5) X (by decide) dX7_mostAlike_70 ?_
          exact g_lv (ih r63 (y4_5 + (1 : Int32)) h) [2, 3, 4, 1, 0] rfl
        have L17 : ∀ (n : Nat) (y5_17 : Int32) (y6_17 : Int32), lq2 (F_X7_mostAlike_17 x2 x1 y4_5 σ (E_X7_mostAlike_17 y3_5 rec5 y4_5)) n y5_17 y6_17 → GPi p l e ({ frames := 1, cells := 0, slots := 0, locals := 21 } : Room) s m args below meth c K 7 D (wM cI a) 17 [(0, .ref (a 0)), (1, .int x1), (2, .int x2), (3, .int y3_5), (4, .int y4_5), (5, .int y5_17), (6, .int y6_17)] [] σ := by
          intro n
          induction n with
          | zero =>
            intro y5_17 y6_17 h
            exact h.elim
          | succ n ih =>
            intro y5_17 y6_17 h
            have h : F_X7_mostAlike_17 x2 x1 y4_5 σ (E_X7_mostAlike_17 y3_5 rec5 y4_5) (lq2 (F_X7_mostAlike_17 x2 x1 y4_5 σ (E_X7_mostAlike_17 y3_5 rec5 y4_5)) n) y5_17 y6_17 := h
            refine g_iload (pc := 17) X 6 rfl dX7_mostAlike_17 ?_
            refine g_iload_n (pc := 19) X rfl 2 rfl dX7_mostAlike_19 ?_
            refine g_icmp_ge (pc := 20) (tgt := 60) X (by decide) dX7_mostAlike_20 (fun c_20 => ?_) (fun c_20 => ?_)
            · have h := ite_t c_20 h
              exact g_lv (X60 y5_17 h) [0, 1, 2, 3, 4, 5] rfl
            · have h := ite_f c_20 h
              refine g_iload (pc := 23) X 5 rfl dX7_mostAlike_23 ?_
              refine g_aload_n (pc := 25) X rfl 0 rfl dX7_mostAlike_25 ?_
              refine fX7_58 (pc := 26) X hK hR k_isMod_0 dX7_mostAlike_26 ?_
              refine g_iload_n (pc := 29) X rfl 1 rfl dX7_mostAlike_29 ?_
              refine g_iload (pc := 30) X 4 rfl dX7_mostAlike_30 ?_
              refine g_iadd (pc := 32) X dX7_mostAlike_32 ?_
              obtain ⟨h_33, h⟩ := h
              refine aX7_notes (pc := 33) X hK hR k_isMod_0 h_33 dX7_mostAlike_33 ?_
              refine g_aload_n (pc := 34) X rfl 0 rfl dX7_mostAlike_34 ?_
              refine fX7_58 (pc := 35) X hK hR k_isMod_0 dX7_mostAlike_35 ?_
              refine g_iload_n (pc := 38) X rfl 1 rfl dX7_mostAlike_38 ?_
              refine g_iload (pc := 39) X 6 rfl dX7_mostAlike_39 ?_
              refine g_iadd (pc := 41) X dX7_mostAlike_41 ?_
              obtain ⟨h_42, h⟩ := h
              refine aX7_notes (pc := 42) X hK hR k_isMod_0 h_42 dX7_mostAlike_42 ?_
              refine g_icmp_ne (pc := 43) (tgt := 50) X (by decide) dX7_mostAlike_43 (fun c_43 => ?_) (fun c_43 => ?_)
              · have h := ite_f c_43 h
                refine g_iconst (pc := 50) X ic_0 dX7_mostAlike_50 ?_
                refine g_iadd (pc := 51) X dX7_mostAlike_51 ?_
                refine g_istore (pc := 52) (lv' := [(5, .int (y5_17 + (0 : Int32))), (0, .ref (a 0)), (1, .int x1), (2, .int x2), (3, .int y3_5), (4, .int y4_5), (6, .int y6_17)]) X (by decide) rfl dX7_mostAlike_52 ?_
                refine g_iinc (pc := 54) (lv' := [(6, .int (y6_17 + (1 : Int32))), (5, .int (y5_17 + (0 : Int32))), (0, .ref (a 0)), (1, .int x1), (2, .int x2), (3, .int y3_5), (4, .int y4_5)]) X 6 rfl rfl (by decide) rfl dX7_mostAlike_54 ?_
                refine g_goto (pc := 57) (tgt := 17) X (by decide) dX7_mostAlike_57 ?_
                exact g_lv (ih (y5_17 + (0 : Int32)) (y6_17 + (1 : Int32)) h) [2, 3, 4, 5, 6, 1, 0] rfl
              · have h := ite_t c_43 h
                refine g_iconst (pc := 46) X ic_1 dX7_mostAlike_46 ?_
                refine g_goto (pc := 47) (tgt := 51) X (by decide) dX7_mostAlike_47 ?_
                refine g_iadd (pc := 51) X dX7_mostAlike_51 ?_
                refine g_istore (pc := 52) (lv' := [(5, .int (y5_17 + (1 : Int32))), (0, .ref (a 0)), (1, .int x1), (2, .int x2), (3, .int y3_5), (4, .int y4_5), (6, .int y6_17)]) X (by decide) rfl dX7_mostAlike_52 ?_
                refine g_iinc (pc := 54) (lv' := [(6, .int (y6_17 + (1 : Int32))), (5, .int (y5_17 + (1 : Int32))), (0, .ref (a 0)), (1, .int x1), (2, .int x2), (3, .int y3_5), (4, .int y4_5)]) X 6 rfl rfl (by decide) rfl dX7_mostAlike_54 ?_
                refine g_goto (pc := 57) (tgt := 17) X (by decide) dX7_mostAlike_57 ?_
                exact g_lv (ih (y5_17 + (1 : Int32)) (y6_17 + (1 : Int32)) h) [2, 3, 4, 5, 6, 1, 0] rfl
        exact g_lv (L17 n17 (0 : Int32) (0 : Int32) h) [2, 3, 4, 5, 6, 1, 0] rfl
  exact g_lv (L5 n5 (0 : Int32) (0 : Int32) h) [2, 3, 4, 1, 0] rfl
set_option maxRecDepth 20000 in
theorem c_X7_askNow (σ : Sg) (K : Int32 → Sg → Prop) : ∀ sz, Met l yX7_askNow (.code yX7_askNow cX7_askNow 8 (some .int) :: AW) ({ frames := 4, cells := 0, slots := 0, locals := 91 } : Room) (pvM D (tyM cI) SXM (wM cI a σ) sz (w_X7_askNow σ K) [.ref (a 0)]) (va_Qi K (atM D (tyM cI) (wM cI a) (va_A (wM cI a σ) sz)) (va_A (wM cI a σ) sz)) 0 0 (va_A (wM cI a σ) sz) := by
  intro sz
  refine met_Mi (own := "TrainNoteModel") (lv := [(0, .ref (a 0))]) (by decide +kernel) rfl (Nat.le_of_ble_eq_true rfl) rfl ?_
  intro p e s m args below meth c A X hK hX hA hr hlk h
  have hR : ∀ σ H locs, hpM D (wM cI a) A s σ H locs → va_P D vwCl ((wM cI a σ)) H := fun _ _ _ h => h.1
  have hok := SXM_ok
  refine g_aload_n (pc := 0) X rfl 0 rfl dX7_askNow_0 ?_
  refine fX7_34 (pc := 1) X hK hR k_isMod_0 dX7_askNow_1 ?_
  refine g_iconst (pc := 4) X ic_0 dX7_askNow_4 ?_
  obtain ⟨h_5, h⟩ := h
  refine aX7_train (pc := 5) X hK hR k_isMod_0 h_5 dX7_askNow_5 ?_
  refine g_topi (fun x1_6 ex1_6 => ?_)
  have h := h x1_6 ex1_6
  refine g_istore_n (pc := 6) (lv' := [(1, .int x1_6), (0, .ref (a 0))]) X rfl (by decide) rfl dX7_askNow_6 ?_
  refine g_iconst (pc := 7) X ic_0 dX7_askNow_7 ?_
  refine g_istore_n (pc := 8) (lv' := [(2, .int (0 : Int32)), (1, .int x1_6), (0, .ref (a 0))]) X rfl (by decide) rfl dX7_askNow_8 ?_
  refine g_iconst (pc := 9) X ic_0 dX7_askNow_9 ?_
  refine g_istore_n (pc := 10) (lv' := [(3, .int (0 : Int32)), (2, .int (0 : Int32)), (1, .int x1_6), (0, .ref (a 0))]) X rfl (by decide) rfl dX7_askNow_10 ?_
  obtain ⟨n11, h⟩ := h
  have X94 : ∀ (u2_94 : Int32) (ρe94 : Sg), E_X7_askNow_11 x1_6 K u2_94 ρe94 → GMi p l e ({ frames := 4, cells := 0, slots := 0, locals := 91 } : Room) s m args below meth c K 8 D (tyM cI) (wM cI a) A 94 [(0, .ref (a 0)), (1, .int x1_6), (2, .int u2_94)] [] ρe94 := by
    intro u2_94 ρe94 h
    refine g_aload_n (pc := 94) X rfl 0 rfl dX7_askNow_94 ?_
    refine fX7_34 (pc := 95) X hK hR k_isMod_0 dX7_askNow_95 ?_
    refine g_iconst (pc := 98) X ic_0 dX7_askNow_98 ?_
    refine g_iload_n (pc := 99) X rfl 1 rfl dX7_askNow_99 ?_
    obtain ⟨h_100, h⟩ := h
    refine tX7_train (pc := 100) X hK k_isMod_0 h_100 dX7_askNow_100 (fun τ100 eτ100 => ?_)
    have h := h τ100 eτ100
    refine g_aload_n (pc := 101) X rfl 0 rfl dX7_askNow_101 ?_
    refine g_cVMv (pc := 102) (As := []) X hK hX hok hA mi_X7_findNotes (c_X7_findNotes  τ100 _) (fun _ => ⟨_, wl_ate (oX7 (cI := cI) (a := a) k_isMod_0).1 ((oX7 (cI := cI) (a := a) k_isMod_0).2 _)⟩) rfl rfl kw4_71 ⟨rfl, rfl⟩ ⟨Nat.le_of_ble_eq_true rfl, Nat.le_of_ble_eq_true rfl⟩ rfl (Nat.le_of_ble_eq_true rfl) dX7_askNow_102 rfl h (fun τ102 h => ?_)
    refine g_iconst (pc := 105) X ic_m1 dX7_askNow_105 ?_
    refine g_istore_n (pc := 106) (lv' := [(3, .int (-1 : Int32)), (0, .ref (a 0)), (1, .int x1_6), (2, .int u2_94)]) X rfl (by decide) rfl dX7_askNow_106 ?_
    refine g_iconst (pc := 107) X ic_0 dX7_askNow_107 ?_
    refine g_istore (pc := 108) (lv' := [(4, .int (0 : Int32)), (3, .int (-1 : Int32)), (0, .ref (a 0)), (1, .int x1_6), (2, .int u2_94)]) X (by decide) rfl dX7_askNow_108 ?_
    refine g_iconst (pc := 110) X ic_0 dX7_askNow_110 ?_
    refine g_istore (pc := 111) (lv' := [(5, .int (0 : Int32)), (4, .int (0 : Int32)), (3, .int (-1 : Int32)), (0, .ref (a 0)), (1, .int x1_6), (2, .int u2_94)]) X (by decide) rfl dX7_askNow_111 ?_
    obtain ⟨n113, h⟩ := h
    have X185 : ∀ (u3_185 : Int32), E_X7_askNow_113 K τ102 u3_185 → GMi p l e ({ frames := 4, cells := 0, slots := 0, locals := 91 } : Room) s m args below meth c K 8 D (tyM cI) (wM cI a) A 185 [(3, .int u3_185)] [] τ102 := by
      intro u3_185 h
      refine g_iload_n (pc := 185) X rfl 0 rfl dX7_askNow_185 ?_
      exact g_retMi (pc := 186) X hK hr hlk dX7_askNow_186 h
    have L113 : ∀ (n : Nat) (y3_113 : Int32) (y4_113 : Int32) (y5_113 : Int32), lq3 (F_X7_askNow_113 τ102 u2_94 (E_X7_askNow_113 K τ102)) n y3_113 y4_113 y5_113 → GMi p l e ({ frames := 4, cells := 0, slots := 0, locals := 91 } : Room) s m args below meth c K 8 D (tyM cI) (wM cI a) A 113 [(0, .ref (a 0)), (2, .int u2_94), (3, .int y3_113), (4, .int y4_113), (5, .int y5_113)] [] τ102 := by
      intro n
      induction n with
      | zero =>
        intro y3_113 y4_113 y5_113 h
        exact h.elim
      | succ n ih =>
        intro y3_113 y4_113 y5_113 h
        have h : F_X7_askNow_113 τ102 u2_94 (E_X7_askNow_113 K τ102) (lq3 (F_X7_askNow_113 τ102 u2_94 (E_X7_askNow_113 K τ102)) n) y3_113 y4_113 y5_113 := h
        generalize lq3 (F_X7_askNow_113 τ102 u2_94 (E_X7_askNow_113 K τ102)) n = rec113 at h ih
        refine g_iload (pc := 113) X 4 rfl dX7_askNow_113 ?_
        refine g_aload_n (pc := 115) X rfl 0 rfl dX7_askNow_115 ?_
        refine fX7_101 (pc := 116) X hK hR k_isMod_0 dX7_askNow_116 ?_
        refine g_icmp_ge (pc := 119) (tgt := 185) X (by decide) dX7_askNow_119 (fun c_119 => ?_) (fun c_119 => ?_)
        · have h := ite_t c_119 h
          exact g_lv (X185 y3_113 h) [2] rfl
        · have h := ite_f c_119 h
          refine g_aload_n (pc := 122) X rfl 0 rfl dX7_askNow_122 ?_
          refine g_bipush (pc := 123) X bp_100 dX7_askNow_123 ?_
          refine g_iload (pc := 125) X 4 rfl dX7_askNow_125 ?_
          refine g_imul (pc := 127) X dX7_askNow_127 ?_
          refine g_iload_n (pc := 128) X rfl 1 rfl dX7_askNow_128 ?_
          refine g_cVPi (pc := 129) (As := [.int ((100 : Int32) * y5_113), .int u2_94]) X hK hR mi_X7_mostAlike (c_X7_mostAlike ((100 : Int32) * y5_113) u2_94 τ102 _) (wl_ate (oX7 (cI := cI) (a := a) k_isMod_0).1 ((oX7 (cI := cI) (a := a) k_isMod_0).2 _)) rfl rfl kw4_223 ⟨rfl, rfl⟩ ⟨Nat.le_of_ble_eq_true rfl, Nat.le_of_ble_eq_true rfl⟩ rfl (Nat.le_of_ble_eq_true rfl) dX7_askNow_129 rfl h (fun r129 h => ?_)
          refine g_istore (pc := 132) (lv' := [(6, .int r129), (0, .ref (a 0)), (2, .int u2_94), (3, .int y3_113), (4, .int y4_113), (5, .int y5_113)]) X (by decide) rfl dX7_askNow_132 ?_
          refine g_iload_n (pc := 134) X rfl 3 rfl dX7_askNow_134 ?_
          refine g_iconst (pc := 135) X ic_m1 dX7_askNow_135 ?_
          have J151 : ∀ (v0_151 : Int32), J_X7_askNow_151 rec113 y4_113 y5_113 r129 y3_113 v0_151 → GMi p l e ({ frames := 4, cells := 0, slots := 0, locals := 91 } : Room) s m args below meth c K 8 D (tyM cI) (wM cI a) A 151 [(0, .ref (a 0)), (2, .int u2_94), (3, .int y3_113), (4, .int y4_113), (5, .int y5_113), (6, .int r129)] [.int v0_151] τ102 := by
            intro v0_151 h
            refine g_istore (pc := 151) (lv' := [(7, .int v0_151), (0, .ref (a 0)), (2, .int u2_94), (3, .int y3_113), (4, .int y4_113), (5, .int y5_113), (6, .int r129)]) X (by decide) rfl dX7_askNow_151 ?_
            refine g_iload (pc := 153) X 0 rfl dX7_askNow_153 ?_
            have J164 : ∀ (v0_164 : Int32), J_X7_askNow_164 v0_151 rec113 y4_113 y5_113 r129 v0_164 → GMi p l e ({ frames := 4, cells := 0, slots := 0, locals := 91 } : Room) s m args below meth c K 8 D (tyM cI) (wM cI a) A 164 [(0, .ref (a 0)), (2, .int u2_94), (4, .int y4_113), (5, .int y5_113), (6, .int r129), (7, .int v0_151)] [.int v0_164] τ102 := by
              intro v0_164 h
              refine g_istore_n (pc := 164) (lv' := [(3, .int v0_164), (0, .ref (a 0)), (2, .int u2_94), (4, .int y4_113), (5, .int y5_113), (6, .int r129), (7, .int v0_151)]) X rfl (by decide) rfl dX7_askNow_164 ?_
              refine g_iload (pc := 165) X 6 rfl dX7_askNow_165 ?_
              refine g_if_eq (pc := 167) (tgt := 175) X (by decide) dX7_askNow_167 (fun c_167 => ?_) (fun c_167 => ?_)
              · have h := ite_t c_167 h
                refine g_iload (pc := 175) X 3 rfl dX7_askNow_175 ?_
                refine g_istore (pc := 177) (lv' := [(4, .int y4_113), (3, .int v0_164), (0, .ref (a 0)), (2, .int u2_94), (5, .int y5_113), (6, .int r129), (7, .int v0_151)]) X (by decide) rfl dX7_askNow_177 ?_
                refine g_iinc (pc := 179) (lv' := [(5, .int (y5_113 + (1 : Int32))), (4, .int y4_113), (3, .int v0_164), (0, .ref (a 0)), (2, .int u2_94), (6, .int r129), (7, .int v0_151)]) X 4 rfl rfl (by decide) rfl dX7_askNow_179 ?_
                refine g_goto (pc := 182) (tgt := 113) X (by decide) dX7_askNow_182 ?_
                exact g_lv (ih v0_164 y4_113 (y5_113 + (1 : Int32)) h) [3, 4, 2, 1, 0] rfl
              · have h := ite_f c_167 h
                refine g_iload (pc := 170) X 5 rfl dX7_askNow_170 ?_
                refine g_goto (pc := 172) (tgt := 177) X (by decide) dX7_askNow_172 ?_
                refine g_istore (pc := 177) (lv' := [(4, .int r129), (3, .int v0_164), (0, .ref (a 0)), (2, .int u2_94), (5, .int y5_113), (6, .int r129), (7, .int v0_151)]) X (by decide) rfl dX7_askNow_177 ?_
                refine g_iinc (pc := 179) (lv' := [(5, .int (y5_113 + (1 : Int32))), (4, .int r129), (3, .int v0_164), (0, .ref (a 0)), (2, .int u2_94), (6, .int r129), (7, .int v0_151)]) X 4 rfl rfl (by decide) rfl dX7_askNow_179 ?_
                refine g_goto (pc := 182) (tgt := 113) X (by decide) dX7_askNow_182 ?_
                exact g_lv (ih v0_164 r129 (y5_113 + (1 : Int32)) h) [3, 4, 2, 1, 0] rfl
            refine g_if_eq (pc := 155) (tgt := 163) X (by decide) dX7_askNow_155 (fun c_155 => ?_) (fun c_155 => ?_)
            · have h := ite_t c_155 h
              refine g_iload_n (pc := 163) X rfl 3 rfl dX7_askNow_163 ?_
              exact g_lv (J164 y3_113 h) [1, 2, 4, 5, 6, 0] rfl
            · have h := ite_f c_155 h
              refine g_iload (pc := 158) X 5 rfl dX7_askNow_158 ?_
              refine g_goto (pc := 160) (tgt := 164) X (by decide) dX7_askNow_160 ?_
              exact g_lv (J164 y5_113 h) [1, 2, 4, 5, 6, 0] rfl
          have J146 : ∀ (_ : Unit), J_X7_askNow_146 rec113 y4_113 y5_113 r129 y3_113 → GMi p l e ({ frames := 4, cells := 0, slots := 0, locals := 91 } : Room) s m args below meth c K 8 D (tyM cI) (wM cI a) A 146 [(0, .ref (a 0)), (2, .int u2_94), (3, .int y3_113), (4, .int y4_113), (5, .int y5_113), (6, .int r129)] [] τ102 := by
            intro _ h
            refine g_iconst (pc := 146) X ic_1 dX7_askNow_146 ?_
            refine g_goto (pc := 147) (tgt := 151) X (by decide) dX7_askNow_147 ?_
            exact g_lv (J151 (1 : Int32) h) [0, 1, 2, 3, 4, 5] rfl
          refine g_icmp_eq (pc := 136) (tgt := 146) X (by decide) dX7_askNow_136 (fun c_136 => ?_) (fun c_136 => ?_)
          · have h := ite_t c_136 h
            exact g_lv (J146 () h) [1, 2, 3, 4, 5, 0] rfl
          · have h := ite_f c_136 h
            refine g_iload (pc := 139) X 0 rfl dX7_askNow_139 ?_
            refine g_iload (pc := 141) X 4 rfl dX7_askNow_141 ?_
            refine g_icmp_ge (pc := 143) (tgt := 150) X (by decide) dX7_askNow_143 (fun c_143 => ?_) (fun c_143 => ?_)
            · have h := ite_t c_143 h
              refine g_iconst (pc := 150) X ic_0 dX7_askNow_150 ?_
              exact g_lv (J151 (0 : Int32) h) [1, 2, 3, 4, 5, 0] rfl
            · have h := ite_f c_143 h
              exact g_lv (J146 () h) [1, 2, 3, 4, 5, 0] rfl
    exact g_lv (L113 n113 (-1 : Int32) (0 : Int32) (0 : Int32) h) [3, 5, 2, 1, 0] rfl
  have L11 : ∀ (n : Nat) (y2_11 : Int32) (y3_11 : Int32) (ρ11 : Sg), lq3 (F_X7_askNow_11 (E_X7_askNow_11 x1_6 K)) n y2_11 y3_11 ρ11 → GMi p l e ({ frames := 4, cells := 0, slots := 0, locals := 91 } : Room) s m args below meth c K 8 D (tyM cI) (wM cI a) A 11 [(0, .ref (a 0)), (1, .int x1_6), (2, .int y2_11), (3, .int y3_11)] [] ρ11 := by
    intro n
    induction n with
    | zero =>
      intro y2_11 y3_11 ρ11 h
      exact h.elim
    | succ n ih =>
      intro y2_11 y3_11 ρ11 h
      have h : F_X7_askNow_11 (E_X7_askNow_11 x1_6 K) (lq3 (F_X7_askNow_11 (E_X7_askNow_11 x1_6 K)) n) y2_11 y3_11 ρ11 := h
      generalize lq3 (F_X7_askNow_11 (E_X7_askNow_11 x1_6 K)) n = rec11 at h ih
      refine g_iload_n (pc := 11) X rfl 3 rfl dX7_askNow_11 ?_
      refine g_bipush (pc := 12) X bp_100 dX7_askNow_12 ?_
      refine g_icmp_ge (pc := 14) (tgt := 94) X (by decide) dX7_askNow_14 (fun c_14 => ?_) (fun c_14 => ?_)
      · have h := ite_t c_14 h
        exact g_lv (X94 y2_11 ρ11 h) [0, 1, 2] rfl
      · have h := ite_f c_14 h
        refine g_aload_n (pc := 17) X rfl 0 rfl dX7_askNow_17 ?_
        refine fX7_34 (pc := 18) X hK hR k_isMod_0 dX7_askNow_18 ?_
        refine g_iconst (pc := 21) X ic_0 dX7_askNow_21 ?_
        refine g_iload_n (pc := 22) X rfl 3 rfl dX7_askNow_22 ?_
        obtain ⟨h_23, h⟩ := h
        refine tX7_train (pc := 23) X hK k_isMod_0 h_23 dX7_askNow_23 (fun τ23 eτ23 => ?_)
        have h := h τ23 eτ23
        refine g_aload_n (pc := 24) X rfl 0 rfl dX7_askNow_24 ?_
        refine g_cVMi (pc := 25) (As := []) X hK hX hok hA mi_X7_isHeard (c_X7_isHeard  τ23 _) (fun _ => ⟨_, wl_ate (oX7 (cI := cI) (a := a) k_isMod_0).1 ((oX7 (cI := cI) (a := a) k_isMod_0).2 _)⟩) rfl rfl kw4_203 ⟨rfl, rfl⟩ ⟨Nat.le_of_ble_eq_true rfl, Nat.le_of_ble_eq_true rfl⟩ rfl (Nat.le_of_ble_eq_true rfl) dX7_askNow_25 rfl h (fun r25 τ25 h => ?_)
        refine g_if_eq (pc := 28) (tgt := 88) X (by decide) dX7_askNow_28 (fun c_28 => ?_) (fun c_28 => ?_)
        · have h := ite_t c_28 h
          refine g_iinc (pc := 88) (lv' := [(3, .int (y3_11 + (1 : Int32))), (0, .ref (a 0)), (1, .int x1_6), (2, .int y2_11)]) X 3 rfl rfl (by decide) rfl dX7_askNow_88 ?_
          refine g_goto (pc := 91) (tgt := 11) X (by decide) dX7_askNow_91 ?_
          exact g_lv (ih y2_11 (y3_11 + (1 : Int32)) τ25 h) [1, 2, 3, 0] rfl
        · have h := ite_f c_28 h
          refine g_iconst (pc := 31) X ic_0 dX7_askNow_31 ?_
          refine g_istore (pc := 32) (lv' := [(4, .int (0 : Int32)), (0, .ref (a 0)), (1, .int x1_6), (2, .int y2_11), (3, .int y3_11)]) X (by decide) rfl dX7_askNow_32 ?_
          obtain ⟨n34, h⟩ := h
          have X85 : ∀ (ρe85 : Sg), E_X7_askNow_34 rec11 y2_11 y3_11 ρe85 → GMi p l e ({ frames := 4, cells := 0, slots := 0, locals := 91 } : Room) s m args below meth c K 8 D (tyM cI) (wM cI a) A 85 [(0, .ref (a 0)), (1, .int x1_6), (2, .int y2_11), (3, .int y3_11)] [] ρe85 := by
            intro ρe85 h
            refine g_iinc (pc := 85) (lv' := [(2, .int (y2_11 + (1 : Int32))), (0, .ref (a 0)), (1, .int x1_6), (3, .int y3_11)]) X 2 rfl rfl (by decide) rfl dX7_askNow_85 ?_
            refine g_iinc (pc := 88) (lv' := [(3, .int (y3_11 + (1 : Int32))), (2, .int (y2_11 + (1 : Int32))), (0, .ref (a 0)), (1, .int x1_6)]) X 3 rfl rfl (by decide) rfl dX7_askNow_88 ?_
            refine g_goto (pc := 91) (tgt := 11) X (by decide) dX7_askNow_91 ?_
            exact g_lv (ih (y2_11 + (1 : Int32)) (y3_11 + (1 : Int32)) ρe85 h) [2, 3, 1, 0] rfl
          have L34 : ∀ (n : Nat) (y4_34 : Int32) (ρ34 : Sg), lq2 (F_X7_askNow_34 y2_11 (E_X7_askNow_34 rec11 y2_11 y3_11)) n y4_34 ρ34 → GMi p l e ({ frames := 4, cells := 0, slots := 0, locals := 91 } : Room) s m args below meth c K 8 D (tyM cI) (wM cI a) A 34 [(0, .ref (a 0)), (1, .int x1_6), (2, .int y2_11), (3, .int y3_11), (4, .int y4_34)] [] ρ34 := by
            intro n
            induction n with
            | zero =>
              intro y4_34 ρ34 h
              exact h.elim
            | succ n ih =>
              intro y4_34 ρ34 h
              have h : F_X7_askNow_34 y2_11 (E_X7_askNow_34 rec11 y2_11 y3_11) (lq2 (F_X7_askNow_34 y2_11 (E_X7_askNow_34 rec11 y2_11 y3_11)) n) y4_34 ρ34 := h
              refine g_iload (pc := 34) X 4 rfl dX7_askNow_34 ?_
              refine g_aload_n (pc := 36) X rfl 0 rfl dX7_askNow_36 ?_
              refine fX7_101 (pc := 37) X hK hR k_isMod_0 dX7_askNow_37 ?_
              refine g_icmp_ge (pc := 40) (tgt := 85) X (by decide) dX7_askNow_40 (fun c_40 => ?_) (fun c_40 => ?_)
              · have h := ite_t c_40 h
                exact g_lv (X85 ρ34 h) [0, 1, 2, 3] rfl
              · have h := ite_f c_40 h
                refine g_aload_n (pc := 43) X rfl 0 rfl dX7_askNow_43 ?_
                refine fX7_58 (pc := 44) X hK hR k_isMod_0 dX7_askNow_44 ?_
                refine g_bipush (pc := 47) X bp_100 dX7_askNow_47 ?_
                refine g_iload (pc := 49) X 4 rfl dX7_askNow_49 ?_
                refine g_imul (pc := 51) X dX7_askNow_51 ?_
                refine g_iload_n (pc := 52) X rfl 2 rfl dX7_askNow_52 ?_
                refine g_iadd (pc := 53) X dX7_askNow_53 ?_
                refine g_aload_n (pc := 54) X rfl 0 rfl dX7_askNow_54 ?_
                refine fX7_43 (pc := 55) X hK hR k_isMod_0 dX7_askNow_55 ?_
                refine g_iload (pc := 58) X 4 rfl dX7_askNow_58 ?_
                obtain ⟨h_60, h⟩ := h
                refine aX7_by (pc := 60) X hK hR k_isMod_0 h_60 dX7_askNow_60 ?_
                refine g_iconst (pc := 61) X ic_m1 dX7_askNow_61 ?_
                refine g_icmp_ne (pc := 62) (tgt := 71) X (by decide) dX7_askNow_62 (fun c_62 => ?_) (fun c_62 => ?_)
                · have h := ite_f c_62 h
                  refine g_aload_n (pc := 71) X rfl 0 rfl dX7_askNow_71 ?_
                  refine fX7_46 (pc := 72) X hK hR k_isMod_0 dX7_askNow_72 ?_
                  refine g_iload (pc := 75) X 4 rfl dX7_askNow_75 ?_
                  obtain ⟨h_77, h⟩ := h
                  refine aX7_first (pc := 77) X hK hR k_isMod_0 h_77 dX7_askNow_77 ?_
                  obtain ⟨h_78, h⟩ := h
                  refine tX7_notes (pc := 78) X hK k_isMod_0 h_78 dX7_askNow_78 (fun τ78 eτ78 => ?_)
                  have h := h τ78 eτ78
                  refine g_iinc (pc := 79) (lv' := [(4, .int (y4_34 + (1 : Int32))), (0, .ref (a 0)), (1, .int x1_6), (2, .int y2_11), (3, .int y3_11)]) X 4 rfl rfl (by decide) rfl dX7_askNow_79 ?_
                  refine g_goto (pc := 82) (tgt := 34) X (by decide) dX7_askNow_82 ?_
                  exact g_lv (ih (y4_34 + (1 : Int32)) τ78 h) [1, 2, 3, 4, 0] rfl
                · have h := ite_t c_62 h
                  refine g_sipush (pc := 65) X sp_m10000 dX7_askNow_65 ?_
                  refine g_goto (pc := 68) (tgt := 78) X (by decide) dX7_askNow_68 ?_
                  obtain ⟨h_78, h⟩ := h
                  refine tX7_notes (pc := 78) X hK k_isMod_0 h_78 dX7_askNow_78 (fun τ78_1 eτ78_1 => ?_)
                  have h := h τ78_1 eτ78_1
                  refine g_iinc (pc := 79) (lv' := [(4, .int (y4_34 + (1 : Int32))), (0, .ref (a 0)), (1, .int x1_6), (2, .int y2_11), (3, .int y3_11)]) X 4 rfl rfl (by decide) rfl dX7_askNow_79 ?_
                  refine g_goto (pc := 82) (tgt := 34) X (by decide) dX7_askNow_82 ?_
                  exact g_lv (ih (y4_34 + (1 : Int32)) τ78_1 h) [1, 2, 3, 4, 0] rfl
          exact g_lv (L34 n34 (0 : Int32) τ25 h) [1, 2, 3, 4, 0] rfl
  exact g_lv (L11 n11 (0 : Int32) (0 : Int32) σ h) [3, 2, 1, 0] rfl
end
