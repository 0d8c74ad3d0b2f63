section
variable {l : Launch} {D : va_G} {cI cZ cS : ClassId} {a : Nat → Nat} {tS tF : Nat}
set_option maxRecDepth 20000 in
theorem c_X7_type (x1 : Int32) (x2 : Int32) (σ : Sg) (K : Int32 → Sg → Prop) : ∀ sz, Met l yX7_type (.code yX7_type cX7_type 3 (some .int) :: AW) ({ frames := 2, cells := 0, slots := 0, locals := 45 } : Room) (pvM D (tyM cI) SXM (wM cI a σ) sz (w_X7_type x1 x2 σ K) [.ref (a 0), .int x1, .int x2]) (va_Qi K (atM D (tyM cI) (wM cI a) (va_A (wM cI a σ) sz)) (va_A (wM cI a σ) sz)) 0 0 (va_A (wM cI a σ) sz) := by
  intro sz
  refine met_Mi (own := "TrainNoteModel") (lv := [(0, .ref (a 0)), (1, .int x1), (2, .int x2)]) (by decide +kernel) rfl (Nat.le_of_ble_eq_true rfl) rfl ?_
  intro p e s m args below meth c A X hK hX hA hr hlk h
  have hR : ∀ σ H locs, hpM D (wM cI a) A s σ H locs → va_P D vwCl ((wM cI a σ)) H := fun _ _ _ h => h.1
  have hok := SXM_ok
  refine g_iload_n (pc := 0) X rfl 1 rfl dX7_type_0 ?_
  refine g_cS0i (pc := 1) (As := [.int x1]) X mi_X7_isTwo (c_X7_isTwo x1 _) kw4_6 ⟨rfl, rfl⟩ ⟨Nat.le_of_ble_eq_true rfl, Nat.le_of_ble_eq_true rfl⟩ rfl (Nat.le_of_ble_eq_true rfl) dX7_type_1 rfl h (fun r1 h => ?_)
  refine g_if_eq (pc := 4) (tgt := 19) X (by decide) dX7_type_4 (fun c_4 => ?_) (fun c_4 => ?_)
  · have h := ite_t c_4 h
    refine g_bipush (pc := 19) X bp_m2 dX7_type_19 ?_
    exact g_retMi (pc := 21) X hK hr hlk dX7_type_21 h
  · have h := ite_f c_4 h
    refine g_iload_n (pc := 7) X rfl 2 rfl dX7_type_7 ?_
    refine g_i2l (pc := 8) X dX7_type_8 ?_
    refine g_lconst (pc := 9) (v := 0) X rfl dX7_type_9 ?_
    refine g_ldc2 (pc := 10) X kw4_9 dX7_type_10 ?_
    refine g_cS0i (pc := 13) (As := [.long (x2).toInt64, .long (0 : Int64), .long (255 : Int64)]) X mi_X7_in (c_X7_in (x2).toInt64 (0 : Int64) (255 : Int64) _) kw3_210 ⟨rfl, rfl⟩ ⟨Nat.le_of_ble_eq_true rfl, Nat.le_of_ble_eq_true rfl⟩ rfl (Nat.le_of_ble_eq_true rfl) dX7_type_13 rfl h (fun r13 h => ?_)
    refine g_if_ne (pc := 16) (tgt := 22) X (by decide) dX7_type_16 (fun c_16 => ?_) (fun c_16 => ?_)
    · have h := ite_f c_16 h
      refine g_aload_n (pc := 22) X rfl 0 rfl dX7_type_22 ?_
      refine fX7_25 (pc := 23) X hK hR k_isMod_0 dX7_type_23 ?_
      refine g_iload_n (pc := 26) X rfl 1 rfl dX7_type_26 ?_
      obtain ⟨h_27, h⟩ := h
      refine aX7_typed (pc := 27) X hK hR k_isMod_0 h_27 dX7_type_27 ?_
      refine g_iload_n (pc := 28) X rfl 1 rfl dX7_type_28 ?_
      have J39 : ∀ (v0_39 : Int32) (v1_39 : Int32), J_X7_type_39 K σ x1 x2 v0_39 v1_39 → GMi p l e ({ frames := 2, cells := 0, slots := 0, locals := 45 } : Room) s m args below meth c K 3 D (tyM cI) (wM cI a) A 39 [(0, .ref (a 0)), (1, .int x1), (2, .int x2)] [.int v0_39, .int v1_39] σ := by
        intro v0_39 v1_39 h
        refine g_icmp_ne (pc := 39) (tgt := 45) X (by decide) dX7_type_39 (fun c_39 => ?_) (fun c_39 => ?_)
        · have h := ite_f c_39 h
          refine g_aload_n (pc := 45) X rfl 0 rfl dX7_type_45 ?_
          refine fX7_22 (pc := 46) X hK hR k_isMod_0 dX7_type_46 ?_
          refine g_bipush (pc := 49) X bp_40 dX7_type_49 ?_
          refine g_iload_n (pc := 51) X rfl 1 rfl dX7_type_51 ?_
          refine g_imul (pc := 52) X dX7_type_52 ?_
          refine g_aload_n (pc := 53) X rfl 0 rfl dX7_type_53 ?_
          refine fX7_25 (pc := 54) X hK hR k_isMod_0 dX7_type_54 ?_
          refine g_iload_n (pc := 57) X rfl 1 rfl dX7_type_57 ?_
          obtain ⟨h_58, h⟩ := h
          refine aX7_typed (pc := 58) X hK hR k_isMod_0 h_58 dX7_type_58 ?_
          refine g_iadd (pc := 59) X dX7_type_59 ?_
          refine g_iload_n (pc := 60) X rfl 2 rfl dX7_type_60 ?_
          obtain ⟨h_61, h⟩ := h
          refine tX7_bytes (pc := 61) X hK k_isMod_0 h_61 dX7_type_61 (fun τ61 eτ61 => ?_)
          have h := h τ61 eτ61
          refine g_aload_n (pc := 62) X rfl 0 rfl dX7_type_62 ?_
          refine fX7_25 (pc := 63) X hK hR k_isMod_0 dX7_type_63 ?_
          refine g_iload_n (pc := 66) X rfl 1 rfl dX7_type_66 ?_
          refine g_dup2 (pc := 67) X rfl rfl dX7_type_67 ?_
          obtain ⟨h_68, h⟩ := h
          refine aX7_typed (pc := 68) X hK hR k_isMod_0 h_68 dX7_type_68 ?_
          refine g_iconst (pc := 69) X ic_1 dX7_type_69 ?_
          refine g_iadd (pc := 70) X dX7_type_70 ?_
          obtain ⟨h_71, h⟩ := h
          refine tX7_typed (pc := 71) X hK k_isMod_0 h_71 dX7_type_71 (fun τ71 eτ71 => ?_)
          have h := h τ71 eτ71
          refine g_aload_n (pc := 72) X rfl 0 rfl dX7_type_72 ?_
          refine fX7_25 (pc := 73) X hK hR k_isMod_0 dX7_type_73 ?_
          refine g_iload_n (pc := 76) X rfl 1 rfl dX7_type_76 ?_
          obtain ⟨h_77, h⟩ := h
          refine aX7_typed (pc := 77) X hK hR k_isMod_0 h_77 dX7_type_77 ?_
          exact g_retMi (pc := 78) X hK hr hlk dX7_type_78 h
        · have h := ite_t c_39 h
          refine g_bipush (pc := 42) X bp_m4 dX7_type_42 ?_
          exact g_retMi (pc := 44) X hK hr hlk dX7_type_44 h
      refine g_if_ne (pc := 29) (tgt := 37) X (by decide) dX7_type_29 (fun c_29 => ?_) (fun c_29 => ?_)
      · have h := ite_f c_29 h
        refine g_bipush (pc := 37) X bp_24 dX7_type_37 ?_
        exact g_lv (J39 (24 : Int32) (σ 6 (x1).toNatClampNeg) h) [0, 1, 2] rfl
      · have h := ite_t c_29 h
        refine g_bipush (pc := 32) X bp_39 dX7_type_32 ?_
        refine g_goto (pc := 34) (tgt := 39) X (by decide) dX7_type_34 ?_
        exact g_lv (J39 (39 : Int32) (σ 6 (x1).toNatClampNeg) h) [0, 1, 2] rfl
    · have h := ite_t c_16 h
      refine g_bipush (pc := 19) X bp_m2 dX7_type_19 ?_
      exact g_retMi (pc := 21) X hK hr hlk dX7_type_21 h
set_option maxRecDepth 20000 in
theorem c_X7_wipe (x1 : Int32) (σ : Sg) (K : Int32 → Sg → Prop) : ∀ sz, Met l yX7_wipe (.code yX7_wipe cX7_wipe 3 (some .int) :: AW) ({ frames := 2, cells := 0, slots := 0, locals := 45 } : Room) (pvM D (tyM cI) SXM (wM cI a σ) sz (w_X7_wipe x1 σ K) [.ref (a 0), .int x1]) (va_Qi K (atM D (tyM cI) (wM cI a) (va_A (wM cI a σ) sz)) (va_A (wM cI a σ) sz)) 0 0 (va_A (wM cI a σ) sz) := by
  intro sz
  refine met_Mi (own := "TrainNoteModel") (lv := [(0, .ref (a 0)), (1, .int x1)]) (by decide +kernel) rfl (Nat.le_of_ble_eq_true rfl) rfl ?_
  intro p e s m args below meth c A X hK hX hA hr hlk h
  have hR : ∀ σ H locs, hpM D (wM cI a) A s σ H locs → va_P D vwCl ((wM cI a σ)) H := fun _ _ _ h => h.1
  have hok := SXM_ok
  refine g_iload_n (pc := 0) X rfl 1 rfl dX7_wipe_0 ?_
  refine g_cS0i (pc := 1) (As := [.int x1]) X mi_X7_isTwo (c_X7_isTwo x1 _) kw4_6 ⟨rfl, rfl⟩ ⟨Nat.le_of_ble_eq_true rfl, Nat.le_of_ble_eq_true rfl⟩ rfl (Nat.le_of_ble_eq_true rfl) dX7_wipe_1 rfl h (fun r1 h => ?_)
  refine g_if_ne (pc := 4) (tgt := 10) X (by decide) dX7_wipe_4 (fun c_4 => ?_) (fun c_4 => ?_)
  · have h := ite_f c_4 h
    refine g_aload_n (pc := 10) X rfl 0 rfl dX7_wipe_10 ?_
    refine fX7_25 (pc := 11) X hK hR k_isMod_0 dX7_wipe_11 ?_
    refine g_iload_n (pc := 14) X rfl 1 rfl dX7_wipe_14 ?_
    obtain ⟨h_15, h⟩ := h
    refine aX7_typed (pc := 15) X hK hR k_isMod_0 h_15 dX7_wipe_15 ?_
    refine g_istore_n (pc := 16) (lv' := [(2, .int (σ 6 (x1).toNatClampNeg)), (0, .ref (a 0)), (1, .int x1)]) X rfl (by decide) rfl dX7_wipe_16 ?_
    refine g_aload_n (pc := 17) X rfl 1 rfl dX7_wipe_17 ?_
    refine fX7_25 (pc := 18) X hK hR k_isMod_0 dX7_wipe_18 ?_
    refine g_iload_n (pc := 21) X rfl 2 rfl dX7_wipe_21 ?_
    refine g_iconst (pc := 22) X ic_0 dX7_wipe_22 ?_
    obtain ⟨h_23, h⟩ := h
    refine tX7_typed (pc := 23) X hK k_isMod_0 h_23 dX7_wipe_23 (fun τ23 eτ23 => ?_)
    have h := h τ23 eτ23
    refine g_iload_n (pc := 24) X rfl 0 rfl dX7_wipe_24 ?_
    exact g_retMi (pc := 25) X hK hr hlk dX7_wipe_25 h
  · have h := ite_t c_4 h
    refine g_bipush (pc := 7) X bp_m2 dX7_wipe_7 ?_
    exact g_retMi (pc := 9) X hK hr hlk dX7_wipe_9 h
set_option maxRecDepth 20000 in
theorem c_X7_undo (x1 : Int32) (σ : Sg) (K : Int32 → Sg → Prop) : ∀ sz, Met l yX7_undo (.code yX7_undo cX7_undo 2 (some .int) :: AW) ({ frames := 2, cells := 0, slots := 0, locals := 45 } : Room) (pvM D (tyM cI) SXM (wM cI a σ) sz (w_X7_undo x1 σ K) [.ref (a 0), .int x1]) (va_Qi K (atM D (tyM cI) (wM cI a) (va_A (wM cI a σ) sz)) (va_A (wM cI a σ) sz)) 0 0 (va_A (wM cI a σ) sz) := by
  intro sz
  refine met_Mi (own := "TrainNoteModel") (lv := [(0, .ref (a 0)), (1, .int x1)]) (by decide +kernel) rfl (Nat.le_of_ble_eq_true rfl) rfl ?_
  intro p e s m args below meth c A X hK hX hA hr hlk h
  have hR : ∀ σ H locs, hpM D (wM cI a) A s σ H locs → va_P D vwCl ((wM cI a σ)) H := fun _ _ _ h => h.1
  have hok := SXM_ok
  refine g_iload_n (pc := 0) X rfl 1 rfl dX7_undo_0 ?_
  refine g_cS0i (pc := 1) (As := [.int x1]) X mi_X7_isTwo (c_X7_isTwo x1 _) kw4_6 ⟨rfl, rfl⟩ ⟨Nat.le_of_ble_eq_true rfl, Nat.le_of_ble_eq_true rfl⟩ rfl (Nat.le_of_ble_eq_true rfl) dX7_undo_1 rfl h (fun r1 h => ?_)
  refine g_if_ne (pc := 4) (tgt := 10) X (by decide) dX7_undo_4 (fun c_4 => ?_) (fun c_4 => ?_)
  · have h := ite_f c_4 h
    refine g_aload_n (pc := 10) X rfl 0 rfl dX7_undo_10 ?_
    refine fX7_25 (pc := 11) X hK hR k_isMod_0 dX7_undo_11 ?_
    refine g_iload_n (pc := 14) X rfl 1 rfl dX7_undo_14 ?_
    obtain ⟨h_15, h⟩ := h
    refine aX7_typed (pc := 15) X hK hR k_isMod_0 h_15 dX7_undo_15 ?_
    refine g_if_ne (pc := 16) (tgt := 22) X (by decide) dX7_undo_16 (fun c_16 => ?_) (fun c_16 => ?_)
    · have h := ite_f c_16 h
      refine g_aload_n (pc := 22) X rfl 0 rfl dX7_undo_22 ?_
      refine fX7_25 (pc := 23) X hK hR k_isMod_0 dX7_undo_23 ?_
      refine g_iload_n (pc := 26) X rfl 1 rfl dX7_undo_26 ?_
      refine g_dup2 (pc := 27) X rfl rfl dX7_undo_27 ?_
      obtain ⟨h_28, h⟩ := h
      refine aX7_typed (pc := 28) X hK hR k_isMod_0 h_28 dX7_undo_28 ?_
      refine g_iconst (pc := 29) X ic_1 dX7_undo_29 ?_
      refine g_isub (pc := 30) X dX7_undo_30 ?_
      obtain ⟨h_31, h⟩ := h
      refine tX7_typed (pc := 31) X hK k_isMod_0 h_31 dX7_undo_31 (fun τ31 eτ31 => ?_)
      have h := h τ31 eτ31
      refine g_aload_n (pc := 32) X rfl 0 rfl dX7_undo_32 ?_
      refine fX7_25 (pc := 33) X hK hR k_isMod_0 dX7_undo_33 ?_
      refine g_iload_n (pc := 36) X rfl 1 rfl dX7_undo_36 ?_
      obtain ⟨h_37, h⟩ := h
      refine aX7_typed (pc := 37) X hK hR k_isMod_0 h_37 dX7_undo_37 ?_
      exact g_retMi (pc := 38) X hK hr hlk dX7_undo_38 h
    · have h := ite_t c_16 h
      refine g_bipush (pc := 19) X bp_m3 dX7_undo_19 ?_
      exact g_retMi (pc := 21) X hK hr hlk dX7_undo_21 h
  · have h := ite_t c_4 h
    refine g_bipush (pc := 7) X bp_m2 dX7_undo_7 ?_
    exact g_retMi (pc := 9) X hK hr hlk dX7_undo_9 h
set_option maxRecDepth 20000 in
theorem c_X7_tellsOf (x0 : Int32) (x1 : Int32) (K : Int32 → Prop) : Met l yX7_tellsOf (.code yX7_tellsOf cX7_tellsOf 2 (some .int) :: AW) ({ frames := 1, cells := 0, slots := 0, locals := 25 } : Room) (pv0 (w_X7_tellsOf x0 x1 K) [.int x0, .int x1]) (vp_Si K) 0 0 (fun _ => False) := by
  refine met_0i (own := "TrainNoteModel") (lv := [(0, .int x0), (1, .int x1)]) (fun _ _ => 0) (by decide +kernel) rfl (Nat.le_of_ble_eq_true rfl) rfl ?_
  intro p e s m args below meth c X hr hlk h
  refine g_iload_n (pc := 0) X rfl 0 rfl dX7_tellsOf_0 ?_
  refine g_iconst (pc := 1) X ic_4 dX7_tellsOf_1 ?_
  refine g_icmp_ne (pc := 2) (tgt := 18) X (by decide) dX7_tellsOf_2 (fun c_2 => ?_) (fun c_2 => ?_)
  · have h := ite_f c_2 h
    refine g_iload_n (pc := 18) X rfl 0 rfl dX7_tellsOf_18 ?_
    refine g_iconst (pc := 19) X ic_3 dX7_tellsOf_19 ?_
    refine g_icmp_ne (pc := 20) (tgt := 46) X (by decide) dX7_tellsOf_20 (fun c_20 => ?_) (fun c_20 => ?_)
    · have h := ite_f c_20 h
      refine g_iload_n (pc := 46) X rfl 1 rfl dX7_tellsOf_46 ?_
      refine g_i2l (pc := 47) X dX7_tellsOf_47 ?_
      refine g_ldc2 (pc := 48) X kw4_29 dX7_tellsOf_48 ?_
      refine g_ldc2 (pc := 51) X kw4_30 dX7_tellsOf_51 ?_
      refine g_cS0i (pc := 54) (As := [.long (x1).toInt64, .long (48 : Int64), .long (57 : Int64)]) X mi_X7_in (c_X7_in (x1).toInt64 (48 : Int64) (57 : Int64) _) kw3_210 ⟨rfl, rfl⟩ ⟨Nat.le_of_ble_eq_true rfl, Nat.le_of_ble_eq_true rfl⟩ rfl (Nat.le_of_ble_eq_true rfl) dX7_tellsOf_54 rfl h (fun r54 h => ?_)
      refine g_if_eq (pc := 57) (tgt := 67) X (by decide) dX7_tellsOf_57 (fun c_57 => ?_) (fun c_57 => ?_)
      · have h := ite_t c_57 h
        refine g_bipush (pc := 67) X bp_m9 dX7_tellsOf_67 ?_
        exact g_ret0i (pc := 69) X hr hlk dX7_tellsOf_69 h
      · have h := ite_f c_57 h
        refine g_iload_n (pc := 60) X rfl 1 rfl dX7_tellsOf_60 ?_
        refine g_bipush (pc := 61) X bp_48 dX7_tellsOf_61 ?_
        refine g_isub (pc := 63) X dX7_tellsOf_63 ?_
        refine g_goto (pc := 64) (tgt := 69) X (by decide) dX7_tellsOf_64 ?_
        exact g_ret0i (pc := 69) X hr hlk dX7_tellsOf_69 h
    · have h := ite_t c_20 h
      refine g_iload_n (pc := 23) X rfl 1 rfl dX7_tellsOf_23 ?_
      refine g_bipush (pc := 24) X bp_104 dX7_tellsOf_24 ?_
      refine g_icmp_ne (pc := 26) (tgt := 33) X (by decide) dX7_tellsOf_26 (fun c_26 => ?_) (fun c_26 => ?_)
      · have h := ite_f c_26 h
        refine g_iload_n (pc := 33) X rfl 1 rfl dX7_tellsOf_33 ?_
        refine g_bipush (pc := 34) X bp_110 dX7_tellsOf_34 ?_
        refine g_icmp_ne (pc := 36) (tgt := 43) X (by decide) dX7_tellsOf_36 (fun c_36 => ?_) (fun c_36 => ?_)
        · have h := ite_f c_36 h
          refine g_bipush (pc := 43) X bp_m9 dX7_tellsOf_43 ?_
          exact g_ret0i (pc := 45) X hr hlk dX7_tellsOf_45 h
        · have h := ite_t c_36 h
          refine g_iconst (pc := 39) X ic_0 dX7_tellsOf_39 ?_
          refine g_goto (pc := 40) (tgt := 45) X (by decide) dX7_tellsOf_40 ?_
          exact g_ret0i (pc := 45) X hr hlk dX7_tellsOf_45 h
      · have h := ite_t c_26 h
        refine g_iconst (pc := 29) X ic_1 dX7_tellsOf_29 ?_
        refine g_goto (pc := 30) (tgt := 45) X (by decide) dX7_tellsOf_30 ?_
        exact g_ret0i (pc := 45) X hr hlk dX7_tellsOf_45 h
  · have h := ite_t c_2 h
    refine g_iload_n (pc := 5) X rfl 1 rfl dX7_tellsOf_5 ?_
    refine g_bipush (pc := 6) X bp_59 dX7_tellsOf_6 ?_
    refine g_icmp_ne (pc := 8) (tgt := 15) X (by decide) dX7_tellsOf_8 (fun c_8 => ?_) (fun c_8 => ?_)
    · have h := ite_f c_8 h
      refine g_bipush (pc := 15) X bp_m9 dX7_tellsOf_15 ?_
      exact g_ret0i (pc := 17) X hr hlk dX7_tellsOf_17 h
    · have h := ite_t c_8 h
      refine g_iconst (pc := 11) X ic_0 dX7_tellsOf_11 ?_
      refine g_goto (pc := 12) (tgt := 17) X (by decide) dX7_tellsOf_12 ?_
      exact g_ret0i (pc := 17) X hr hlk dX7_tellsOf_17 h
set_option maxRecDepth 20000 in
theorem c_X7_readsSingers (σ : Sg) (K : Int32 → Sg → Prop) : ∀ sz, Met l yX7_readsSingers (.code yX7_readsSingers cX7_readsSingers 5 (some .int) :: AW) ({ frames := 2, cells := 0, slots := 0, locals := 46 } : Room) (pvM D (tyM cI) SXM (wM cI a σ) sz (w_X7_readsSingers σ K) [.ref (a 0)]) (va_Qi K (atM D (tyM cI) (wM cI a) (va_A (wM cI a σ) sz)) (va_A (wM cI a σ) sz)) 0 0 (va_A (wM cI a σ) sz) := by
  intro sz
  refine met_Mi (own := "TrainNoteModel") (lv := [(0, .ref (a 0))]) (by decide +kernel) rfl (Nat.le_of_ble_eq_true rfl) rfl ?_
  intro p e s m args below meth c A X hK hX hA hr hlk h
  have hR : ∀ σ H locs, hpM D (wM cI a) A s σ H locs → va_P D vwCl ((wM cI a σ)) H := fun _ _ _ h => h.1
  have hok := SXM_ok
  refine g_aload_n (pc := 0) X rfl 0 rfl dX7_readsSingers_0 ?_
  refine g_iconst (pc := 1) X ic_0 dX7_readsSingers_1 ?_
  refine pX7_101 (pc := 2) X hK k_isMod_0 dX7_readsSingers_2 (fun τ2 eτ2 => ?_)
  have h := h τ2 eτ2
  refine g_aload_n (pc := 5) X rfl 0 rfl dX7_readsSingers_5 ?_
  refine fX7_25 (pc := 6) X hK hR k_isMod_0 dX7_readsSingers_6 ?_
  refine g_iconst (pc := 9) X ic_0 dX7_readsSingers_9 ?_
  obtain ⟨h_10, h⟩ := h
  refine aX7_typed (pc := 10) X hK hR k_isMod_0 h_10 dX7_readsSingers_10 ?_
  refine g_topi (fun x1_11 ex1_11 => ?_)
  have h := h x1_11 ex1_11
  refine g_istore_n (pc := 11) (lv' := [(1, .int x1_11), (0, .ref (a 0))]) X rfl (by decide) rfl dX7_readsSingers_11 ?_
  refine g_iconst (pc := 12) X ic_0 dX7_readsSingers_12 ?_
  refine g_istore_n (pc := 13) (lv' := [(2, .int (0 : Int32)), (1, .int x1_11), (0, .ref (a 0))]) X rfl (by decide) rfl dX7_readsSingers_13 ?_
  obtain ⟨n14, h⟩ := h
  have X93 : ∀ (ρe93 : Sg), E_X7_readsSingers_14 x1_11 K ρe93 → GMi p l e ({ frames := 2, cells := 0, slots := 0, locals := 46 } : Room) s m args below meth c K 5 D (tyM cI) (wM cI a) A 93 [(0, .ref (a 0)), (1, .int x1_11)] [] ρe93 := by
    intro ρe93 h
    refine g_iload_n (pc := 93) X rfl 1 rfl dX7_readsSingers_93 ?_
    refine g_if_le (pc := 94) (tgt := 111) X (by decide) dX7_readsSingers_94 (fun c_94 => ?_) (fun c_94 => ?_)
    · have h := ite_t c_94 h
      refine g_iconst (pc := 111) X ic_m1 dX7_readsSingers_111 ?_
      exact g_retMi (pc := 112) X hK hr hlk dX7_readsSingers_112 h
    · have h := ite_f c_94 h
      refine g_iload_n (pc := 97) X rfl 1 rfl dX7_readsSingers_97 ?_
      refine g_iconst (pc := 98) X ic_5 dX7_readsSingers_98 ?_
      refine g_irem (pc := 99) X (by decide) dX7_readsSingers_99 ?_
      refine g_iconst (pc := 100) X ic_4 dX7_readsSingers_100 ?_
      refine g_icmp_eq (pc := 101) (tgt := 111) X (by decide) dX7_readsSingers_101 (fun c_101 => ?_) (fun c_101 => ?_)
      · have h := ite_t c_101 h
        refine g_iconst (pc := 111) X ic_m1 dX7_readsSingers_111 ?_
        exact g_retMi (pc := 112) X hK hr hlk dX7_readsSingers_112 h
      · have h := ite_f c_101 h
        refine g_aload_n (pc := 104) X rfl 0 rfl dX7_readsSingers_104 ?_
        refine g_iconst (pc := 105) X ic_0 dX7_readsSingers_105 ?_
        refine pX7_101 (pc := 106) X hK k_isMod_0 dX7_readsSingers_106 (fun τ106 eτ106 => ?_)
        have h := h τ106 eτ106
        refine g_iload_n (pc := 109) X rfl 1 rfl dX7_readsSingers_109 ?_
        exact g_retMi (pc := 110) X hK hr hlk dX7_readsSingers_110 h
  have L14 : ∀ (n : Nat) (y2_14 : Int32) (ρ14 : Sg), lq2 (F_X7_readsSingers_14 x1_11 K (E_X7_readsSingers_14 x1_11 K)) n y2_14 ρ14 → GMi p l e ({ frames := 2, cells := 0, slots := 0, locals := 46 } : Room) s m args below meth c K 5 D (tyM cI) (wM cI a) A 14 [(0, .ref (a 0)), (1, .int x1_11), (2, .int y2_14)] [] ρ14 := by
    intro n
    induction n with
    | zero =>
      intro y2_14 ρ14 h
      exact h.elim
    | succ n ih =>
      intro y2_14 ρ14 h
      have h : F_X7_readsSingers_14 x1_11 K (E_X7_readsSingers_14 x1_11 K) (lq2 (F_X7_readsSingers_14 x1_11 K (E_X7_readsSingers_14 x1_11 K)) n) y2_14 ρ14 := h
      generalize lq2 (F_X7_readsSingers_14 x1_11 K (E_X7_readsSingers_14 x1_11 K)) n = rec14 at h ih
      refine g_iload_n (pc := 14) X rfl 2 rfl dX7_readsSingers_14 ?_
      refine g_iload_n (pc := 15) X rfl 1 rfl dX7_readsSingers_15 ?_
      refine g_icmp_ge (pc := 16) (tgt := 93) X (by decide) dX7_readsSingers_16 (fun c_16 => ?_) (fun c_16 => ?_)
      · have h := ite_t c_16 h
        exact g_lv (X93 ρ14 h) [0, 1] rfl
      · have h := ite_f c_16 h
        refine g_iload_n (pc := 19) X rfl 2 rfl dX7_readsSingers_19 ?_
        refine g_iconst (pc := 20) X ic_5 dX7_readsSingers_20 ?_
        refine g_irem (pc := 21) X (by decide) dX7_readsSingers_21 ?_
        refine g_topi (fun x3_22 ex3_22 => ?_)
        have h := h x3_22 ex3_22
        refine g_istore_n (pc := 22) (lv' := [(3, .int x3_22), (0, .ref (a 0)), (1, .int x1_11), (2, .int y2_14)]) X rfl (by decide) rfl dX7_readsSingers_22 ?_
        refine g_iload_n (pc := 23) X rfl 0 rfl dX7_readsSingers_23 ?_
        refine g_aload_n (pc := 24) X rfl 1 rfl dX7_readsSingers_24 ?_
        refine fX7_22 (pc := 25) X hK hR k_isMod_0 dX7_readsSingers_25 ?_
        refine g_iload_n (pc := 28) X rfl 3 rfl dX7_readsSingers_28 ?_
        obtain ⟨h_29, h⟩ := h
        refine aX7_bytes (pc := 29) X hK hR k_isMod_0 h_29 dX7_readsSingers_29 ?_
        refine g_cS0i (pc := 30) (As := [.int x3_22, .int (ρ14 5 (y2_14).toNatClampNeg)]) X mi_X7_tellsOf (c_X7_tellsOf x3_22 (ρ14 5 (y2_14).toNatClampNeg) _) kw4_26 ⟨rfl, rfl⟩ ⟨Nat.le_of_ble_eq_true rfl, Nat.le_of_ble_eq_true rfl⟩ rfl (Nat.le_of_ble_eq_true rfl) dX7_readsSingers_30 rfl h (fun r30 h => ?_)
        refine g_istore (pc := 33) (lv' := [(4, .int r30), (3, .int x3_22), (0, .ref (a 0)), (1, .int x1_11), (2, .int y2_14)]) X (by decide) rfl dX7_readsSingers_33 ?_
        refine g_iload (pc := 35) X 0 rfl dX7_readsSingers_35 ?_
        refine g_bipush (pc := 37) X bp_m9 dX7_readsSingers_37 ?_
        refine g_icmp_ne (pc := 39) (tgt := 49) X (by decide) dX7_readsSingers_39 (fun c_39 => ?_) (fun c_39 => ?_)
        · have h := ite_f c_39 h
          refine g_iload_n (pc := 49) X rfl 1 rfl dX7_readsSingers_49 ?_
          refine g_iconst (pc := 50) X ic_4 dX7_readsSingers_50 ?_
          have J68 : ∀ (ρ68 : Sg), J_X7_readsSingers_68 x3_22 rec14 y2_14 ρ68 → GMi p l e ({ frames := 2, cells := 0, slots := 0, locals := 46 } : Room) s m args below meth c K 5 D (tyM cI) (wM cI a) A 68 [(0, .ref (a 0)), (1, .int x1_11), (2, .int y2_14), (3, .int x3_22)] [] ρ68 := by
            intro ρ68 h
            refine g_aload_n (pc := 68) X rfl 0 rfl dX7_readsSingers_68 ?_
            refine g_dup (pc := 69) X rfl dX7_readsSingers_69 ?_
            refine fX7_101 (pc := 70) X hK hR k_isMod_0 dX7_readsSingers_70 ?_
            refine g_iload_n (pc := 73) X rfl 3 rfl dX7_readsSingers_73 ?_
            refine g_iconst (pc := 74) X ic_3 dX7_readsSingers_74 ?_
            refine g_icmp_ne (pc := 75) (tgt := 82) X (by decide) dX7_readsSingers_75 (fun c_75 => ?_) (fun c_75 => ?_)
            · have h := ite_f c_75 h
              refine g_iconst (pc := 82) X ic_0 dX7_readsSingers_82 ?_
              refine g_iadd (pc := 83) X dX7_readsSingers_83 ?_
              refine pX7_101 (pc := 84) X hK k_isMod_0 dX7_readsSingers_84 (fun τ84 eτ84 => ?_)
              have h := h τ84 eτ84
              refine g_iinc (pc := 87) (lv' := [(2, .int (y2_14 + (1 : Int32))), (0, .ref (a 0)), (1, .int x1_11), (3, .int x3_22)]) X 2 rfl rfl (by decide) rfl dX7_readsSingers_87 ?_
              refine g_goto (pc := 90) (tgt := 14) X (by decide) dX7_readsSingers_90 ?_
              exact g_lv (ih (y2_14 + (1 : Int32)) τ84 h) [1, 2, 0] rfl
            · have h := ite_t c_75 h
              refine g_iconst (pc := 78) X ic_1 dX7_readsSingers_78 ?_
              refine g_goto (pc := 79) (tgt := 83) X (by decide) dX7_readsSingers_79 ?_
              refine g_iadd (pc := 83) X dX7_readsSingers_83 ?_
              refine pX7_101 (pc := 84) X hK k_isMod_0 dX7_readsSingers_84 (fun τ84_1 eτ84_1 => ?_)
              have h := h τ84_1 eτ84_1
              refine g_iinc (pc := 87) (lv' := [(2, .int (y2_14 + (1 : Int32))), (0, .ref (a 0)), (1, .int x1_11), (3, .int x3_22)]) X 2 rfl rfl (by decide) rfl dX7_readsSingers_87 ?_
              refine g_goto (pc := 90) (tgt := 14) X (by decide) dX7_readsSingers_90 ?_
              exact g_lv (ih (y2_14 + (1 : Int32)) τ84_1 h) [1, 2, 0] rfl
          refine g_icmp_ge (pc := 51) (tgt := 68) X (by decide) dX7_readsSingers_51 (fun c_51 => ?_) (fun c_51 => ?_)
          · have h := ite_t c_51 h
            exact g_lv (J68 ρ14 h) [2, 3, 4, 1] rfl
          · have h := ite_f c_51 h
            refine g_aload_n (pc := 54) X rfl 2 rfl dX7_readsSingers_54 ?_
            refine fX7_28 (pc := 55) X hK hR k_isMod_0 dX7_readsSingers_55 ?_
            refine g_iconst (pc := 58) X ic_4 dX7_readsSingers_58 ?_
            refine g_iload_n (pc := 59) X rfl 4 rfl dX7_readsSingers_59 ?_
            refine g_iconst (pc := 60) X ic_5 dX7_readsSingers_60 ?_
            refine g_idiv (pc := 61) X (by decide) dX7_readsSingers_61 ?_
            refine g_imul (pc := 62) X dX7_readsSingers_62 ?_
            refine g_iload_n (pc := 63) X rfl 1 rfl dX7_readsSingers_63 ?_
            refine g_iadd (pc := 64) X dX7_readsSingers_64 ?_
            refine g_iload (pc := 65) X 0 rfl dX7_readsSingers_65 ?_
            obtain ⟨h_67, h⟩ := h
            refine tX7_singer (pc := 67) X hK k_isMod_0 h_67 dX7_readsSingers_67 (fun τ67 eτ67 => ?_)
            have h := h τ67 eτ67
            exact g_lv (J68 τ67 h) [2, 3, 4, 1] rfl
        · have h := ite_t c_39 h
          refine g_aload_n (pc := 42) X rfl 2 rfl dX7_readsSingers_42 ?_
          refine g_iconst (pc := 43) X ic_0 dX7_readsSingers_43 ?_
          refine pX7_101 (pc := 44) X hK k_isMod_0 dX7_readsSingers_44 (fun τ44 eτ44 => ?_)
          have h := h τ44 eτ44
          refine g_iload_n (pc := 47) X rfl 4 rfl dX7_readsSingers_47 ?_
          exact g_retMi (pc := 48) X hK hr hlk dX7_readsSingers_48 h
  exact g_lv (L14 n14 (0 : Int32) τ2 h) [2, 1, 0] rfl
set_option maxRecDepth 20000 in
theorem c_X7_readsBars (σ : Sg) (K : Int32 → Sg → Prop) : ∀ sz, Met l yX7_readsBars (.code yX7_readsBars cX7_readsBars 4 (some .int) :: AW) ({ frames := 0, cells := 0, slots := 0, locals := 0 } : Room) (pvM D (tyM cI) SXM (wM cI a σ) sz (w_X7_readsBars σ K) [.ref (a 0)]) (va_Qi K (atM D (tyM cI) (wM cI a) (va_A (wM cI a σ) sz)) (va_A (wM cI a σ) sz)) 0 0 (va_A (wM cI a σ) sz) := by
  intro sz
  refine met_Mi (own := "TrainNoteModel") (lv := [(0, .ref (a 0))]) (by decide +kernel) rfl (Nat.le_of_ble_eq_true rfl) rfl ?_
  intro p e s m args below meth c A X hK hX hA hr hlk h
  have hR : ∀ σ H locs, hpM D (wM cI a) A s σ H locs → va_P D vwCl ((wM cI a σ)) H := fun _ _ _ h => h.1
  have hok := SXM_ok
  refine g_aload_n (pc := 0) X rfl 0 rfl dX7_readsBars_0 ?_
  refine g_iconst (pc := 1) X ic_0 dX7_readsBars_1 ?_
  refine pX7_107 (pc := 2) X hK k_isMod_0 dX7_readsBars_2 (fun τ2 eτ2 => ?_)
  have h := h τ2 eτ2
  refine g_iconst (pc := 5) X ic_0 dX7_readsBars_5 ?_
  refine g_istore_n (pc := 6) (lv' := [(1, .int (0 : Int32)), (0, .ref (a 0))]) X rfl (by decide) rfl dX7_readsBars_6 ?_
  obtain ⟨n7, h⟩ := h
  have X96 : ∀ (ρe96 : Sg), E_X7_readsBars_7 K ρe96 → GMi p l e ({ frames := 0, cells := 0, slots := 0, locals := 0 } : Room) s m args below meth c K 4 D (tyM cI) (wM cI a) A 96 [] [] ρe96 := by
    intro ρe96 h
    refine g_iconst (pc := 96) X ic_m1 dX7_readsBars_96 ?_
    exact g_retMi (pc := 97) X hK hr hlk dX7_readsBars_97 h
  have L7 : ∀ (n : Nat) (y1_7 : Int32) (ρ7 : Sg), lq2 (F_X7_readsBars_7 K (E_X7_readsBars_7 K)) n y1_7 ρ7 → GMi p l e ({ frames := 0, cells := 0, slots := 0, locals := 0 } : Room) s m args below meth c K 4 D (tyM cI) (wM cI a) A 7 [(0, .ref (a 0)), (1, .int y1_7)] [] ρ7 := by
    intro n
    induction n with
    | zero =>
      intro y1_7 ρ7 h
      exact h.elim
    | succ n ih =>
      intro y1_7 ρ7 h
      have h : F_X7_readsBars_7 K (E_X7_readsBars_7 K) (lq2 (F_X7_readsBars_7 K (E_X7_readsBars_7 K)) n) y1_7 ρ7 := h
      generalize lq2 (F_X7_readsBars_7 K (E_X7_readsBars_7 K)) n = rec7 at h ih
      refine g_iload_n (pc := 7) X rfl 1 rfl dX7_readsBars_7 ?_
      refine g_aload_n (pc := 8) X rfl 0 rfl dX7_readsBars_8 ?_
      refine fX7_25 (pc := 9) X hK hR k_isMod_0 dX7_readsBars_9 ?_
      refine g_iconst (pc := 12) X ic_1 dX7_readsBars_12 ?_
      obtain ⟨h_13, h⟩ := h
      refine aX7_typed (pc := 13) X hK hR k_isMod_0 h_13 dX7_readsBars_13 ?_
      refine g_icmp_ge (pc := 14) (tgt := 96) X (by decide) dX7_readsBars_14 (fun c_14 => ?_) (fun c_14 => ?_)
      · have h := ite_t c_14 h
        exact g_lv (X96 ρ7 h) [] rfl
      · have h := ite_f c_14 h
        refine g_aload_n (pc := 17) X rfl 0 rfl dX7_readsBars_17 ?_
        refine fX7_22 (pc := 18) X hK hR k_isMod_0 dX7_readsBars_18 ?_
        refine g_bipush (pc := 21) X bp_40 dX7_readsBars_21 ?_
        refine g_iload_n (pc := 23) X rfl 1 rfl dX7_readsBars_23 ?_
        refine g_iadd (pc := 24) X dX7_readsBars_24 ?_
        obtain ⟨h_25, h⟩ := h
        refine aX7_bytes (pc := 25) X hK hR k_isMod_0 h_25 dX7_readsBars_25 ?_
        refine g_topi (fun x2_26 ex2_26 => ?_)
        have h := h x2_26 ex2_26
        refine g_istore_n (pc := 26) (lv' := [(2, .int x2_26), (0, .ref (a 0)), (1, .int y1_7)]) X rfl (by decide) rfl dX7_readsBars_26 ?_
        refine g_iload_n (pc := 27) X rfl 0 rfl dX7_readsBars_27 ?_
        refine g_bipush (pc := 28) X bp_115 dX7_readsBars_28 ?_
        have J59 : ∀ (v0_59 : Int32), J_X7_readsBars_59 ρ7 K y1_7 rec7 v0_59 → GMi p l e ({ frames := 0, cells := 0, slots := 0, locals := 0 } : Room) s m args below meth c K 4 D (tyM cI) (wM cI a) A 59 [(0, .ref (a 0)), (1, .int y1_7)] [.int v0_59] ρ7 := by
          intro v0_59 h
          refine g_istore_n (pc := 59) (lv' := [(3, .int v0_59), (0, .ref (a 0)), (1, .int y1_7)]) X rfl (by decide) rfl dX7_readsBars_59 ?_
          refine g_iload_n (pc := 60) X rfl 0 rfl dX7_readsBars_60 ?_
          refine g_bipush (pc := 61) X bp_m9 dX7_readsBars_61 ?_
          refine g_icmp_ne (pc := 63) (tgt := 73) X (by decide) dX7_readsBars_63 (fun c_63 => ?_) (fun c_63 => ?_)
          · have h := ite_f c_63 h
            refine g_aload_n (pc := 73) X rfl 1 rfl dX7_readsBars_73 ?_
            refine fX7_31 (pc := 74) X hK hR k_isMod_0 dX7_readsBars_74 ?_
            refine g_iload_n (pc := 77) X rfl 2 rfl dX7_readsBars_77 ?_
            refine g_iload_n (pc := 78) X rfl 0 rfl dX7_readsBars_78 ?_
            obtain ⟨h_79, h⟩ := h
            refine tX7_bar (pc := 79) X hK k_isMod_0 h_79 dX7_readsBars_79 (fun τ79 eτ79 => ?_)
            have h := h τ79 eτ79
            refine g_aload_n (pc := 80) X rfl 1 rfl dX7_readsBars_80 ?_
            refine g_dup (pc := 81) X rfl dX7_readsBars_81 ?_
            refine fX7_107 (pc := 82) X hK hR k_isMod_0 dX7_readsBars_82 ?_
            refine g_iconst (pc := 85) X ic_1 dX7_readsBars_85 ?_
            refine g_iadd (pc := 86) X dX7_readsBars_86 ?_
            refine pX7_107 (pc := 87) X hK k_isMod_0 dX7_readsBars_87 (fun τ87 eτ87 => ?_)
            have h := h τ87 eτ87
            refine g_iinc (pc := 90) (lv' := [(1, .int (y1_7 + (1 : Int32))), (3, .int v0_59), (0, .ref (a 0))]) X 2 rfl rfl (by decide) rfl dX7_readsBars_90 ?_
            refine g_goto (pc := 93) (tgt := 7) X (by decide) dX7_readsBars_93 ?_
            exact g_lv (ih (y1_7 + (1 : Int32)) τ87 h) [2, 0] rfl
          · have h := ite_t c_63 h
            refine g_aload_n (pc := 66) X rfl 1 rfl dX7_readsBars_66 ?_
            refine g_iconst (pc := 67) X ic_0 dX7_readsBars_67 ?_
            refine pX7_107 (pc := 68) X hK k_isMod_0 dX7_readsBars_68 (fun τ68 eτ68 => ?_)
            have h := h τ68 eτ68
            refine g_iload_n (pc := 71) X rfl 2 rfl dX7_readsBars_71 ?_
            exact g_retMi (pc := 72) X hK hr hlk dX7_readsBars_72 h
        refine g_icmp_ne (pc := 30) (tgt := 37) X (by decide) dX7_readsBars_30 (fun c_30 => ?_) (fun c_30 => ?_)
        · have h := ite_f c_30 h
          refine g_iload_n (pc := 37) X rfl 0 rfl dX7_readsBars_37 ?_
          refine g_bipush (pc := 38) X bp_114 dX7_readsBars_38 ?_
          refine g_icmp_ne (pc := 40) (tgt := 47) X (by decide) dX7_readsBars_40 (fun c_40 => ?_) (fun c_40 => ?_)
          · have h := ite_f c_40 h
            refine g_iload_n (pc := 47) X rfl 0 rfl dX7_readsBars_47 ?_
            refine g_bipush (pc := 48) X bp_101 dX7_readsBars_48 ?_
            refine g_icmp_ne (pc := 50) (tgt := 57) X (by decide) dX7_readsBars_50 (fun c_50 => ?_) (fun c_50 => ?_)
            · have h := ite_f c_50 h
              refine g_bipush (pc := 57) X bp_m9 dX7_readsBars_57 ?_
              exact g_lv (J59 (-9 : Int32) h) [1, 2] rfl
            · have h := ite_t c_50 h
              refine g_iconst (pc := 53) X ic_2 dX7_readsBars_53 ?_
              refine g_goto (pc := 54) (tgt := 59) X (by decide) dX7_readsBars_54 ?_
              exact g_lv (J59 (2 : Int32) h) [1, 2] rfl
          · have h := ite_t c_40 h
            refine g_iconst (pc := 43) X ic_1 dX7_readsBars_43 ?_
            refine g_goto (pc := 44) (tgt := 59) X (by decide) dX7_readsBars_44 ?_
            exact g_lv (J59 (1 : Int32) h) [1, 2] rfl
        · have h := ite_t c_30 h
          refine g_iconst (pc := 33) X ic_0 dX7_readsBars_33 ?_
          refine g_goto (pc := 34) (tgt := 59) X (by decide) dX7_readsBars_34 ?_
          exact g_lv (J59 (0 : Int32) h) [1, 2] rfl
  exact g_lv (L7 n7 (0 : Int32) τ2 h) [1, 0] rfl
set_option maxRecDepth 20000 in
theorem c_X7_fault (x1 : Int32) (σ : Sg) (K : Int32 → Sg → Prop) : ∀ sz, Met l yX7_fault (.code yX7_fault cX7_fault 2 (some .int) :: AW) ({ frames := 3, cells := 0, slots := 0, locals := 70 } : Room) (pvM D (tyM cI) SXM (wM cI a σ) sz (w_X7_fault x1 σ K) [.ref (a 0), .int x1]) (va_Qi K (atM D (tyM cI) (wM cI a) (va_A (wM cI a σ) sz)) (va_A (wM cI a σ) sz)) 0 0 (va_A (wM cI a σ) sz) := by
  intro sz
  refine met_Mi (own := "TrainNoteModel") (lv := [(0, .ref (a 0)), (1, .int x1)]) (by decide +kernel) rfl (Nat.le_of_ble_eq_true rfl) rfl ?_
  intro p e s m args below meth c A X hK hX hA hr hlk h
  have hR : ∀ σ H locs, hpM D (wM cI a) A s σ H locs → va_P D vwCl ((wM cI a σ)) H := fun _ _ _ h => h.1
  have hok := SXM_ok
  refine g_iload_n (pc := 0) X rfl 1 rfl dX7_fault_0 ?_
  refine g_cS0i (pc := 1) (As := [.int x1]) X mi_X7_isTwo (c_X7_isTwo x1 _) kw4_6 ⟨rfl, rfl⟩ ⟨Nat.le_of_ble_eq_true rfl, Nat.le_of_ble_eq_true rfl⟩ rfl (Nat.le_of_ble_eq_true rfl) dX7_fault_1 rfl h (fun r1 h => ?_)
  refine g_if_ne (pc := 4) (tgt := 12) X (by decide) dX7_fault_4 (fun c_4 => ?_) (fun c_4 => ?_)
  · have h := ite_f c_4 h
    refine g_iload_n (pc := 12) X rfl 1 rfl dX7_fault_12 ?_
    refine g_if_ne (pc := 13) (tgt := 23) X (by decide) dX7_fault_13 (fun c_13 => ?_) (fun c_13 => ?_)
    · have h := ite_f c_13 h
      refine g_aload_n (pc := 23) X rfl 0 rfl dX7_fault_23 ?_
      refine g_cVMi (pc := 24) (As := []) X hK hX hok hA mi_X7_readsBars (c_X7_readsBars  σ _) (fun _ => ⟨_, wl_ate (oX7 (cI := cI) (a := a) k_isMod_0).1 ((oX7 (cI := cI) (a := a) k_isMod_0).2 _)⟩) rfl rfl kw4_31 ⟨rfl, rfl⟩ ⟨Nat.le_of_ble_eq_true rfl, Nat.le_of_ble_eq_true rfl⟩ rfl (Nat.le_of_ble_eq_true rfl) dX7_fault_24 rfl h (fun r24 τ24 h => ?_)
      exact g_retMi (pc := 27) X hK hr hlk dX7_fault_27 h
    · have h := ite_t c_13 h
      refine g_aload_n (pc := 16) X rfl 0 rfl dX7_fault_16 ?_
      refine g_cVMi (pc := 17) (As := []) X hK hX hok hA mi_X7_readsSingers (c_X7_readsSingers  σ _) (fun _ => ⟨_, wl_ate (oX7 (cI := cI) (a := a) k_isMod_0).1 ((oX7 (cI := cI) (a := a) k_isMod_0).2 _)⟩) rfl rfl kw4_22 ⟨rfl, rfl⟩ ⟨Nat.le_of_ble_eq_true rfl, Nat.le_of_ble_eq_true rfl⟩ rfl (Nat.le_of_ble_eq_true rfl) dX7_fault_17 rfl h (fun r17 τ17 h => ?_)
      refine g_goto (pc := 20) (tgt := 27) X (by decide) dX7_fault_20 ?_
      exact g_retMi (pc := 27) X hK hr hlk dX7_fault_27 h
  · have h := ite_t c_4 h
    refine g_bipush (pc := 7) X bp_m2 dX7_fault_7 ?_
    refine g_goto (pc := 9) (tgt := 27) X (by decide) dX7_fault_9 ?_
    exact g_retMi (pc := 27) X hK hr hlk dX7_fault_27 h
set_option maxRecDepth 20000 in
theorem c_X7_isSinger (x1 : Int32) (σ : Sg) (K : Int32 → Prop) : Met l yX7_isSinger (.code yX7_isSinger cX7_isSinger 2 (some .boolean) :: AW) ({ frames := 1, cells := 0, slots := 0, locals := 25 } : Room) (pvP D (tyM cI) (wM cI a σ) (w_X7_isSinger x1 σ K) [.ref (a 0), .int x1]) (vp_Si K) 0 0 (fun _ => False) := by
  refine met_Pi (own := "TrainNoteModel") (lv := [(0, .ref (a 0)), (1, .int x1)]) (by decide +kernel) rfl (Nat.le_of_ble_eq_true rfl) rfl ?_
  intro p e s m args below meth c X hK hr hlk h
  have hR : ∀ σ H locs, hpP D (wM cI a) s σ H locs → va_P D vwCl ((wM cI a σ)) H := fun _ _ _ h => h.1
  refine g_iload_n (pc := 0) X rfl 1 rfl dX7_isSinger_0 ?_
  refine g_i2l (pc := 1) X dX7_isSinger_1 ?_
  refine g_lconst (pc := 2) (v := 0) X rfl dX7_isSinger_2 ?_
  refine g_aload_n (pc := 3) X rfl 0 rfl dX7_isSinger_3 ?_
  refine fX7_101 (pc := 4) X hK hR k_isMod_0 dX7_isSinger_4 ?_
  refine g_iconst (pc := 7) X ic_1 dX7_isSinger_7 ?_
  refine g_isub (pc := 8) X dX7_isSinger_8 ?_
  refine g_i2l (pc := 9) X dX7_isSinger_9 ?_
  refine g_cS0i (pc := 10) (As := [.long (x1).toInt64, .long (0 : Int64), .long (((σ 0 7) - (1 : Int32))).toInt64]) X mi_X7_in (c_X7_in (x1).toInt64 (0 : Int64) (((σ 0 7) - (1 : Int32))).toInt64 _) kw3_210 ⟨rfl, rfl⟩ ⟨Nat.le_of_ble_eq_true rfl, Nat.le_of_ble_eq_true rfl⟩ rfl (Nat.le_of_ble_eq_true rfl) dX7_isSinger_10 rfl h (fun r10 h => ?_)
  exact g_retPz (pc := 13) X hr hlk dX7_isSinger_13 h.1 h.2
set_option maxRecDepth 20000 in
theorem c_X7_isBar (x1 : Int32) (σ : Sg) (K : Int32 → Prop) : Met l yX7_isBar (.code yX7_isBar cX7_isBar 2 (some .boolean) :: AW) ({ frames := 1, cells := 0, slots := 0, locals := 25 } : Room) (pvP D (tyM cI) (wM cI a σ) (w_X7_isBar x1 σ K) [.ref (a 0), .int x1]) (vp_Si K) 0 0 (fun _ => False) := by
  refine met_Pi (own := "TrainNoteModel") (lv := [(0, .ref (a 0)), (1, .int x1)]) (by decide +kernel) rfl (Nat.le_of_ble_eq_true rfl) rfl ?_
  intro p e s m args below meth c X hK hr hlk h
  have hR : ∀ σ H locs, hpP D (wM cI a) s σ H locs → va_P D vwCl ((wM cI a σ)) H := fun _ _ _ h => h.1
  refine g_iload_n (pc := 0) X rfl 1 rfl dX7_isBar_0 ?_
  refine g_i2l (pc := 1) X dX7_isBar_1 ?_
  refine g_lconst (pc := 2) (v := 0) X rfl dX7_isBar_2 ?_
  refine g_aload_n (pc := 3) X rfl 0 rfl dX7_isBar_3 ?_
  refine fX7_107 (pc := 4) X hK hR k_isMod_0 dX7_isBar_4 ?_
  refine g_iconst (pc := 7) X ic_1 dX7_isBar_7 ?_
  refine g_isub (pc := 8) X dX7_isBar_8 ?_
  refine g_i2l (pc := 9) X dX7_isBar_9 ?_
  refine g_cS0i (pc := 10) (As := [.long (x1).toInt64, .long (0 : Int64), .long (((σ 0 9) - (1 : Int32))).toInt64]) X mi_X7_in (c_X7_in (x1).toInt64 (0 : Int64) (((σ 0 9) - (1 : Int32))).toInt64 _) kw3_210 ⟨rfl, rfl⟩ ⟨Nat.le_of_ble_eq_true rfl, Nat.le_of_ble_eq_true rfl⟩ rfl (Nat.le_of_ble_eq_true rfl) dX7_isBar_10 rfl h (fun r10 h => ?_)
  exact g_retPz (pc := 13) X hr hlk dX7_isBar_13 h.1 h.2
set_option maxRecDepth 20000 in
theorem c_X7_singer (x1 : Int32) (x2 : Int32) (σ : Sg) (K : Int32 → Sg → Prop) : ∀ sz, Met l yX7_singer (.code yX7_singer cX7_singer 3 (some .int) :: AW) ({ frames := 3, cells := 0, slots := 0, locals := 70 } : Room) (pvM D (tyM cI) SXM (wM cI a σ) sz (w_X7_singer x1 x2 σ K) [.ref (a 0), .int x1, .int x2]) (va_Qi K (atM D (tyM cI) (wM cI a) (va_A (wM cI a σ) sz)) (va_A (wM cI a σ) sz)) 0 0 (va_A (wM cI a σ) sz) := by
  intro sz
  refine met_Mi (own := "TrainNoteModel") (lv := [(0, .ref (a 0)), (1, .int x1), (2, .int x2)]) (by decide +kernel) rfl (Nat.le_of_ble_eq_true rfl) rfl ?_
  intro p e s m args below meth c A X hK hX hA hr hlk h
  have hR : ∀ σ H locs, hpM D (wM cI a) A s σ H locs → va_P D vwCl ((wM cI a σ)) H := fun _ _ _ h => h.1
  have hok := SXM_ok
  refine g_aload_n (pc := 0) X rfl 0 rfl dX7_singer_0 ?_
  refine g_cVMi (pc := 1) (As := []) X hK hX hok hA mi_X7_readsSingers (c_X7_readsSingers  σ _) (fun _ => ⟨_, wl_ate (oX7 (cI := cI) (a := a) k_isMod_0).1 ((oX7 (cI := cI) (a := a) k_isMod_0).2 _)⟩) rfl rfl kw4_22 ⟨rfl, rfl⟩ ⟨Nat.le_of_ble_eq_true rfl, Nat.le_of_ble_eq_true rfl⟩ rfl (Nat.le_of_ble_eq_true rfl) dX7_singer_1 rfl h (fun r1 τ1 h => ?_)
  refine g_pop (pc := 4) X rfl dX7_singer_4 ?_
  refine g_aload_n (pc := 5) X rfl 0 rfl dX7_singer_5 ?_
  refine g_iload_n (pc := 6) X rfl 1 rfl dX7_singer_6 ?_
  refine g_cVPi (pc := 7) (As := [.int x1]) X hK hR mi_X7_isSinger (c_X7_isSinger x1 τ1 _) (wl_ate (oX7 (cI := cI) (a := a) k_isMod_0).1 ((oX7 (cI := cI) (a := a) k_isMod_0).2 _)) rfl rfl kw4_39 ⟨rfl, rfl⟩ ⟨Nat.le_of_ble_eq_true rfl, Nat.le_of_ble_eq_true rfl⟩ rfl (Nat.le_of_ble_eq_true rfl) dX7_singer_7 rfl h (fun r7 h => ?_)
  refine g_if_eq (pc := 10) (tgt := 38) X (by decide) dX7_singer_10 (fun c_10 => ?_) (fun c_10 => ?_)
  · have h := ite_t c_10 h
    refine g_bipush (pc := 38) X bp_m2 dX7_singer_38 ?_
    exact g_retMi (pc := 40) X hK hr hlk dX7_singer_40 h
  · have h := ite_f c_10 h
    refine g_iload_n (pc := 13) X rfl 2 rfl dX7_singer_13 ?_
    refine g_i2l (pc := 14) X dX7_singer_14 ?_
    refine g_lconst (pc := 15) (v := 0) X rfl dX7_singer_15 ?_
    refine g_ldc2 (pc := 16) X kw3_209 dX7_singer_16 ?_
    refine g_cS0i (pc := 19) (As := [.long (x2).toInt64, .long (0 : Int64), .long (3 : Int64)]) X mi_X7_in (c_X7_in (x2).toInt64 (0 : Int64) (3 : Int64) _) kw3_210 ⟨rfl, rfl⟩ ⟨Nat.le_of_ble_eq_true rfl, Nat.le_of_ble_eq_true rfl⟩ rfl (Nat.le_of_ble_eq_true rfl) dX7_singer_19 rfl h (fun r19 h => ?_)
    refine g_if_eq (pc := 22) (tgt := 38) X (by decide) dX7_singer_22 (fun c_22 => ?_) (fun c_22 => ?_)
    · have h := ite_t c_22 h
      refine g_bipush (pc := 38) X bp_m2 dX7_singer_38 ?_
      exact g_retMi (pc := 40) X hK hr hlk dX7_singer_40 h
    · have h := ite_f c_22 h
      refine g_aload_n (pc := 25) X rfl 0 rfl dX7_singer_25 ?_
      refine fX7_28 (pc := 26) X hK hR k_isMod_0 dX7_singer_26 ?_
      refine g_iconst (pc := 29) X ic_4 dX7_singer_29 ?_
      refine g_iload_n (pc := 30) X rfl 1 rfl dX7_singer_30 ?_
      refine g_imul (pc := 31) X dX7_singer_31 ?_
      refine g_iload_n (pc := 32) X rfl 2 rfl dX7_singer_32 ?_
      refine g_iadd (pc := 33) X dX7_singer_33 ?_
      obtain ⟨h_34, h⟩ := h
      refine aX7_singer (pc := 34) X hK hR k_isMod_0 h_34 dX7_singer_34 ?_
      refine g_goto (pc := 35) (tgt := 40) X (by decide) dX7_singer_35 ?_
      exact g_retMi (pc := 40) X hK hr hlk dX7_singer_40 h
set_option maxRecDepth 20000 in
theorem c_X7_bar (x1 : Int32) (σ : Sg) (K : Int32 → Sg → Prop) : ∀ sz, Met l yX7_bar (.code yX7_bar cX7_bar 2 (some .int) :: AW) ({ frames := 1, cells := 0, slots := 0, locals := 25 } : Room) (pvM D (tyM cI) SXM (wM cI a σ) sz (w_X7_bar x1 σ K) [.ref (a 0), .int x1]) (va_Qi K (atM D (tyM cI) (wM cI a) (va_A (wM cI a σ) sz)) (va_A (wM cI a σ) sz)) 0 0 (va_A (wM cI a σ) sz) := by
  intro sz
  refine met_Mi (own := "TrainNoteModel") (lv := [(0, .ref (a 0)), (1, .int x1)]) (by decide +kernel) rfl (Nat.le_of_ble_eq_true rfl) rfl ?_
  intro p e s m args below meth c A X hK hX hA hr hlk h
  have hR : ∀ σ H locs, hpM D (wM cI a) A s σ H locs → va_P D vwCl ((wM cI a σ)) H := fun _ _ _ h => h.1
  have hok := SXM_ok
  refine g_aload_n (pc := 0) X rfl 0 rfl dX7_bar_0 ?_
  refine g_cVMi (pc := 1) (As := []) X hK hX hok hA mi_X7_readsBars (c_X7_readsBars  σ _) (fun _ => ⟨_, wl_ate (oX7 (cI := cI) (a := a) k_isMod_0).1 ((oX7 (cI := cI) (a := a) k_isMod_0).2 _)⟩) rfl rfl kw4_31 ⟨rfl, rfl⟩ ⟨Nat.le_of_ble_eq_true rfl, Nat.le_of_ble_eq_true rfl⟩ rfl (Nat.le_of_ble_eq_true rfl) dX7_bar_1 rfl h (fun r1 τ1 h => ?_)
  refine g_pop (pc := 4) X rfl dX7_bar_4 ?_
  refine g_iload_n (pc := 5) X rfl 1 rfl dX7_bar_5 ?_
  refine g_i2l (pc := 6) X dX7_bar_6 ?_
  refine g_lconst (pc := 7) (v := 0) X rfl dX7_bar_7 ?_
  refine g_ldc2 (pc := 8) X kw4_47 dX7_bar_8 ?_
  refine g_cS0i (pc := 11) (As := [.long (x1).toInt64, .long (0 : Int64), .long (23 : Int64)]) X mi_X7_in (c_X7_in (x1).toInt64 (0 : Int64) (23 : Int64) _) kw3_210 ⟨rfl, rfl⟩ ⟨Nat.le_of_ble_eq_true rfl, Nat.le_of_ble_eq_true rfl⟩ rfl (Nat.le_of_ble_eq_true rfl) dX7_bar_11 rfl h (fun r11 h => ?_)
  refine g_if_ne (pc := 14) (tgt := 22) X (by decide) dX7_bar_14 (fun c_14 => ?_) (fun c_14 => ?_)
  · have h := ite_f c_14 h
    refine g_iload_n (pc := 22) X rfl 1 rfl dX7_bar_22 ?_
    refine g_aload_n (pc := 23) X rfl 0 rfl dX7_bar_23 ?_
    refine fX7_107 (pc := 24) X hK hR k_isMod_0 dX7_bar_24 ?_
    refine g_icmp_ge (pc := 27) (tgt := 39) X (by decide) dX7_bar_27 (fun c_27 => ?_) (fun c_27 => ?_)
    · have h := ite_t c_27 h
      refine g_iconst (pc := 39) X ic_m1 dX7_bar_39 ?_
      exact g_retMi (pc := 40) X hK hr hlk dX7_bar_40 h
    · have h := ite_f c_27 h
      refine g_aload_n (pc := 30) X rfl 0 rfl dX7_bar_30 ?_
      refine fX7_31 (pc := 31) X hK hR k_isMod_0 dX7_bar_31 ?_
      refine g_iload_n (pc := 34) X rfl 1 rfl dX7_bar_34 ?_
      obtain ⟨h_35, h⟩ := h
      refine aX7_bar (pc := 35) X hK hR k_isMod_0 h_35 dX7_bar_35 ?_
      refine g_goto (pc := 36) (tgt := 40) X (by decide) dX7_bar_36 ?_
      exact g_retMi (pc := 40) X hK hr hlk dX7_bar_40 h
  · have h := ite_t c_14 h
    refine g_bipush (pc := 17) X bp_m2 dX7_bar_17 ?_
    refine g_goto (pc := 19) (tgt := 40) X (by decide) dX7_bar_19 ?_
    exact g_retMi (pc := 40) X hK hr hlk dX7_bar_40 h
set_option maxRecDepth 20000 in
theorem c_X7_set (x1 : Int32) (x2 : Int32) (σ : Sg) (K : Int32 → Sg → Prop) : ∀ sz, Met l yX7_set (.code yX7_set cX7_set 4 (some .int) :: AW) ({ frames := 1, cells := 0, slots := 0, locals := 25 } : Room) (pvM D (tyM cI) SXM (wM cI a σ) sz (w_X7_set x1 x2 σ K) [.ref (a 0), .int x1, .int x2]) (va_Qi K (atM D (tyM cI) (wM cI a) (va_A (wM cI a σ) sz)) (va_A (wM cI a σ) sz)) 0 0 (va_A (wM cI a σ) sz) := by
  intro sz
  refine met_Mi (own := "TrainNoteModel") (lv := [(0, .ref (a 0)), (1, .int x1), (2, .int x2)]) (by decide +kernel) rfl (Nat.le_of_ble_eq_true rfl) rfl ?_
  intro p e s m args below meth c A X hK hX hA hr hlk h
  have hR : ∀ σ H locs, hpM D (wM cI a) A s σ H locs → va_P D vwCl ((wM cI a σ)) H := fun _ _ _ h => h.1
  have hok := SXM_ok
  refine g_iload_n (pc := 0) X rfl 1 rfl dX7_set_0 ?_
  refine g_i2l (pc := 1) X dX7_set_1 ?_
  refine g_lconst (pc := 2) (v := 0) X rfl dX7_set_2 ?_
  refine g_ldc2 (pc := 3) X kw3_209 dX7_set_3 ?_
  refine g_cS0i (pc := 6) (As := [.long (x1).toInt64, .long (0 : Int64), .long (3 : Int64)]) X mi_X7_in (c_X7_in (x1).toInt64 (0 : Int64) (3 : Int64) _) kw3_210 ⟨rfl, rfl⟩ ⟨Nat.le_of_ble_eq_true rfl, Nat.le_of_ble_eq_true rfl⟩ rfl (Nat.le_of_ble_eq_true rfl) dX7_set_6 rfl h (fun r6 h => ?_)
  refine g_if_eq (pc := 9) (tgt := 46) X (by decide) dX7_set_9 (fun c_9 => ?_) (fun c_9 => ?_)
  · have h := ite_t c_9 h
    refine g_bipush (pc := 46) X bp_m2 dX7_set_46 ?_
    exact g_retMi (pc := 48) X hK hr hlk dX7_set_48 h
  · have h := ite_f c_9 h
    refine g_iload_n (pc := 12) X rfl 2 rfl dX7_set_12 ?_
    refine g_i2l (pc := 13) X dX7_set_13 ?_
    refine g_lconst (pc := 14) (v := 0) X rfl dX7_set_14 ?_
    refine g_iload_n (pc := 15) X rfl 1 rfl dX7_set_15 ?_
    refine g_iconst (pc := 16) X ic_1 dX7_set_16 ?_
    have J40 : ∀ (v0_40 : Int64) (v1_40 : Int64) (v2_40 : Int64), J_X7_set_40 K σ x1 x2 v0_40 v1_40 v2_40 → GMi p l e ({ frames := 1, cells := 0, slots := 0, locals := 25 } : Room) s m args below meth c K 4 D (tyM cI) (wM cI a) A 40 [(0, .ref (a 0)), (1, .int x1), (2, .int x2)] [.long v0_40, .long v1_40, .long v2_40] σ := by
      intro v0_40 v1_40 v2_40 h
      refine g_cS0i (pc := 40) (As := [.long v2_40, .long v1_40, .long v0_40]) X mi_X7_in (c_X7_in v2_40 v1_40 v0_40 _) kw3_210 ⟨rfl, rfl⟩ ⟨Nat.le_of_ble_eq_true rfl, Nat.le_of_ble_eq_true rfl⟩ rfl (Nat.le_of_ble_eq_true rfl) dX7_set_40 rfl h (fun r40 h => ?_)
      refine g_if_ne (pc := 43) (tgt := 49) X (by decide) dX7_set_43 (fun c_43 => ?_) (fun c_43 => ?_)
      · have h := ite_f c_43 h
        refine g_aload_n (pc := 49) X rfl 0 rfl dX7_set_49 ?_
        refine fX7_34 (pc := 50) X hK hR k_isMod_0 dX7_set_50 ?_
        refine g_iload_n (pc := 53) X rfl 1 rfl dX7_set_53 ?_
        obtain ⟨h_54, h⟩ := h
        refine aX7_train (pc := 54) X hK hR k_isMod_0 h_54 dX7_set_54 ?_
        refine g_istore_n (pc := 55) (lv' := [(3, .int (σ 9 (x1).toNatClampNeg)), (0, .ref (a 0)), (1, .int x1), (2, .int x2)]) X rfl (by decide) rfl dX7_set_55 ?_
        refine g_aload_n (pc := 56) X rfl 1 rfl dX7_set_56 ?_
        refine fX7_34 (pc := 57) X hK hR k_isMod_0 dX7_set_57 ?_
        refine g_iload_n (pc := 60) X rfl 2 rfl dX7_set_60 ?_
        refine g_iload_n (pc := 61) X rfl 3 rfl dX7_set_61 ?_
        obtain ⟨h_62, h⟩ := h
        refine tX7_train (pc := 62) X hK k_isMod_0 h_62 dX7_set_62 (fun τ62 eτ62 => ?_)
        have h := h τ62 eτ62
        refine g_iload_n (pc := 63) X rfl 0 rfl dX7_set_63 ?_
        exact g_retMi (pc := 64) X hK hr hlk dX7_set_64 h
      · have h := ite_t c_43 h
        refine g_bipush (pc := 46) X bp_m2 dX7_set_46 ?_
        exact g_retMi (pc := 48) X hK hr hlk dX7_set_48 h
    refine g_icmp_ne (pc := 17) (tgt := 26) X (by decide) dX7_set_17 (fun c_17 => ?_) (fun c_17 => ?_)
    · have h := ite_f c_17 h
      refine g_iload_n (pc := 26) X rfl 1 rfl dX7_set_26 ?_
      refine g_iconst (pc := 27) X ic_2 dX7_set_27 ?_
      refine g_icmp_ne (pc := 28) (tgt := 37) X (by decide) dX7_set_28 (fun c_28 => ?_) (fun c_28 => ?_)
      · have h := ite_f c_28 h
        refine g_ldc2 (pc := 37) X kw4_54 dX7_set_37 ?_
        exact g_lv (J40 (99 : Int64) (0 : Int64) (x2).toInt64 h) [0, 1, 2] rfl
      · have h := ite_t c_28 h
        refine g_ldc2 (pc := 31) X kw4_53 dX7_set_31 ?_
        refine g_goto (pc := 34) (tgt := 40) X (by decide) dX7_set_34 ?_
        exact g_lv (J40 (18 : Int64) (0 : Int64) (x2).toInt64 h) [0, 1, 2] rfl
    · have h := ite_t c_17 h
      refine g_ldc2 (pc := 20) X kw4_52 dX7_set_20 ?_
      refine g_goto (pc := 23) (tgt := 40) X (by decide) dX7_set_23 ?_
      exact g_lv (J40 (9 : Int64) (0 : Int64) (x2).toInt64 h) [0, 1, 2] rfl
set_option maxRecDepth 20000 in
theorem c_X7_whistleAt (x1 : Int32) (σ : Sg) (K : Int32 → Prop) : Met l yX7_whistleAt (.code yX7_whistleAt cX7_whistleAt 2 (some .int) :: AW) ({ frames := 0, cells := 0, slots := 0, locals := 0 } : Room) (pvP D (tyM cI) (wM cI a σ) (w_X7_whistleAt x1 σ K) [.ref (a 0), .int x1]) (vp_Si K) 0 0 (fun _ => False) := by
  refine met_Pi (own := "TrainNoteModel") (lv := [(0, .ref (a 0)), (1, .int x1)]) (by decide +kernel) rfl (Nat.le_of_ble_eq_true rfl) rfl ?_
  intro p e s m args below meth c X hK hr hlk h
  have hR : ∀ σ H locs, hpP D (wM cI a) s σ H locs → va_P D vwCl ((wM cI a σ)) H := fun _ _ _ h => h.1
  refine g_sipush (pc := 0) X sp_1000 dX7_whistleAt_0 ?_
  refine g_aload_n (pc := 3) X rfl 0 rfl dX7_whistleAt_3 ?_
  refine fX7_34 (pc := 4) X hK hR k_isMod_0 dX7_whistleAt_4 ?_
  refine g_iconst (pc := 7) X ic_0 dX7_whistleAt_7 ?_
  obtain ⟨h_8, h⟩ := h
  refine aX7_train (pc := 8) X hK hR k_isMod_0 h_8 dX7_whistleAt_8 ?_
  refine g_iadd (pc := 9) X dX7_whistleAt_9 ?_
  refine g_aload_n (pc := 10) X rfl 0 rfl dX7_whistleAt_10 ?_
  refine fX7_34 (pc := 11) X hK hR k_isMod_0 dX7_whistleAt_11 ?_
  refine g_iconst (pc := 14) X ic_0 dX7_whistleAt_14 ?_
  obtain ⟨h_15, h⟩ := h
  refine aX7_train (pc := 15) X hK hR k_isMod_0 h_15 dX7_whistleAt_15 ?_
  refine g_iload_n (pc := 16) X rfl 1 rfl dX7_whistleAt_16 ?_
  refine g_aload_n (pc := 17) X rfl 0 rfl dX7_whistleAt_17 ?_
  refine fX7_34 (pc := 18) X hK hR k_isMod_0 dX7_whistleAt_18 ?_
  refine g_iconst (pc := 21) X ic_1 dX7_whistleAt_21 ?_
  obtain ⟨h_22, h⟩ := h
  refine aX7_train (pc := 22) X hK hR k_isMod_0 h_22 dX7_whistleAt_22 ?_
  refine g_iadd (pc := 23) X dX7_whistleAt_23 ?_
  refine g_imul (pc := 24) X dX7_whistleAt_24 ?_
  refine g_iconst (pc := 25) X ic_4 dX7_whistleAt_25 ?_
  refine g_idiv (pc := 26) X (by decide) dX7_whistleAt_26 ?_
  refine g_isub (pc := 27) X dX7_whistleAt_27 ?_
  refine g_bipush (pc := 28) X bp_9 dX7_whistleAt_28 ?_
  refine g_isub (pc := 30) X dX7_whistleAt_30 ?_
  refine g_aload_n (pc := 31) X rfl 0 rfl dX7_whistleAt_31 ?_
  refine fX7_34 (pc := 32) X hK hR k_isMod_0 dX7_whistleAt_32 ?_
  refine g_iconst (pc := 35) X ic_2 dX7_whistleAt_35 ?_
  obtain ⟨h_36, h⟩ := h
  refine aX7_train (pc := 36) X hK hR k_isMod_0 h_36 dX7_whistleAt_36 ?_
  refine g_iadd (pc := 37) X dX7_whistleAt_37 ?_
  exact g_retPi (pc := 38) X hr hlk dX7_whistleAt_38 h
set_option maxRecDepth 20000 in
theorem c_X7_whistle (x1 : Int32) (σ : Sg) (K : Int32 → Prop) : Met l yX7_whistle (.code yX7_whistle cX7_whistle 2 (some .int) :: AW) ({ frames := 1, cells := 0, slots := 0, locals := 25 } : Room) (pvP D (tyM cI) (wM cI a σ) (w_X7_whistle x1 σ K) [.ref (a 0), .int x1]) (vp_Si K) 0 0 (fun _ => False) := by
  refine met_Pi (own := "TrainNoteModel") (lv := [(0, .ref (a 0)), (1, .int x1)]) (by decide +kernel) rfl (Nat.le_of_ble_eq_true rfl) rfl ?_
  intro p e s m args below meth c X hK hr hlk h
  have hR : ∀ σ H locs, hpP D (wM cI a) s σ H locs → va_P D vwCl ((wM cI a σ)) H := fun _ _ _ h => h.1
  refine g_iload_n (pc := 0) X rfl 1 rfl dX7_whistle_0 ?_
  refine g_i2l (pc := 1) X dX7_whistle_1 ?_
  refine g_lconst (pc := 2) (v := 0) X rfl dX7_whistle_2 ?_
  refine g_ldc2 (pc := 3) X kw4_52 dX7_whistle_3 ?_
  refine g_cS0i (pc := 6) (As := [.long (x1).toInt64, .long (0 : Int64), .long (9 : Int64)]) X mi_X7_in (c_X7_in (x1).toInt64 (0 : Int64) (9 : Int64) _) kw3_210 ⟨rfl, rfl⟩ ⟨Nat.le_of_ble_eq_true rfl, Nat.le_of_ble_eq_true rfl⟩ rfl (Nat.le_of_ble_eq_true rfl) dX7_whistle_6 rfl h (fun r6 h => ?_)
  refine g_if_eq (pc := 9) (tgt := 20) X (by decide) dX7_whistle_9 (fun c_9 => ?_) (fun c_9 => ?_)
  · have h := ite_t c_9 h
    refine g_sipush (pc := 20) X sp_m10002 dX7_whistle_20 ?_
    exact g_retPi (pc := 23) X hr hlk dX7_whistle_23 h
  · have h := ite_f c_9 h
    refine g_aload_n (pc := 12) X rfl 0 rfl dX7_whistle_12 ?_
    refine g_iload_n (pc := 13) X rfl 1 rfl dX7_whistle_13 ?_
    refine g_cVPi (pc := 14) (As := [.int x1]) X hK hR mi_X7_whistleAt (c_X7_whistleAt x1 σ _) (wl_ate (oX7 (cI := cI) (a := a) k_isMod_0).1 ((oX7 (cI := cI) (a := a) k_isMod_0).2 _)) rfl rfl kw4_59 ⟨rfl, rfl⟩ ⟨Nat.le_of_ble_eq_true rfl, Nat.le_of_ble_eq_true rfl⟩ rfl (Nat.le_of_ble_eq_true rfl) dX7_whistle_14 rfl h (fun r14 h => ?_)
    refine g_goto (pc := 17) (tgt := 23) X (by decide) dX7_whistle_17 ?_
    exact g_retPi (pc := 23) X hr hlk dX7_whistle_23 h
set_option maxRecDepth 20000 in
theorem c_X7_nearest (x1 : Int32) (σ : Sg) (K : Int32 → Prop) : Met l yX7_nearest (.code yX7_nearest cX7_nearest 5 (some .int) :: AW) ({ frames := 1, cells := 0, slots := 0, locals := 20 } : Room) (pvP D (tyM cI) (wM cI a σ) (w_X7_nearest x1 σ K) [.ref (a 0), .int x1]) (vp_Si K) 0 0 (fun _ => False) := by
  refine met_Pi (own := "TrainNoteModel") (lv := [(0, .ref (a 0)), (1, .int x1)]) (by decide +kernel) rfl (Nat.le_of_ble_eq_true rfl) rfl ?_
  intro p e s m args below meth c X hK hr hlk h
  have hR : ∀ σ H locs, hpP D (wM cI a) s σ H locs → va_P D vwCl ((wM cI a σ)) H := fun _ _ _ h => h.1
  refine g_iconst (pc := 0) X ic_m1 dX7_nearest_0 ?_
  refine g_istore_n (pc := 1) (lv' := [(2, .int (-1 : Int32)), (0, .ref (a 0)), (1, .int x1)]) X rfl (by decide) rfl dX7_nearest_1 ?_
  refine g_iconst (pc := 2) X ic_0 dX7_nearest_2 ?_
  refine g_istore_n (pc := 3) (lv' := [(3, .int (0 : Int32)), (2, .int (-1 : Int32)), (0, .ref (a 0)), (1, .int x1)]) X rfl (by decide) rfl dX7_nearest_3 ?_
  obtain ⟨n4, h⟩ := h
  have X81 : ∀ (u2_81 : Int32), E_X7_nearest_4 K u2_81 → GPi p l e ({ frames := 1, cells := 0, slots := 0, locals := 20 } : Room) s m args below meth c K 5 D (wM cI a) 81 [(2, .int u2_81)] [] σ := by
    intro u2_81 h
    refine g_iload_n (pc := 81) X rfl 0 rfl dX7_nearest_81 ?_
    exact g_retPi (pc := 82) X hr hlk dX7_nearest_82 h
  have L4 : ∀ (n : Nat) (y2_4 : Int32) (y3_4 : Int32), lq2 (F_X7_nearest_4 σ x1 (E_X7_nearest_4 K)) n y2_4 y3_4 → GPi p l e ({ frames := 1, cells := 0, slots := 0, locals := 20 } : Room) s m args below meth c K 5 D (wM cI a) 4 [(0, .ref (a 0)), (1, .int x1), (2, .int y2_4), (3, .int y3_4)] [] σ := by
    intro n
    induction n with
    | zero =>
      intro y2_4 y3_4 h
      exact h.elim
    | succ n ih =>
      intro y2_4 y3_4 h
      have h : F_X7_nearest_4 σ x1 (E_X7_nearest_4 K) (lq2 (F_X7_nearest_4 σ x1 (E_X7_nearest_4 K)) n) y2_4 y3_4 := h
      generalize lq2 (F_X7_nearest_4 σ x1 (E_X7_nearest_4 K)) n = rec4 at h ih
      refine g_iload_n (pc := 4) X rfl 3 rfl dX7_nearest_4 ?_
      refine g_aload_n (pc := 5) X rfl 0 rfl dX7_nearest_5 ?_
      refine fX7_101 (pc := 6) X hK hR k_isMod_0 dX7_nearest_6 ?_
      refine g_icmp_ge (pc := 9) (tgt := 81) X (by decide) dX7_nearest_9 (fun c_9 => ?_) (fun c_9 => ?_)
      · have h := ite_t c_9 h
        exact g_lv (X81 y2_4 h) [2] rfl
      · have h := ite_f c_9 h
        refine g_iload_n (pc := 12) X rfl 3 rfl dX7_nearest_12 ?_
        refine g_iload_n (pc := 13) X rfl 1 rfl dX7_nearest_13 ?_
        have J62 : ∀ (v0_62 : Int32), J_X7_nearest_62 rec4 y2_4 y3_4 v0_62 → GPi p l e ({ frames := 1, cells := 0, slots := 0, locals := 20 } : Room) s m args below meth c K 5 D (wM cI a) 62 [(0, .ref (a 0)), (1, .int x1), (2, .int y2_4), (3, .int y3_4)] [.int v0_62] σ := by
          intro v0_62 h
          refine g_istore (pc := 62) (lv' := [(4, .int v0_62), (0, .ref (a 0)), (1, .int x1), (2, .int y2_4), (3, .int y3_4)]) X (by decide) rfl dX7_nearest_62 ?_
          refine g_iload (pc := 64) X 0 rfl dX7_nearest_64 ?_
          refine g_if_eq (pc := 66) (tgt := 73) X (by decide) dX7_nearest_66 (fun c_66 => ?_) (fun c_66 => ?_)
          · have h := ite_t c_66 h
            refine g_iload_n (pc := 73) X rfl 3 rfl dX7_nearest_73 ?_
            refine g_istore_n (pc := 74) (lv' := [(2, .int y2_4), (4, .int v0_62), (0, .ref (a 0)), (1, .int x1), (3, .int y3_4)]) X rfl (by decide) rfl dX7_nearest_74 ?_
            refine g_iinc (pc := 75) (lv' := [(3, .int (y3_4 + (1 : Int32))), (2, .int y2_4), (4, .int v0_62), (0, .ref (a 0)), (1, .int x1)]) X 4 rfl rfl (by decide) rfl dX7_nearest_75 ?_
            refine g_goto (pc := 78) (tgt := 4) X (by decide) dX7_nearest_78 ?_
            exact g_lv (ih y2_4 (y3_4 + (1 : Int32)) h) [3, 4, 1, 0] rfl
          · have h := ite_f c_66 h
            refine g_iload_n (pc := 69) X rfl 4 rfl dX7_nearest_69 ?_
            refine g_goto (pc := 70) (tgt := 74) X (by decide) dX7_nearest_70 ?_
            refine g_istore_n (pc := 74) (lv' := [(2, .int y3_4), (4, .int v0_62), (0, .ref (a 0)), (1, .int x1), (3, .int y3_4)]) X rfl (by decide) rfl dX7_nearest_74 ?_
            refine g_iinc (pc := 75) (lv' := [(3, .int (y3_4 + (1 : Int32))), (2, .int y3_4), (4, .int v0_62), (0, .ref (a 0)), (1, .int x1)]) X 4 rfl rfl (by decide) rfl dX7_nearest_75 ?_
            refine g_goto (pc := 78) (tgt := 4) X (by decide) dX7_nearest_78 ?_
            exact g_lv (ih y3_4 (y3_4 + (1 : Int32)) h) [3, 4, 1, 0] rfl
        have J61 : ∀ (_ : Unit), J_X7_nearest_61 rec4 y2_4 y3_4 → GPi p l e ({ frames := 1, cells := 0, slots := 0, locals := 20 } : Room) s m args below meth c K 5 D (wM cI a) 61 [(0, .ref (a 0)), (1, .int x1), (2, .int y2_4), (3, .int y3_4)] [] σ := by
          intro _ h
          refine g_iconst (pc := 61) X ic_0 dX7_nearest_61 ?_
          exact g_lv (J62 (0 : Int32) h) [0, 1, 2, 3] rfl
        refine g_icmp_eq (pc := 14) (tgt := 61) X (by decide) dX7_nearest_14 (fun c_14 => ?_) (fun c_14 => ?_)
        · have h := ite_t c_14 h
          exact g_lv (J61 () h) [0, 1, 2, 3] rfl
        · have h := ite_f c_14 h
          refine g_iload_n (pc := 17) X rfl 2 rfl dX7_nearest_17 ?_
          refine g_iconst (pc := 18) X ic_m1 dX7_nearest_18 ?_
          have J57 : ∀ (_ : Unit), J_X7_nearest_57 rec4 y2_4 y3_4 → GPi p l e ({ frames := 1, cells := 0, slots := 0, locals := 20 } : Room) s m args below meth c K 5 D (wM cI a) 57 [(0, .ref (a 0)), (1, .int x1), (2, .int y2_4), (3, .int y3_4)] [] σ := by
            intro _ h
            refine g_iconst (pc := 57) X ic_1 dX7_nearest_57 ?_
            refine g_goto (pc := 58) (tgt := 62) X (by decide) dX7_nearest_58 ?_
            exact g_lv (J62 (1 : Int32) h) [0, 1, 2, 3] rfl
          refine g_icmp_eq (pc := 19) (tgt := 57) X (by decide) dX7_nearest_19 (fun c_19 => ?_) (fun c_19 => ?_)
          · have h := ite_t c_19 h
            exact g_lv (J57 () h) [0, 1, 2, 3] rfl
          · have h := ite_f c_19 h
            refine g_aload_n (pc := 22) X rfl 0 rfl dX7_nearest_22 ?_
            refine fX7_37 (pc := 23) X hK hR k_isMod_0 dX7_nearest_23 ?_
            refine g_iload_n (pc := 26) X rfl 3 rfl dX7_nearest_26 ?_
            obtain ⟨h_27, h⟩ := h
            refine aX7_places (pc := 27) X hK hR k_isMod_0 h_27 dX7_nearest_27 ?_
            refine g_aload_n (pc := 28) X rfl 0 rfl dX7_nearest_28 ?_
            refine fX7_37 (pc := 29) X hK hR k_isMod_0 dX7_nearest_29 ?_
            refine g_iload_n (pc := 32) X rfl 1 rfl dX7_nearest_32 ?_
            obtain ⟨h_33, h⟩ := h
            refine aX7_places (pc := 33) X hK hR k_isMod_0 h_33 dX7_nearest_33 ?_
            refine g_isub (pc := 34) X dX7_nearest_34 ?_
            refine g_cS0i (pc := 35) (As := [.int ((σ 10 (y3_4).toNatClampNeg) - (σ 10 (x1).toNatClampNeg))]) X mi_X7_amount (c_X7_amount ((σ 10 (y3_4).toNatClampNeg) - (σ 10 (x1).toNatClampNeg)) _) kw4_79 ⟨rfl, rfl⟩ ⟨Nat.le_of_ble_eq_true rfl, Nat.le_of_ble_eq_true rfl⟩ rfl (Nat.le_of_ble_eq_true rfl) dX7_nearest_35 rfl h (fun r35 h => ?_)
            refine g_aload_n (pc := 38) X rfl 0 rfl dX7_nearest_38 ?_
            refine fX7_37 (pc := 39) X hK hR k_isMod_0 dX7_nearest_39 ?_
            refine g_iload_n (pc := 42) X rfl 2 rfl dX7_nearest_42 ?_
            obtain ⟨h_43, h⟩ := h
            refine aX7_places (pc := 43) X hK hR k_isMod_0 h_43 dX7_nearest_43 ?_
            refine g_aload_n (pc := 44) X rfl 0 rfl dX7_nearest_44 ?_
            refine fX7_37 (pc := 45) X hK hR k_isMod_0 dX7_nearest_45 ?_
            refine g_iload_n (pc := 48) X rfl 1 rfl dX7_nearest_48 ?_
            obtain ⟨h_49, h⟩ := h
            refine aX7_places (pc := 49) X hK hR k_isMod_0 h_49 dX7_nearest_49 ?_
            refine g_isub (pc := 50) X dX7_nearest_50 ?_
            refine g_cS0i (pc := 51) (As := [.int ((σ 10 (y2_4).toNatClampNeg) - (σ 10 (x1).toNatClampNeg))]) X mi_X7_amount (c_X7_amount ((σ 10 (y2_4).toNatClampNeg) - (σ 10 (x1).toNatClampNeg)) _) kw4_79 ⟨rfl, rfl⟩ ⟨Nat.le_of_ble_eq_true rfl, Nat.le_of_ble_eq_true rfl⟩ rfl (Nat.le_of_ble_eq_true rfl) dX7_nearest_51 rfl h (fun r51 h => ?_)
            refine g_icmp_ge (pc := 54) (tgt := 61) X (by decide) dX7_nearest_54 (fun c_54 => ?_) (fun c_54 => ?_)
            · have h := ite_t c_54 h
              exact g_lv (J61 () h) [0, 1, 2, 3] rfl
            · have h := ite_f c_54 h
              exact g_lv (J57 () h) [0, 1, 2, 3] rfl
  exact g_lv (L4 n4 (-1 : Int32) (0 : Int32) h) [2, 3, 1, 0] rfl
end
