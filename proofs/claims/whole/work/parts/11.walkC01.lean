section
variable {l : Launch} {D : va_G} {cI cZ cS : ClassId} {a : Nat → Nat} {tS tF : Nat}
set_option maxRecDepth 20000 in
theorem c_X3_kindOf (x0 : Int32) (K : Int32 → Prop) : Met l yX3_kindOf (.code yX3_kindOf cX3_kindOf 1 (some .int) :: AW) ({ frames := 0, cells := 0, slots := 0, locals := 0 } : Room) (pv0 (w_X3_kindOf x0 K) [.int x0]) (vp_Si K) 0 0 (fun _ => False) := by
  refine met_0i (own := "TrainNote$Song") (lv := [(0, .int x0)]) (fun _ _ => 0) (by decide +kernel) rfl (Nat.le_of_ble_eq_true rfl) rfl ?_
  intro p e s m args below meth c X hr hlk h
  refine g_iload_n (pc := 0) X rfl 0 rfl dX3_kindOf_0 ?_
  by_cases c_1_101 : x0 = (101 : Int32)
  · have h := ite_t c_1_101 h
    refine g_look (pc := 1) (tgt := 30) (off := 29) X (by decide) (by rw [c_1_101] <;> rfl) (by decide) dX3_kindOf_1 ?_
    refine g_iconst (pc := 30) X ic_2 dX3_kindOf_30 ?_
    exact g_ret0i (pc := 31) X hr hlk dX3_kindOf_31 h
  · have h := ite_f c_1_101 h
    by_cases c_1_114 : x0 = (114 : Int32)
    · have h := ite_t c_1_114 h
      refine g_look (pc := 1) (tgt := 28) (off := 27) X (by decide) (by rw [c_1_114] <;> rfl) (by decide) dX3_kindOf_1 ?_
      refine g_iconst (pc := 28) X ic_1 dX3_kindOf_28 ?_
      exact g_ret0i (pc := 29) X hr hlk dX3_kindOf_29 h
    · have h := ite_f c_1_114 h
      refine g_look (pc := 1) (tgt := 32) (off := 31) X (by decide) (by rw [show _ = _ from lv_osw c_1_101 (by decide), show _ = _ from lv_osw c_1_114 (by decide)] <;> rfl) (by decide) dX3_kindOf_1 ?_
      refine g_iconst (pc := 32) X ic_0 dX3_kindOf_32 ?_
      exact g_ret0i (pc := 33) X hr hlk dX3_kindOf_33 h
set_option maxRecDepth 20000 in
theorem c_X3_parse {k0 : Nat} (hk0 : isSo k0) {k1 : Nat} (hk1 : isTx k1) (σ : Sg) (K : Sg → Prop) : ∀ sz, Met l yX3_parse (.code yX3_parse cX3_parse 4 (none) :: AW) ({ frames := 1, cells := 0, slots := 0, locals := 21 } : Room) (pvM D (tyC cI cZ cS) (SXC tS tF) (wC cI cZ cS a σ) sz (w_X3_parse k0 k1 σ K) [.ref (a k0), .ref (a k1)]) (va_Qv K (atM D (tyC cI cZ cS) (wC cI cZ cS a) (va_A (wC cI cZ cS a σ) sz)) (va_A (wC cI cZ cS a σ) sz)) 0 0 (va_A (wC cI cZ cS a σ) sz) := by
  intro sz
  refine met_Mv (own := "TrainNote$Song") (lv := [(0, .ref (a k0)), (1, .ref (a k1))]) (by decide +kernel) rfl (Nat.le_of_ble_eq_true rfl) rfl ?_
  intro p e s m args below meth c A X hK hX hA hr hlk h
  have hR : ∀ σ H locs, hpM D (wC cI cZ cS a) A s σ H locs → va_P D vwCl ((wC cI cZ cS a σ)) H := fun _ _ _ h => h.1
  have hok := SXC_ok tS tF
  refine g_aload_n (pc := 0) X rfl 0 rfl dX3_parse_0 ?_
  refine g_aload_n (pc := 1) X rfl 1 rfl dX3_parse_1 ?_
  refine g_cVPi (pc := 2) (As := []) X hK hR mi_X4_faultOfSong (c_X4_faultOfSong (k0 := k1) hk1 σ _) (wl_ate (oX4 (cI := cI) (cZ := cZ) (cS := cS) (a := a) hk1).1 ((oX4 (cI := cI) (cZ := cZ) (cS := cS) (a := a) hk1).2 _)) rfl rfl kw2_26 ⟨rfl, rfl⟩ ⟨Nat.le_of_ble_eq_true rfl, Nat.le_of_ble_eq_true rfl⟩ rfl (Nat.le_of_ble_eq_true rfl) dX3_parse_2 rfl h (fun r2 h => ?_)
  refine g_iconst (pc := 5) X ic_m1 dX3_parse_5 ?_
  have J22 : ∀ (v0_22 : Int32), J_X3_parse_22 σ k0 k1 K v0_22 → GMv p l e ({ frames := 1, cells := 0, slots := 0, locals := 21 } : Room) s m args below meth c K 4 D (tyC cI cZ cS) (wC cI cZ cS a) A 22 [(0, .ref (a k0)), (1, .ref (a k1))] [.int v0_22, .ref (a k0)] σ := by
    intro v0_22 h
    refine pX3_9 (pc := 22) X hK hk0 dX3_parse_22 (fun τ22 eτ22 => ?_)
    have h := h τ22 eτ22
    refine g_iconst (pc := 25) X ic_0 dX3_parse_25 ?_
    refine g_istore_n (pc := 26) (lv' := [(2, .int (0 : Int32)), (0, .ref (a k0)), (1, .ref (a k1))]) X rfl (by decide) rfl dX3_parse_26 ?_
    refine g_iconst (pc := 27) X ic_0 dX3_parse_27 ?_
    refine g_istore_n (pc := 28) (lv' := [(3, .int (0 : Int32)), (2, .int (0 : Int32)), (0, .ref (a k0)), (1, .ref (a k1))]) X rfl (by decide) rfl dX3_parse_28 ?_
    obtain ⟨n29, h⟩ := h
    have X99 : ∀ (ρe99 : Sg), E_X3_parse_29 K ρe99 → GMv p l e ({ frames := 1, cells := 0, slots := 0, locals := 21 } : Room) s m args below meth c K 4 D (tyC cI cZ cS) (wC cI cZ cS a) A 99 [] [] ρe99 := by
      intro ρe99 h
      exact g_retMv (pc := 99) X hK hr hlk dX3_parse_99 h
    have L29 : ∀ (n : Nat) (y2_29 : Int32) (y3_29 : Int32) (ρ29 : Sg), lq3 (F_X3_parse_29 k0 k1 (E_X3_parse_29 K)) n y2_29 y3_29 ρ29 → GMv p l e ({ frames := 1, cells := 0, slots := 0, locals := 21 } : Room) s m args below meth c K 4 D (tyC cI cZ cS) (wC cI cZ cS a) A 29 [(0, .ref (a k0)), (1, .ref (a k1)), (2, .int y2_29), (3, .int y3_29)] [] ρ29 := by
      intro n
      induction n with
      | zero =>
        intro y2_29 y3_29 ρ29 h
        exact h.elim
      | succ n ih =>
        intro y2_29 y3_29 ρ29 h
        have h : F_X3_parse_29 k0 k1 (E_X3_parse_29 K) (lq3 (F_X3_parse_29 k0 k1 (E_X3_parse_29 K)) n) y2_29 y3_29 ρ29 := h
        generalize lq3 (F_X3_parse_29 k0 k1 (E_X3_parse_29 K)) n = rec29 at h ih
        refine g_iload_n (pc := 29) X rfl 3 rfl dX3_parse_29 ?_
        refine g_aload_n (pc := 30) X rfl 0 rfl dX3_parse_30 ?_
        refine fX3_9 (pc := 31) X hK hR hk0 dX3_parse_31 ?_
        refine g_icmp_ge (pc := 34) (tgt := 99) X (by decide) dX3_parse_34 (fun c_34 => ?_) (fun c_34 => ?_)
        · have h := ite_t c_34 h
          exact g_lv (X99 ρ29 h) [] rfl
        · have h := ite_f c_34 h
          refine g_aload_n (pc := 37) X rfl 0 rfl dX3_parse_37 ?_
          refine fX3_15 (pc := 38) X hK hR hk0 dX3_parse_38 ?_
          refine g_iload_n (pc := 41) X rfl 3 rfl dX3_parse_41 ?_
          refine g_aload_n (pc := 42) X rfl 1 rfl dX3_parse_42 ?_
          refine fX3_35 (pc := 43) X hK hR hk1 dX3_parse_43 ?_
          refine g_iload_n (pc := 46) X rfl 3 rfl dX3_parse_46 ?_
          obtain ⟨h_47, h⟩ := h
          refine aX4_bytes (pc := 47) X hK hR hk1 h_47 dX3_parse_47 ?_
          refine g_cS0i (pc := 48) (As := [.int (ρ29 (k1 + 1) (y3_29).toNatClampNeg)]) X mi_X3_kindOf (c_X3_kindOf (ρ29 (k1 + 1) (y3_29).toNatClampNeg) _) kw2_31 ⟨rfl, rfl⟩ ⟨Nat.le_of_ble_eq_true rfl, Nat.le_of_ble_eq_true rfl⟩ rfl (Nat.le_of_ble_eq_true rfl) dX3_parse_48 rfl h (fun r48 h => ?_)
          obtain ⟨h_51, h⟩ := h
          refine tX3_kind (pc := 51) X hK hk0 h_51 dX3_parse_51 (fun τ51 eτ51 => ?_)
          have h := h τ51 eτ51
          refine g_aload_n (pc := 52) X rfl 0 rfl dX3_parse_52 ?_
          refine fX3_15 (pc := 53) X hK hR hk0 dX3_parse_53 ?_
          refine g_iload_n (pc := 56) X rfl 3 rfl dX3_parse_56 ?_
          obtain ⟨h_57, h⟩ := h
          refine aX3_kind (pc := 57) X hK hR hk0 h_57 dX3_parse_57 ?_
          refine g_iconst (pc := 58) X ic_2 dX3_parse_58 ?_
          have J67 : ∀ (v0_67 : Int32), J_X3_parse_67 y3_29 τ51 k0 rec29 v0_67 → GMv p l e ({ frames := 1, cells := 0, slots := 0, locals := 21 } : Room) s m args below meth c K 4 D (tyC cI cZ cS) (wC cI cZ cS a) A 67 [(0, .ref (a k0)), (1, .ref (a k1)), (3, .int y3_29)] [.int v0_67] τ51 := by
            intro v0_67 h
            refine g_istore_n (pc := 67) (lv' := [(2, .int v0_67), (0, .ref (a k0)), (1, .ref (a k1)), (3, .int y3_29)]) X rfl (by decide) rfl dX3_parse_67 ?_
            refine g_aload_n (pc := 68) X rfl 1 rfl dX3_parse_68 ?_
            refine fX3_19 (pc := 69) X hK hR hk0 dX3_parse_69 ?_
            refine g_iload_n (pc := 72) X rfl 3 rfl dX3_parse_72 ?_
            refine g_iload_n (pc := 73) X rfl 0 rfl dX3_parse_73 ?_
            obtain ⟨h_74, h⟩ := h
            refine tX3_restsBefore (pc := 74) X hK hk0 h_74 dX3_parse_74 (fun τ74 eτ74 => ?_)
            have h := h τ74 eτ74
            refine g_iload_n (pc := 75) X rfl 0 rfl dX3_parse_75 ?_
            refine g_aload_n (pc := 76) X rfl 1 rfl dX3_parse_76 ?_
            refine fX3_15 (pc := 77) X hK hR hk0 dX3_parse_77 ?_
            refine g_iload_n (pc := 80) X rfl 3 rfl dX3_parse_80 ?_
            obtain ⟨h_81, h⟩ := h
            refine aX3_kind (pc := 81) X hK hR hk0 h_81 dX3_parse_81 ?_
            refine g_iconst (pc := 82) X ic_1 dX3_parse_82 ?_
            refine g_icmp_ne (pc := 83) (tgt := 90) X (by decide) dX3_parse_83 (fun c_83 => ?_) (fun c_83 => ?_)
            · have h := ite_f c_83 h
              refine g_iconst (pc := 90) X ic_0 dX3_parse_90 ?_
              refine g_iadd (pc := 91) X dX3_parse_91 ?_
              refine g_istore_n (pc := 92) (lv' := [(2, .int (v0_67 + (0 : Int32))), (0, .ref (a k0)), (1, .ref (a k1)), (3, .int y3_29)]) X rfl (by decide) rfl dX3_parse_92 ?_
              refine g_iinc (pc := 93) (lv' := [(3, .int (y3_29 + (1 : Int32))), (2, .int (v0_67 + (0 : Int32))), (0, .ref (a k0)), (1, .ref (a k1))]) X 3 rfl rfl (by decide) rfl dX3_parse_93 ?_
              refine g_goto (pc := 96) (tgt := 29) X (by decide) dX3_parse_96 ?_
              exact g_lv (ih (v0_67 + (0 : Int32)) (y3_29 + (1 : Int32)) τ74 h) [2, 3, 1, 0] rfl
            · have h := ite_t c_83 h
              refine g_iconst (pc := 86) X ic_1 dX3_parse_86 ?_
              refine g_goto (pc := 87) (tgt := 91) X (by decide) dX3_parse_87 ?_
              refine g_iadd (pc := 91) X dX3_parse_91 ?_
              refine g_istore_n (pc := 92) (lv' := [(2, .int (v0_67 + (1 : Int32))), (0, .ref (a k0)), (1, .ref (a k1)), (3, .int y3_29)]) X rfl (by decide) rfl dX3_parse_92 ?_
              refine g_iinc (pc := 93) (lv' := [(3, .int (y3_29 + (1 : Int32))), (2, .int (v0_67 + (1 : Int32))), (0, .ref (a k0)), (1, .ref (a k1))]) X 3 rfl rfl (by decide) rfl dX3_parse_93 ?_
              refine g_goto (pc := 96) (tgt := 29) X (by decide) dX3_parse_96 ?_
              exact g_lv (ih (v0_67 + (1 : Int32)) (y3_29 + (1 : Int32)) τ74 h) [2, 3, 1, 0] rfl
          refine g_icmp_ne (pc := 59) (tgt := 66) X (by decide) dX3_parse_59 (fun c_59 => ?_) (fun c_59 => ?_)
          · have h := ite_f c_59 h
            refine g_iload_n (pc := 66) X rfl 2 rfl dX3_parse_66 ?_
            exact g_lv (J67 y2_29 h) [0, 1, 3] rfl
          · have h := ite_t c_59 h
            refine g_iconst (pc := 62) X ic_0 dX3_parse_62 ?_
            refine g_goto (pc := 63) (tgt := 67) X (by decide) dX3_parse_63 ?_
            exact g_lv (J67 (0 : Int32) h) [0, 1, 3] rfl
    exact g_lv (L29 n29 (0 : Int32) (0 : Int32) τ22 h) [2, 3, 1, 0] rfl
  refine g_icmp_ne (pc := 6) (tgt := 21) X (by decide) dX3_parse_6 (fun c_6 => ?_) (fun c_6 => ?_)
  · have h := ite_f c_6 h
    refine g_iconst (pc := 21) X ic_0 dX3_parse_21 ?_
    exact g_lv (J22 (0 : Int32) h) [0, 1] rfl
  · have h := ite_t c_6 h
    refine g_aload_n (pc := 9) X rfl 1 rfl dX3_parse_9 ?_
    refine fX3_28 (pc := 10) X hK hR hk1 dX3_parse_10 ?_
    refine g_bipush (pc := 13) X bp_24 dX3_parse_13 ?_
    refine g_mmin (pc := 15) X kw2_30 kw1_28 kw1_3 kw1_29 (Nat.le_of_ble_eq_true rfl) (Nat.le_of_ble_eq_true rfl) dX3_parse_15 ?_
    refine g_topi (fun m15 em15 => ?_)
    have h := h m15 em15
    refine g_goto (pc := 18) (tgt := 22) X (by decide) dX3_parse_18 ?_
    exact g_lv (J22 m15 h) [0, 1] rfl
set_option maxRecDepth 20000 in
theorem c_X6_parse (x1 : Int32) (σ : Sg) (K : Sg → Prop) : ∀ sz, Met l yX6_parse (.code yX6_parse cX6_parse 2 (none) :: AW) ({ frames := 4, cells := 0, slots := 0, locals := 89 } : Room) (pvM D (tyC cI cZ cS) (SXC tS tF) (wC cI cZ cS a σ) sz (w_X6_parse x1 σ K) [.ref (a 0), .int x1]) (va_Qv K (atM D (tyC cI cZ cS) (wC cI cZ cS a) (va_A (wC cI cZ cS a σ) sz)) (va_A (wC cI cZ cS a σ) sz)) 0 0 (va_A (wC cI cZ cS a σ) sz) := by
  intro sz
  refine met_Mv (own := "TrainNote") (lv := [(0, .ref (a 0)), (1, .int x1)]) (by decide +kernel) rfl (Nat.le_of_ble_eq_true rfl) rfl ?_
  intro p e s m args below meth c A X hK hX hA hr hlk h
  have hR : ∀ σ H locs, hpM D (wC cI cZ cS a) A s σ H locs → va_P D vwCl ((wC cI cZ cS a σ)) H := fun _ _ _ h => h.1
  have hok := SXC_ok tS tF
  refine g_iload_n (pc := 0) X rfl 1 rfl dX6_parse_0 ?_
  refine g_if_ne (pc := 1) (tgt := 18) X (by decide) dX6_parse_1 (fun c_1 => ?_) (fun c_1 => ?_)
  · have h := ite_f c_1 h
    refine g_aload_n (pc := 18) X rfl 0 rfl dX6_parse_18 ?_
    refine fX6_34 (pc := 19) X hK hR k_isTop_0 dX6_parse_19 ?_
    refine g_aload_n (pc := 22) X rfl 0 rfl dX6_parse_22 ?_
    refine fX6_18 (pc := 23) X hK hR k_isTop_0 dX6_parse_23 ?_
    refine g_cVMv (pc := 26) (As := [.ref (a 3)]) X hK hX hok hA mi_X3_parse (c_X3_parse (k0 := 23) k_isSo_23 (k1 := 3) k_isTx_3 σ _) (fun _ => ⟨_, wl_ate (oX3 (cI := cI) (cZ := cZ) (cS := cS) (a := a) k_isSo_23).1 ((oX3 (cI := cI) (cZ := cZ) (cS := cS) (a := a) k_isSo_23).2 _)⟩) rfl rfl kw2_22 ⟨rfl, rfl⟩ ⟨Nat.le_of_ble_eq_true rfl, Nat.le_of_ble_eq_true rfl⟩ rfl (Nat.le_of_ble_eq_true rfl) dX6_parse_26 rfl h (fun τ26 h => ?_)
    exact g_retMv (pc := 29) X hK hr hlk dX6_parse_29 h
  · have h := ite_t c_1 h
    refine g_aload_n (pc := 4) X rfl 0 rfl dX6_parse_4 ?_
    refine fX6_24 (pc := 5) X hK hR k_isTop_0 dX6_parse_5 ?_
    refine g_aload_n (pc := 8) X rfl 0 rfl dX6_parse_8 ?_
    refine fX6_14 (pc := 9) X hK hR k_isTop_0 dX6_parse_9 ?_
    refine g_cVMv (pc := 12) (As := [.ref (a 1)]) X hK hX hok hA mi_X0_parse (c_X0_parse (k0 := 5) k_isCh_5 (k1 := 1) k_isTx_1 σ _) (fun _ => ⟨_, wl_ate (oX0 (cI := cI) (cZ := cZ) (cS := cS) (a := a) k_isCh_5).1 ((oX0 (cI := cI) (cZ := cZ) (cS := cS) (a := a) k_isCh_5).2 _)⟩) rfl rfl kw1_236 ⟨rfl, rfl⟩ ⟨Nat.le_of_ble_eq_true rfl, Nat.le_of_ble_eq_true rfl⟩ rfl (Nat.le_of_ble_eq_true rfl) dX6_parse_12 rfl h (fun τ12 h => ?_)
    refine g_goto (pc := 15) (tgt := 29) X (by decide) dX6_parse_15 ?_
    exact g_retMv (pc := 29) X hK hr hlk dX6_parse_29 h
set_option maxRecDepth 20000 in
theorem c_X6_type (x1 : Int32) (x2 : Int32) (σ : Sg) (K : Int32 → Sg → Prop) : ∀ sz, Met l yX6_type (.code yX6_type cX6_type 4 (some .int) :: AW) ({ frames := 5, cells := 0, slots := 0, locals := 110 } : Room) (pvM D (tyC cI cZ cS) (SXC tS tF) (wC cI cZ cS a σ) sz (w_X6_type x1 x2 σ K) [.ref (a 0), .int x1, .int x2]) (va_Qi K (atM D (tyC cI cZ cS) (wC cI cZ cS a) (va_A (wC cI cZ cS a σ) sz)) (va_A (wC cI cZ cS a σ) sz)) 0 0 (va_A (wC cI cZ cS a σ) sz) := by
  intro sz
  refine met_Mi (own := "TrainNote") (lv := [(0, .ref (a 0)), (1, .int x1), (2, .int x2)]) (by decide +kernel) rfl (Nat.le_of_ble_eq_true rfl) rfl ?_
  intro p e s m args below meth c A X hK hX hA hr hlk h
  have hR : ∀ σ H locs, hpM D (wC cI cZ cS a) A s σ H locs → va_P D vwCl ((wC cI cZ cS a σ)) H := fun _ _ _ h => h.1
  have hok := SXC_ok tS tF
  refine g_iload_n (pc := 0) X rfl 1 rfl dX6_type_0 ?_
  refine g_cS0i (pc := 1) (As := [.int x1]) X mi_X6_isNoText (c_X6_isNoText x1 _) kw1_216 ⟨rfl, rfl⟩ ⟨Nat.le_of_ble_eq_true rfl, Nat.le_of_ble_eq_true rfl⟩ rfl (Nat.le_of_ble_eq_true rfl) dX6_type_1 rfl h (fun r1 h => ?_)
  refine g_if_ne (pc := 4) (tgt := 18) X (by decide) dX6_type_4 (fun c_4 => ?_) (fun c_4 => ?_)
  · have h := ite_f c_4 h
    refine g_bipush (pc := 18) X bp_m2 dX6_type_18 ?_
    exact g_retMi (pc := 20) X hK hr hlk dX6_type_20 h
  · have h := ite_t c_4 h
    refine g_iload_n (pc := 7) X rfl 2 rfl dX6_type_7 ?_
    refine g_if_lt (pc := 8) (tgt := 18) X (by decide) dX6_type_8 (fun c_8 => ?_) (fun c_8 => ?_)
    · have h := ite_t c_8 h
      refine g_bipush (pc := 18) X bp_m2 dX6_type_18 ?_
      exact g_retMi (pc := 20) X hK hr hlk dX6_type_20 h
    · have h := ite_f c_8 h
      refine g_iload_n (pc := 11) X rfl 2 rfl dX6_type_11 ?_
      refine g_sipush (pc := 12) X sp_255 dX6_type_12 ?_
      refine g_icmp_le (pc := 15) (tgt := 21) X (by decide) dX6_type_15 (fun c_15 => ?_) (fun c_15 => ?_)
      · have h := ite_t c_15 h
        refine g_aload_n (pc := 21) X rfl 0 rfl dX6_type_21 ?_
        refine g_iload_n (pc := 22) X rfl 1 rfl dX6_type_22 ?_
        refine g_cVPr (pc := 23) (As := [.int x1]) X hK hR mi_X6_textOf (c_X6_textOf x1 σ _) (wl_ate (oX6 (cI := cI) (cZ := cZ) (cS := cS) (a := a) k_isTop_0).1 ((oX6 (cI := cI) (cZ := cZ) (cS := cS) (a := a) k_isTop_0).2 _)) rfl rfl kw1_219 ⟨rfl, rfl⟩ ⟨Nat.le_of_ble_eq_true rfl, Nat.le_of_ble_eq_true rfl⟩ rfl (Nat.le_of_ble_eq_true rfl) dX6_type_23 rfl h (fun r23 h => ?_)
        obtain ⟨hk_r23, h⟩ := h
        refine g_astore_n (pc := 26) (lv' := [(3, .ref (a r23)), (0, .ref (a 0)), (1, .int x1), (2, .int x2)]) X rfl (by decide) rfl dX6_type_26 ?_
        refine g_aload_n (pc := 27) X rfl 0 rfl dX6_type_27 ?_
        refine g_cVPi (pc := 28) (As := []) X hK hR mi_X4_isFull (c_X4_isFull (k0 := r23) hk_r23 σ _) (wl_ate (oX4 (cI := cI) (cZ := cZ) (cS := cS) (a := a) hk_r23).1 ((oX4 (cI := cI) (cZ := cZ) (cS := cS) (a := a) hk_r23).2 _)) rfl rfl kw1_223 ⟨rfl, rfl⟩ ⟨Nat.le_of_ble_eq_true rfl, Nat.le_of_ble_eq_true rfl⟩ rfl (Nat.le_of_ble_eq_true rfl) dX6_type_28 rfl h (fun r28 h => ?_)
        refine g_if_eq (pc := 31) (tgt := 37) X (by decide) dX6_type_31 (fun c_31 => ?_) (fun c_31 => ?_)
        · have h := ite_t c_31 h
          refine g_aload_n (pc := 37) X rfl 0 rfl dX6_type_37 ?_
          refine g_iload_n (pc := 38) X rfl 3 rfl dX6_type_38 ?_
          refine g_cVMv (pc := 39) (As := [.int x2]) X hK hX hok hA mi_X4_append (c_X4_append (k0 := r23) hk_r23 x2 σ _) (fun _ => ⟨_, wl_ate (oX4 (cI := cI) (cZ := cZ) (cS := cS) (a := a) hk_r23).1 ((oX4 (cI := cI) (cZ := cZ) (cS := cS) (a := a) hk_r23).2 _)⟩) rfl rfl kw1_227 ⟨rfl, rfl⟩ ⟨Nat.le_of_ble_eq_true rfl, Nat.le_of_ble_eq_true rfl⟩ rfl (Nat.le_of_ble_eq_true rfl) dX6_type_39 rfl h (fun τ39 h => ?_)
          refine g_aload_n (pc := 42) X rfl 1 rfl dX6_type_42 ?_
          refine g_iload_n (pc := 43) X rfl 2 rfl dX6_type_43 ?_
          refine g_cVMv (pc := 44) (As := [.int x1]) X hK hX hok hA mi_X6_parse (c_X6_parse x1 τ39 _) (fun _ => ⟨_, wl_ate (oX6 (cI := cI) (cZ := cZ) (cS := cS) (a := a) k_isTop_0).1 ((oX6 (cI := cI) (cZ := cZ) (cS := cS) (a := a) k_isTop_0).2 _)⟩) rfl rfl kw1_232 ⟨rfl, rfl⟩ ⟨Nat.le_of_ble_eq_true rfl, Nat.le_of_ble_eq_true rfl⟩ rfl (Nat.le_of_ble_eq_true rfl) dX6_type_44 rfl h (fun τ44 h => ?_)
          refine g_aload_n (pc := 47) X rfl 0 rfl dX6_type_47 ?_
          refine fX6_91 (pc := 48) X hK hR hk_r23 dX6_type_48 ?_
          exact g_retMi (pc := 51) X hK hr hlk dX6_type_51 h
        · have h := ite_f c_31 h
          refine g_bipush (pc := 34) X bp_m4 dX6_type_34 ?_
          exact g_retMi (pc := 36) X hK hr hlk dX6_type_36 h
      · have h := ite_f c_15 h
        refine g_bipush (pc := 18) X bp_m2 dX6_type_18 ?_
        exact g_retMi (pc := 20) X hK hr hlk dX6_type_20 h
set_option maxRecDepth 20000 in
theorem c_X4_shorten {k0 : Nat} (hk0 : isTx k0) (x1 : Int32) (σ : Sg) (K : Sg → Prop) : ∀ sz, Met l yX4_shorten (.code yX4_shorten cX4_shorten 2 (none) :: AW) ({ frames := 1, cells := 0, slots := 0, locals := 21 } : Room) (pvM D (tyC cI cZ cS) (SXC tS tF) (wC cI cZ cS a σ) sz (w_X4_shorten k0 x1 σ K) [.ref (a k0), .int x1]) (va_Qv K (atM D (tyC cI cZ cS) (wC cI cZ cS a) (va_A (wC cI cZ cS a σ) sz)) (va_A (wC cI cZ cS a σ) sz)) 0 0 (va_A (wC cI cZ cS a σ) sz) := by
  intro sz
  refine met_Mv (own := "TrainNote$Text") (lv := [(0, .ref (a k0)), (1, .int x1)]) (by decide +kernel) rfl (Nat.le_of_ble_eq_true rfl) rfl ?_
  intro p e s m args below meth c A X hK hX hA hr hlk h
  have hR : ∀ σ H locs, hpM D (wC cI cZ cS a) A s σ H locs → va_P D vwCl ((wC cI cZ cS a σ)) H := fun _ _ _ h => h.1
  have hok := SXC_ok tS tF
  refine g_aload_n (pc := 0) X rfl 0 rfl dX4_shorten_0 ?_
  refine g_iconst (pc := 1) X ic_0 dX4_shorten_1 ?_
  refine g_iload_n (pc := 2) X rfl 1 rfl dX4_shorten_2 ?_
  refine g_aload_n (pc := 3) X rfl 0 rfl dX4_shorten_3 ?_
  refine fX4_15 (pc := 4) X hK hR hk0 dX4_shorten_4 ?_
  refine g_mmin (pc := 7) X kw1_27 kw1_28 kw1_3 kw1_29 (Nat.le_of_ble_eq_true rfl) (Nat.le_of_ble_eq_true rfl) dX4_shorten_7 ?_
  refine g_topi (fun m7 em7 => ?_)
  have h := h m7 em7
  refine g_mmax (pc := 10) X kw2_42 kw2_43 kw1_3 kw2_44 (Nat.le_of_ble_eq_true rfl) (Nat.le_of_ble_eq_true rfl) dX4_shorten_10 ?_
  refine g_topi (fun m10 em10 => ?_)
  have h := h m10 em10
  refine pX4_15 (pc := 13) X hK hk0 dX4_shorten_13 (fun τ13 eτ13 => ?_)
  have h := h τ13 eτ13
  exact g_retMv (pc := 16) X hK hr hlk dX4_shorten_16 h
set_option maxRecDepth 20000 in
theorem c_X6_wipe (x1 : Int32) (σ : Sg) (K : Int32 → Sg → Prop) : ∀ sz, Met l yX6_wipe (.code yX6_wipe cX6_wipe 4 (some .int) :: AW) ({ frames := 5, cells := 0, slots := 0, locals := 110 } : Room) (pvM D (tyC cI cZ cS) (SXC tS tF) (wC cI cZ cS a σ) sz (w_X6_wipe x1 σ K) [.ref (a 0), .int x1]) (va_Qi K (atM D (tyC cI cZ cS) (wC cI cZ cS a) (va_A (wC cI cZ cS a σ) sz)) (va_A (wC cI cZ cS a σ) sz)) 0 0 (va_A (wC cI cZ cS a σ) sz) := by
  intro sz
  refine met_Mi (own := "TrainNote") (lv := [(0, .ref (a 0)), (1, .int x1)]) (by decide +kernel) rfl (Nat.le_of_ble_eq_true rfl) rfl ?_
  intro p e s m args below meth c A X hK hX hA hr hlk h
  have hR : ∀ σ H locs, hpM D (wC cI cZ cS a) A s σ H locs → va_P D vwCl ((wC cI cZ cS a σ)) H := fun _ _ _ h => h.1
  have hok := SXC_ok tS tF
  refine g_iload_n (pc := 0) X rfl 1 rfl dX6_wipe_0 ?_
  refine g_cS0i (pc := 1) (As := [.int x1]) X mi_X6_isNoText (c_X6_isNoText x1 _) kw1_216 ⟨rfl, rfl⟩ ⟨Nat.le_of_ble_eq_true rfl, Nat.le_of_ble_eq_true rfl⟩ rfl (Nat.le_of_ble_eq_true rfl) dX6_wipe_1 rfl h (fun r1 h => ?_)
  refine g_if_eq (pc := 4) (tgt := 10) X (by decide) dX6_wipe_4 (fun c_4 => ?_) (fun c_4 => ?_)
  · have h := ite_t c_4 h
    refine g_aload_n (pc := 10) X rfl 0 rfl dX6_wipe_10 ?_
    refine g_iload_n (pc := 11) X rfl 1 rfl dX6_wipe_11 ?_
    refine g_cVPr (pc := 12) (As := [.int x1]) X hK hR mi_X6_textOf (c_X6_textOf x1 σ _) (wl_ate (oX6 (cI := cI) (cZ := cZ) (cS := cS) (a := a) k_isTop_0).1 ((oX6 (cI := cI) (cZ := cZ) (cS := cS) (a := a) k_isTop_0).2 _)) rfl rfl kw1_219 ⟨rfl, rfl⟩ ⟨Nat.le_of_ble_eq_true rfl, Nat.le_of_ble_eq_true rfl⟩ rfl (Nat.le_of_ble_eq_true rfl) dX6_wipe_12 rfl h (fun r12 h => ?_)
    obtain ⟨hk_r12, h⟩ := h
    refine g_astore_n (pc := 15) (lv' := [(2, .ref (a r12)), (0, .ref (a 0)), (1, .int x1)]) X rfl (by decide) rfl dX6_wipe_15 ?_
    refine g_aload_n (pc := 16) X rfl 0 rfl dX6_wipe_16 ?_
    refine fX6_91 (pc := 17) X hK hR hk_r12 dX6_wipe_17 ?_
    refine g_istore_n (pc := 20) (lv' := [(3, .int (σ r12 2)), (2, .ref (a r12)), (0, .ref (a 0)), (1, .int x1)]) X rfl (by decide) rfl dX6_wipe_20 ?_
    refine g_aload_n (pc := 21) X rfl 1 rfl dX6_wipe_21 ?_
    refine g_iconst (pc := 22) X ic_0 dX6_wipe_22 ?_
    refine g_cVMv (pc := 23) (As := [.int (0 : Int32)]) X hK hX hok hA mi_X4_shorten (c_X4_shorten (k0 := r12) hk_r12 (0 : Int32) σ _) (fun _ => ⟨_, wl_ate (oX4 (cI := cI) (cZ := cZ) (cS := cS) (a := a) hk_r12).1 ((oX4 (cI := cI) (cZ := cZ) (cS := cS) (a := a) hk_r12).2 _)⟩) rfl rfl kw2_38 ⟨rfl, rfl⟩ ⟨Nat.le_of_ble_eq_true rfl, Nat.le_of_ble_eq_true rfl⟩ rfl (Nat.le_of_ble_eq_true rfl) dX6_wipe_23 rfl h (fun τ23 h => ?_)
    refine g_aload_n (pc := 26) X rfl 2 rfl dX6_wipe_26 ?_
    refine g_iload_n (pc := 27) X rfl 3 rfl dX6_wipe_27 ?_
    refine g_cVMv (pc := 28) (As := [.int x1]) X hK hX hok hA mi_X6_parse (c_X6_parse x1 τ23 _) (fun _ => ⟨_, wl_ate (oX6 (cI := cI) (cZ := cZ) (cS := cS) (a := a) k_isTop_0).1 ((oX6 (cI := cI) (cZ := cZ) (cS := cS) (a := a) k_isTop_0).2 _)⟩) rfl rfl kw1_232 ⟨rfl, rfl⟩ ⟨Nat.le_of_ble_eq_true rfl, Nat.le_of_ble_eq_true rfl⟩ rfl (Nat.le_of_ble_eq_true rfl) dX6_wipe_28 rfl h (fun τ28 h => ?_)
    refine g_iload_n (pc := 31) X rfl 0 rfl dX6_wipe_31 ?_
    exact g_retMi (pc := 32) X hK hr hlk dX6_wipe_32 h
  · have h := ite_f c_4 h
    refine g_bipush (pc := 7) X bp_m2 dX6_wipe_7 ?_
    exact g_retMi (pc := 9) X hK hr hlk dX6_wipe_9 h
set_option maxRecDepth 20000 in
theorem c_X6_undo (x1 : Int32) (σ : Sg) (K : Int32 → Sg → Prop) : ∀ sz, Met l yX6_undo (.code yX6_undo cX6_undo 3 (some .int) :: AW) ({ frames := 5, cells := 0, slots := 0, locals := 110 } : Room) (pvM D (tyC cI cZ cS) (SXC tS tF) (wC cI cZ cS a σ) sz (w_X6_undo x1 σ K) [.ref (a 0), .int x1]) (va_Qi K (atM D (tyC cI cZ cS) (wC cI cZ cS a) (va_A (wC cI cZ cS a σ) sz)) (va_A (wC cI cZ cS a σ) sz)) 0 0 (va_A (wC cI cZ cS a σ) sz) := by
  intro sz
  refine met_Mi (own := "TrainNote") (lv := [(0, .ref (a 0)), (1, .int x1)]) (by decide +kernel) rfl (Nat.le_of_ble_eq_true rfl) rfl ?_
  intro p e s m args below meth c A X hK hX hA hr hlk h
  have hR : ∀ σ H locs, hpM D (wC cI cZ cS a) A s σ H locs → va_P D vwCl ((wC cI cZ cS a σ)) H := fun _ _ _ h => h.1
  have hok := SXC_ok tS tF
  refine g_iload_n (pc := 0) X rfl 1 rfl dX6_undo_0 ?_
  refine g_cS0i (pc := 1) (As := [.int x1]) X mi_X6_isNoText (c_X6_isNoText x1 _) kw1_216 ⟨rfl, rfl⟩ ⟨Nat.le_of_ble_eq_true rfl, Nat.le_of_ble_eq_true rfl⟩ rfl (Nat.le_of_ble_eq_true rfl) dX6_undo_1 rfl h (fun r1 h => ?_)
  refine g_if_eq (pc := 4) (tgt := 10) X (by decide) dX6_undo_4 (fun c_4 => ?_) (fun c_4 => ?_)
  · have h := ite_t c_4 h
    refine g_aload_n (pc := 10) X rfl 0 rfl dX6_undo_10 ?_
    refine g_iload_n (pc := 11) X rfl 1 rfl dX6_undo_11 ?_
    refine g_cVPr (pc := 12) (As := [.int x1]) X hK hR mi_X6_textOf (c_X6_textOf x1 σ _) (wl_ate (oX6 (cI := cI) (cZ := cZ) (cS := cS) (a := a) k_isTop_0).1 ((oX6 (cI := cI) (cZ := cZ) (cS := cS) (a := a) k_isTop_0).2 _)) rfl rfl kw1_219 ⟨rfl, rfl⟩ ⟨Nat.le_of_ble_eq_true rfl, Nat.le_of_ble_eq_true rfl⟩ rfl (Nat.le_of_ble_eq_true rfl) dX6_undo_12 rfl h (fun r12 h => ?_)
    obtain ⟨hk_r12, h⟩ := h
    refine g_astore_n (pc := 15) (lv' := [(2, .ref (a r12)), (0, .ref (a 0)), (1, .int x1)]) X rfl (by decide) rfl dX6_undo_15 ?_
    refine g_aload_n (pc := 16) X rfl 0 rfl dX6_undo_16 ?_
    refine fX6_91 (pc := 17) X hK hR hk_r12 dX6_undo_17 ?_
    refine g_if_ne (pc := 20) (tgt := 26) X (by decide) dX6_undo_20 (fun c_20 => ?_) (fun c_20 => ?_)
    · have h := ite_f c_20 h
      refine g_aload_n (pc := 26) X rfl 0 rfl dX6_undo_26 ?_
      refine g_aload_n (pc := 27) X rfl 0 rfl dX6_undo_27 ?_
      refine fX6_91 (pc := 28) X hK hR hk_r12 dX6_undo_28 ?_
      refine g_iconst (pc := 31) X ic_1 dX6_undo_31 ?_
      refine g_isub (pc := 32) X dX6_undo_32 ?_
      refine g_cVMv (pc := 33) (As := [.int ((σ r12 2) - (1 : Int32))]) X hK hX hok hA mi_X4_shorten (c_X4_shorten (k0 := r12) hk_r12 ((σ r12 2) - (1 : Int32)) σ _) (fun _ => ⟨_, wl_ate (oX4 (cI := cI) (cZ := cZ) (cS := cS) (a := a) hk_r12).1 ((oX4 (cI := cI) (cZ := cZ) (cS := cS) (a := a) hk_r12).2 _)⟩) rfl rfl kw2_38 ⟨rfl, rfl⟩ ⟨Nat.le_of_ble_eq_true rfl, Nat.le_of_ble_eq_true rfl⟩ rfl (Nat.le_of_ble_eq_true rfl) dX6_undo_33 rfl h (fun τ33 h => ?_)
      refine g_aload_n (pc := 36) X rfl 1 rfl dX6_undo_36 ?_
      refine g_iload_n (pc := 37) X rfl 2 rfl dX6_undo_37 ?_
      refine g_cVMv (pc := 38) (As := [.int x1]) X hK hX hok hA mi_X6_parse (c_X6_parse x1 τ33 _) (fun _ => ⟨_, wl_ate (oX6 (cI := cI) (cZ := cZ) (cS := cS) (a := a) k_isTop_0).1 ((oX6 (cI := cI) (cZ := cZ) (cS := cS) (a := a) k_isTop_0).2 _)⟩) rfl rfl kw1_232 ⟨rfl, rfl⟩ ⟨Nat.le_of_ble_eq_true rfl, Nat.le_of_ble_eq_true rfl⟩ rfl (Nat.le_of_ble_eq_true rfl) dX6_undo_38 rfl h (fun τ38 h => ?_)
      refine g_aload_n (pc := 41) X rfl 0 rfl dX6_undo_41 ?_
      refine fX6_91 (pc := 42) X hK hR hk_r12 dX6_undo_42 ?_
      exact g_retMi (pc := 45) X hK hr hlk dX6_undo_45 h
    · have h := ite_t c_20 h
      refine g_bipush (pc := 23) X bp_m3 dX6_undo_23 ?_
      exact g_retMi (pc := 25) X hK hr hlk dX6_undo_25 h
  · have h := ite_f c_4 h
    refine g_bipush (pc := 7) X bp_m2 dX6_undo_7 ?_
    exact g_retMi (pc := 9) X hK hr hlk dX6_undo_9 h
set_option maxRecDepth 20000 in
theorem c_X6_fault (x1 : Int32) (σ : Sg) (K : Int32 → Prop) : Met l yX6_fault (.code yX6_fault cX6_fault 2 (some .int) :: AW) ({ frames := 2, cells := 0, slots := 0, locals := 42 } : Room) (pvP D (tyC cI cZ cS) (wC cI cZ cS a σ) (w_X6_fault x1 σ K) [.ref (a 0), .int x1]) (vp_Si K) 0 0 (fun _ => False) := by
  refine met_Pi (own := "TrainNote") (lv := [(0, .ref (a 0)), (1, .int x1)]) (by decide +kernel) rfl (Nat.le_of_ble_eq_true rfl) rfl ?_
  intro p e s m args below meth c X hK hr hlk h
  have hR : ∀ σ H locs, hpP D (wC cI cZ cS a) s σ H locs → va_P D vwCl ((wC cI cZ cS a σ)) H := fun _ _ _ h => h.1
  refine g_iload_n (pc := 0) X rfl 1 rfl dX6_fault_0 ?_
  refine g_cS0i (pc := 1) (As := [.int x1]) X mi_X6_isNoText (c_X6_isNoText x1 _) kw1_216 ⟨rfl, rfl⟩ ⟨Nat.le_of_ble_eq_true rfl, Nat.le_of_ble_eq_true rfl⟩ rfl (Nat.le_of_ble_eq_true rfl) dX6_fault_1 rfl h (fun r1 h => ?_)
  refine g_if_eq (pc := 4) (tgt := 10) X (by decide) dX6_fault_4 (fun c_4 => ?_) (fun c_4 => ?_)
  · have h := ite_t c_4 h
    refine g_iload_n (pc := 10) X rfl 1 rfl dX6_fault_10 ?_
    refine g_if_ne (pc := 11) (tgt := 24) X (by decide) dX6_fault_11 (fun c_11 => ?_) (fun c_11 => ?_)
    · have h := ite_f c_11 h
      refine g_aload_n (pc := 24) X rfl 0 rfl dX6_fault_24 ?_
      refine fX6_18 (pc := 25) X hK hR k_isTop_0 dX6_fault_25 ?_
      refine g_cVPi (pc := 28) (As := []) X hK hR mi_X4_faultOfSong (c_X4_faultOfSong (k0 := 3) k_isTx_3 σ _) (wl_ate (oX4 (cI := cI) (cZ := cZ) (cS := cS) (a := a) k_isTx_3).1 ((oX4 (cI := cI) (cZ := cZ) (cS := cS) (a := a) k_isTx_3).2 _)) rfl rfl kw2_54 ⟨rfl, rfl⟩ ⟨Nat.le_of_ble_eq_true rfl, Nat.le_of_ble_eq_true rfl⟩ rfl (Nat.le_of_ble_eq_true rfl) dX6_fault_28 rfl h (fun r28 h => ?_)
      exact g_retPi (pc := 31) X hr hlk dX6_fault_31 h
    · have h := ite_t c_11 h
      refine g_aload_n (pc := 14) X rfl 0 rfl dX6_fault_14 ?_
      refine fX6_14 (pc := 15) X hK hR k_isTop_0 dX6_fault_15 ?_
      refine g_cVPi (pc := 18) (As := []) X hK hR mi_X4_faultOfSingers (c_X4_faultOfSingers (k0 := 1) k_isTx_1 σ _) (wl_ate (oX4 (cI := cI) (cZ := cZ) (cS := cS) (a := a) k_isTx_1).1 ((oX4 (cI := cI) (cZ := cZ) (cS := cS) (a := a) k_isTx_1).2 _)) rfl rfl kw2_53 ⟨rfl, rfl⟩ ⟨Nat.le_of_ble_eq_true rfl, Nat.le_of_ble_eq_true rfl⟩ rfl (Nat.le_of_ble_eq_true rfl) dX6_fault_18 rfl h (fun r18 h => ?_)
      refine g_goto (pc := 21) (tgt := 31) X (by decide) dX6_fault_21 ?_
      exact g_retPi (pc := 31) X hr hlk dX6_fault_31 h
  · have h := ite_f c_4 h
    refine g_bipush (pc := 7) X bp_m2 dX6_fault_7 ?_
    exact g_retPi (pc := 9) X hr hlk dX6_fault_9 h
set_option maxRecDepth 20000 in
theorem c_X6_isNoSinger (x1 : Int32) (σ : Sg) (K : Int32 → Prop) : Met l yX6_isNoSinger (.code yX6_isNoSinger cX6_isNoSinger 2 (some .boolean) :: AW) ({ frames := 0, cells := 0, slots := 0, locals := 0 } : Room) (pvP D (tyC cI cZ cS) (wC cI cZ cS a σ) (w_X6_isNoSinger x1 σ K) [.ref (a 0), .int x1]) (vp_Si K) 0 0 (fun _ => False) := by
  refine met_Pi (own := "TrainNote") (lv := [(0, .ref (a 0)), (1, .int x1)]) (by decide +kernel) rfl (Nat.le_of_ble_eq_true rfl) rfl ?_
  intro p e s m args below meth c X hK hr hlk h
  have hR : ∀ σ H locs, hpP D (wC cI cZ cS a) s σ H locs → va_P D vwCl ((wC cI cZ cS a σ)) H := fun _ _ _ h => h.1
  refine g_iload_n (pc := 0) X rfl 1 rfl dX6_isNoSinger_0 ?_
  refine g_if_lt (pc := 1) (tgt := 15) X (by decide) dX6_isNoSinger_1 (fun c_1 => ?_) (fun c_1 => ?_)
  · have h := ite_t c_1 h
    refine g_iconst (pc := 15) X ic_1 dX6_isNoSinger_15 ?_
    refine g_goto (pc := 16) (tgt := 20) X (by decide) dX6_isNoSinger_16 ?_
    exact g_retPz (pc := 20) X hr hlk dX6_isNoSinger_20 (Or.inr rfl) h
  · have h := ite_f c_1 h
    refine g_iload_n (pc := 4) X rfl 1 rfl dX6_isNoSinger_4 ?_
    refine g_aload_n (pc := 5) X rfl 0 rfl dX6_isNoSinger_5 ?_
    refine fX6_24 (pc := 6) X hK hR k_isTop_0 dX6_isNoSinger_6 ?_
    refine fX6_165 (pc := 9) X hK hR k_isCh_5 dX6_isNoSinger_9 ?_
    refine g_icmp_lt (pc := 12) (tgt := 19) X (by decide) dX6_isNoSinger_12 (fun c_12 => ?_) (fun c_12 => ?_)
    · have h := ite_t c_12 h
      refine g_iconst (pc := 19) X ic_0 dX6_isNoSinger_19 ?_
      exact g_retPz (pc := 20) X hr hlk dX6_isNoSinger_20 (Or.inl rfl) h
    · have h := ite_f c_12 h
      refine g_iconst (pc := 15) X ic_1 dX6_isNoSinger_15 ?_
      refine g_goto (pc := 16) (tgt := 20) X (by decide) dX6_isNoSinger_16 ?_
      exact g_retPz (pc := 20) X hr hlk dX6_isNoSinger_20 (Or.inr rfl) h
set_option maxRecDepth 20000 in
theorem c_X6_singer (x1 : Int32) (x2 : Int32) (σ : Sg) (K : Int32 → Prop) : Met l yX6_singer (.code yX6_singer cX6_singer 3 (some .int) :: AW) ({ frames := 1, cells := 0, slots := 0, locals := 21 } : Room) (pvP D (tyC cI cZ cS) (wC cI cZ cS a σ) (w_X6_singer x1 x2 σ K) [.ref (a 0), .int x1, .int x2]) (vp_Si K) 0 0 (fun _ => False) := by
  refine met_Pi (own := "TrainNote") (lv := [(0, .ref (a 0)), (1, .int x1), (2, .int x2)]) (by decide +kernel) rfl (Nat.le_of_ble_eq_true rfl) rfl ?_
  intro p e s m args below meth c X hK hr hlk h
  have hR : ∀ σ H locs, hpP D (wC cI cZ cS a) s σ H locs → va_P D vwCl ((wC cI cZ cS a σ)) H := fun _ _ _ h => h.1
  refine g_aload_n (pc := 0) X rfl 0 rfl dX6_singer_0 ?_
  refine g_iload_n (pc := 1) X rfl 1 rfl dX6_singer_1 ?_
  refine g_cVPi (pc := 2) (As := [.int x1]) X hK hR mi_X6_isNoSinger (c_X6_isNoSinger x1 σ _) (wl_ate (oX6 (cI := cI) (cZ := cZ) (cS := cS) (a := a) k_isTop_0).1 ((oX6 (cI := cI) (cZ := cZ) (cS := cS) (a := a) k_isTop_0).2 _)) rfl rfl kw2_59 ⟨rfl, rfl⟩ ⟨Nat.le_of_ble_eq_true rfl, Nat.le_of_ble_eq_true rfl⟩ rfl (Nat.le_of_ble_eq_true rfl) dX6_singer_2 rfl h (fun r2 h => ?_)
  refine g_if_eq (pc := 5) (tgt := 11) X (by decide) dX6_singer_5 (fun c_5 => ?_) (fun c_5 => ?_)
  · have h := ite_t c_5 h
    refine g_iload_n (pc := 11) X rfl 2 rfl dX6_singer_11 ?_
    by_cases c_12_0 : x2 = (0 : Int32)
    · have h := ite_t c_12_0 h
      refine g_tabI (pc := 12) (tgt := 44) (off := 32) X (by rw [c_12_0]; decide) (by rw [c_12_0]; decide) (by rw [c_12_0] <;> rfl) (by decide) dX6_singer_12 ?_
      refine g_aload_n (pc := 44) X rfl 0 rfl dX6_singer_44 ?_
      refine fX6_24 (pc := 45) X hK hR k_isTop_0 dX6_singer_45 ?_
      refine fX6_107 (pc := 48) X hK hR k_isCh_5 dX6_singer_48 ?_
      refine g_iload_n (pc := 51) X rfl 1 rfl dX6_singer_51 ?_
      obtain ⟨h_52, h⟩ := h
      refine aX0_place (pc := 52) X hK hR k_isCh_5 h_52 dX6_singer_52 ?_
      exact g_retPi (pc := 53) X hr hlk dX6_singer_53 h
    · have h := ite_f c_12_0 h
      by_cases c_12_1 : x2 = (1 : Int32)
      · have h := ite_t c_12_1 h
        refine g_tabI (pc := 12) (tgt := 54) (off := 42) X (by rw [c_12_1]; decide) (by rw [c_12_1]; decide) (by rw [c_12_1] <;> rfl) (by decide) dX6_singer_12 ?_
        refine g_aload_n (pc := 54) X rfl 0 rfl dX6_singer_54 ?_
        refine fX6_24 (pc := 55) X hK hR k_isTop_0 dX6_singer_55 ?_
        refine fX6_110 (pc := 58) X hK hR k_isCh_5 dX6_singer_58 ?_
        refine g_iload_n (pc := 61) X rfl 1 rfl dX6_singer_61 ?_
        obtain ⟨h_62, h⟩ := h
        refine aX0_wrong (pc := 62) X hK hR k_isCh_5 h_62 dX6_singer_62 ?_
        exact g_retPi (pc := 63) X hr hlk dX6_singer_63 h
      · have h := ite_f c_12_1 h
        by_cases c_12_2 : x2 = (2 : Int32)
        · have h := ite_t c_12_2 h
          refine g_tabI (pc := 12) (tgt := 64) (off := 52) X (by rw [c_12_2]; decide) (by rw [c_12_2]; decide) (by rw [c_12_2] <;> rfl) (by decide) dX6_singer_12 ?_
          refine g_aload_n (pc := 64) X rfl 0 rfl dX6_singer_64 ?_
          refine fX6_24 (pc := 65) X hK hR k_isTop_0 dX6_singer_65 ?_
          refine fX6_113 (pc := 68) X hK hR k_isCh_5 dX6_singer_68 ?_
          refine g_iload_n (pc := 71) X rfl 1 rfl dX6_singer_71 ?_
          obtain ⟨h_72, h⟩ := h
          refine aX0_sinks (pc := 72) X hK hR k_isCh_5 h_72 dX6_singer_72 ?_
          exact g_retPi (pc := 73) X hr hlk dX6_singer_73 h
        · have h := ite_f c_12_2 h
          by_cases c_12_3 : x2 = (3 : Int32)
          · have h := ite_t c_12_3 h
            refine g_tabI (pc := 12) (tgt := 74) (off := 62) X (by rw [c_12_3]; decide) (by rw [c_12_3]; decide) (by rw [c_12_3] <;> rfl) (by decide) dX6_singer_12 ?_
            refine g_aload_n (pc := 74) X rfl 0 rfl dX6_singer_74 ?_
            refine fX6_24 (pc := 75) X hK hR k_isTop_0 dX6_singer_75 ?_
            refine fX6_116 (pc := 78) X hK hR k_isCh_5 dX6_singer_78 ?_
            refine g_iload_n (pc := 81) X rfl 1 rfl dX6_singer_81 ?_
            obtain ⟨h_82, h⟩ := h
            refine aX0_hears (pc := 82) X hK hR k_isCh_5 h_82 dX6_singer_82 ?_
            refine g_if_eq (pc := 83) (tgt := 90) X (by decide) dX6_singer_83 (fun c_83 => ?_) (fun c_83 => ?_)
            · have h := ite_t c_83 h
              refine g_iconst (pc := 90) X ic_0 dX6_singer_90 ?_
              exact g_retPi (pc := 91) X hr hlk dX6_singer_91 h
            · have h := ite_f c_83 h
              refine g_iconst (pc := 86) X ic_1 dX6_singer_86 ?_
              refine g_goto (pc := 87) (tgt := 91) X (by decide) dX6_singer_87 ?_
              exact g_retPi (pc := 91) X hr hlk dX6_singer_91 h
          · have h := ite_f c_12_3 h
            refine g_tabO (pc := 12) (tgt := 92) X (tabOut (fun z z1 z2 => ?_)) (by decide) dX6_singer_12 ?_
            · rcases (show z = 0 ∨ z = 1 ∨ z = 2 ∨ z = 3 by omega) with rfl | rfl | rfl | rfl
              · exact lv_neT c_12_0 (by decide)
              · exact lv_neT c_12_1 (by decide)
              · exact lv_neT c_12_2 (by decide)
              · exact lv_neT c_12_3 (by decide)
            · refine g_bipush (pc := 92) X bp_m2 dX6_singer_92 ?_
              exact g_retPi (pc := 94) X hr hlk dX6_singer_94 h
  · have h := ite_f c_5 h
    refine g_bipush (pc := 8) X bp_m2 dX6_singer_8 ?_
    exact g_retPi (pc := 10) X hr hlk dX6_singer_10 h
set_option maxRecDepth 20000 in
theorem c_X6_bar (x1 : Int32) (σ : Sg) (K : Int32 → Prop) : Met l yX6_bar (.code yX6_bar cX6_bar 2 (some .int) :: AW) ({ frames := 0, cells := 0, slots := 0, locals := 0 } : Room) (pvP D (tyC cI cZ cS) (wC cI cZ cS a σ) (w_X6_bar x1 σ K) [.ref (a 0), .int x1]) (vp_Si K) 0 0 (fun _ => False) := by
  refine met_Pi (own := "TrainNote") (lv := [(0, .ref (a 0)), (1, .int x1)]) (by decide +kernel) rfl (Nat.le_of_ble_eq_true rfl) rfl ?_
  intro p e s m args below meth c X hK hr hlk h
  have hR : ∀ σ H locs, hpP D (wC cI cZ cS a) s σ H locs → va_P D vwCl ((wC cI cZ cS a σ)) H := fun _ _ _ h => h.1
  refine g_iload_n (pc := 0) X rfl 1 rfl dX6_bar_0 ?_
  refine g_if_lt (pc := 1) (tgt := 10) X (by decide) dX6_bar_1 (fun c_1 => ?_) (fun c_1 => ?_)
  · have h := ite_t c_1 h
    refine g_bipush (pc := 10) X bp_m2 dX6_bar_10 ?_
    exact g_retPi (pc := 12) X hr hlk dX6_bar_12 h
  · have h := ite_f c_1 h
    refine g_iload_n (pc := 4) X rfl 1 rfl dX6_bar_4 ?_
    refine g_bipush (pc := 5) X bp_24 dX6_bar_5 ?_
    refine g_icmp_lt (pc := 7) (tgt := 13) X (by decide) dX6_bar_7 (fun c_7 => ?_) (fun c_7 => ?_)
    · have h := ite_t c_7 h
      refine g_iload_n (pc := 13) X rfl 1 rfl dX6_bar_13 ?_
      refine g_aload_n (pc := 14) X rfl 0 rfl dX6_bar_14 ?_
      refine fX6_34 (pc := 15) X hK hR k_isTop_0 dX6_bar_15 ?_
      refine fX6_120 (pc := 18) X hK hR k_isSo_23 dX6_bar_18 ?_
      refine g_icmp_ge (pc := 21) (tgt := 36) X (by decide) dX6_bar_21 (fun c_21 => ?_) (fun c_21 => ?_)
      · have h := ite_t c_21 h
        refine g_iconst (pc := 36) X ic_m1 dX6_bar_36 ?_
        exact g_retPi (pc := 37) X hr hlk dX6_bar_37 h
      · have h := ite_f c_21 h
        refine g_aload_n (pc := 24) X rfl 0 rfl dX6_bar_24 ?_
        refine fX6_34 (pc := 25) X hK hR k_isTop_0 dX6_bar_25 ?_
        refine fX6_121 (pc := 28) X hK hR k_isSo_23 dX6_bar_28 ?_
        refine g_iload_n (pc := 31) X rfl 1 rfl dX6_bar_31 ?_
        obtain ⟨h_32, h⟩ := h
        refine aX3_kind (pc := 32) X hK hR k_isSo_23 h_32 dX6_bar_32 ?_
        refine g_goto (pc := 33) (tgt := 37) X (by decide) dX6_bar_33 ?_
        exact g_retPi (pc := 37) X hr hlk dX6_bar_37 h
    · have h := ite_f c_7 h
      refine g_bipush (pc := 10) X bp_m2 dX6_bar_10 ?_
      exact g_retPi (pc := 12) X hr hlk dX6_bar_12 h
set_option maxRecDepth 20000 in
theorem c_X5_change {k0 : Nat} (hk0 : isTr k0) (x1 : Int32) (x2 : Int32) (σ : Sg) (K : Int32 → Sg → Prop) : ∀ sz, Met l yX5_change (.code yX5_change cX5_change 4 (some .int) :: AW) ({ frames := 0, cells := 0, slots := 0, locals := 0 } : Room) (pvM D (tyC cI cZ cS) (SXC tS tF) (wC cI cZ cS a σ) sz (w_X5_change k0 x1 x2 σ K) [.ref (a k0), .int x1, .int x2]) (va_Qi K (atM D (tyC cI cZ cS) (wC cI cZ cS a) (va_A (wC cI cZ cS a σ) sz)) (va_A (wC cI cZ cS a σ) sz)) 0 0 (va_A (wC cI cZ cS a σ) sz) := by
  intro sz
  refine met_Mi (own := "TrainNote$Train") (lv := [(0, .ref (a k0)), (1, .int x1), (2, .int x2)]) (by decide +kernel) rfl (Nat.le_of_ble_eq_true rfl) rfl ?_
  intro p e s m args below meth c A X hK hX hA hr hlk h
  have hR : ∀ σ H locs, hpM D (wC cI cZ cS a) A s σ H locs → va_P D vwCl ((wC cI cZ cS a σ)) H := fun _ _ _ h => h.1
  have hok := SXC_ok tS tF
  refine g_iload_n (pc := 0) X rfl 1 rfl dX5_change_0 ?_
  by_cases c_1_0 : x1 = (0 : Int32)
  · have h := ite_t c_1_0 h
    refine g_tabI (pc := 1) (tgt := 28) (off := 27) X (by rw [c_1_0]; decide) (by rw [c_1_0]; decide) (by rw [c_1_0] <;> rfl) (by decide) dX5_change_1 ?_
    refine g_aload_n (pc := 28) X rfl 0 rfl dX5_change_28 ?_
    refine fX5_7 (pc := 29) X hK hR hk0 dX5_change_29 ?_
    refine g_istore_n (pc := 32) (lv' := [(3, .int (σ k0 0)), (0, .ref (a k0)), (1, .int x1), (2, .int x2)]) X rfl (by decide) rfl dX5_change_32 ?_
    refine g_aload_n (pc := 33) X rfl 1 rfl dX5_change_33 ?_
    refine g_iload_n (pc := 34) X rfl 3 rfl dX5_change_34 ?_
    refine pX5_7 (pc := 35) X hK hk0 dX5_change_35 (fun τ35 eτ35 => ?_)
    have h := h τ35 eτ35
    refine g_goto (pc := 38) (tgt := 77) X (by decide) dX5_change_38 ?_
    refine g_iload_n (pc := 77) X rfl 0 rfl dX5_change_77 ?_
    exact g_retMi (pc := 78) X hK hr hlk dX5_change_78 h
  · have h := ite_f c_1_0 h
    by_cases c_1_1 : x1 = (1 : Int32)
    · have h := ite_t c_1_1 h
      refine g_tabI (pc := 1) (tgt := 41) (off := 40) X (by rw [c_1_1]; decide) (by rw [c_1_1]; decide) (by rw [c_1_1] <;> rfl) (by decide) dX5_change_1 ?_
      refine g_aload_n (pc := 41) X rfl 0 rfl dX5_change_41 ?_
      refine fX5_13 (pc := 42) X hK hR hk0 dX5_change_42 ?_
      refine g_istore_n (pc := 45) (lv' := [(3, .int (σ k0 1)), (0, .ref (a k0)), (1, .int x1), (2, .int x2)]) X rfl (by decide) rfl dX5_change_45 ?_
      refine g_aload_n (pc := 46) X rfl 1 rfl dX5_change_46 ?_
      refine g_iload_n (pc := 47) X rfl 3 rfl dX5_change_47 ?_
      refine pX5_13 (pc := 48) X hK hk0 dX5_change_48 (fun τ48 eτ48 => ?_)
      have h := h τ48 eτ48
      refine g_goto (pc := 51) (tgt := 77) X (by decide) dX5_change_51 ?_
      refine g_iload_n (pc := 77) X rfl 0 rfl dX5_change_77 ?_
      exact g_retMi (pc := 78) X hK hr hlk dX5_change_78 h
    · have h := ite_f c_1_1 h
      by_cases c_1_2 : x1 = (2 : Int32)
      · have h := ite_t c_1_2 h
        refine g_tabI (pc := 1) (tgt := 54) (off := 53) X (by rw [c_1_2]; decide) (by rw [c_1_2]; decide) (by rw [c_1_2] <;> rfl) (by decide) dX5_change_1 ?_
        refine g_aload_n (pc := 54) X rfl 0 rfl dX5_change_54 ?_
        refine fX5_16 (pc := 55) X hK hR hk0 dX5_change_55 ?_
        refine g_istore_n (pc := 58) (lv' := [(3, .int (σ k0 2)), (0, .ref (a k0)), (1, .int x1), (2, .int x2)]) X rfl (by decide) rfl dX5_change_58 ?_
        refine g_aload_n (pc := 59) X rfl 1 rfl dX5_change_59 ?_
        refine g_iload_n (pc := 60) X rfl 3 rfl dX5_change_60 ?_
        refine pX5_16 (pc := 61) X hK hk0 dX5_change_61 (fun τ61 eτ61 => ?_)
        have h := h τ61 eτ61
        refine g_goto (pc := 64) (tgt := 77) X (by decide) dX5_change_64 ?_
        refine g_iload_n (pc := 77) X rfl 0 rfl dX5_change_77 ?_
        exact g_retMi (pc := 78) X hK hr hlk dX5_change_78 h
      · have h := ite_f c_1_2 h
        refine g_tabO (pc := 1) (tgt := 67) X (tabOut (fun z z1 z2 => ?_)) (by decide) dX5_change_1 ?_
        · rcases (show z = 0 ∨ z = 1 ∨ z = 2 by omega) with rfl | rfl | rfl
          · exact lv_neT c_1_0 (by decide)
          · exact lv_neT c_1_1 (by decide)
          · exact lv_neT c_1_2 (by decide)
        · refine g_aload_n (pc := 67) X rfl 0 rfl dX5_change_67 ?_
          refine fX5_19 (pc := 68) X hK hR hk0 dX5_change_68 ?_
          refine g_istore_n (pc := 71) (lv' := [(3, .int (σ k0 3)), (0, .ref (a k0)), (1, .int x1), (2, .int x2)]) X rfl (by decide) rfl dX5_change_71 ?_
          refine g_aload_n (pc := 72) X rfl 1 rfl dX5_change_72 ?_
          refine g_iload_n (pc := 73) X rfl 3 rfl dX5_change_73 ?_
          refine pX5_19 (pc := 74) X hK hk0 dX5_change_74 (fun τ74 eτ74 => ?_)
          have h := h τ74 eτ74
          refine g_iload_n (pc := 77) X rfl 0 rfl dX5_change_77 ?_
          exact g_retMi (pc := 78) X hK hr hlk dX5_change_78 h
set_option maxRecDepth 20000 in
theorem c_X6_set (x1 : Int32) (x2 : Int32) (σ : Sg) (K : Int32 → Sg → Prop) : ∀ sz, Met l yX6_set (.code yX6_set cX6_set 3 (some .int) :: AW) ({ frames := 1, cells := 0, slots := 0, locals := 23 } : Room) (pvM D (tyC cI cZ cS) (SXC tS tF) (wC cI cZ cS a σ) sz (w_X6_set x1 x2 σ K) [.ref (a 0), .int x1, .int x2]) (va_Qi K (atM D (tyC cI cZ cS) (wC cI cZ cS a) (va_A (wC cI cZ cS a σ) sz)) (va_A (wC cI cZ cS a σ) sz)) 0 0 (va_A (wC cI cZ cS a σ) sz) := by
  intro sz
  refine met_Mi (own := "TrainNote") (lv := [(0, .ref (a 0)), (1, .int x1), (2, .int x2)]) (by decide +kernel) rfl (Nat.le_of_ble_eq_true rfl) rfl ?_
  intro p e s m args below meth c A X hK hX hA hr hlk h
  have hR : ∀ σ H locs, hpM D (wC cI cZ cS a) A s σ H locs → va_P D vwCl ((wC cI cZ cS a σ)) H := fun _ _ _ h => h.1
  have hok := SXC_ok tS tF
  refine g_iload_n (pc := 0) X rfl 1 rfl dX6_set_0 ?_
  refine g_if_lt (pc := 1) (tgt := 25) X (by decide) dX6_set_1 (fun c_1 => ?_) (fun c_1 => ?_)
  · have h := ite_t c_1 h
    refine g_bipush (pc := 25) X bp_m2 dX6_set_25 ?_
    exact g_retMi (pc := 27) X hK hr hlk dX6_set_27 h
  · have h := ite_f c_1 h
    refine g_iload_n (pc := 4) X rfl 1 rfl dX6_set_4 ?_
    refine s_124 (pc := 5) X hX dX6_set_5 ?_
    refine s_124_len (pc := 8) X hX dX6_set_8 ?_
    refine g_icmp_ge (pc := 9) (tgt := 25) X (by decide) dX6_set_9 (fun c_9 => ?_) (fun c_9 => ?_)
    · have h := ite_t c_9 h
      refine g_bipush (pc := 25) X bp_m2 dX6_set_25 ?_
      exact g_retMi (pc := 27) X hK hr hlk dX6_set_27 h
    · have h := ite_f c_9 h
      refine g_iload_n (pc := 12) X rfl 2 rfl dX6_set_12 ?_
      refine g_if_lt (pc := 13) (tgt := 25) X (by decide) dX6_set_13 (fun c_13 => ?_) (fun c_13 => ?_)
      · have h := ite_t c_13 h
        refine g_bipush (pc := 25) X bp_m2 dX6_set_25 ?_
        exact g_retMi (pc := 27) X hK hr hlk dX6_set_27 h
      · have h := ite_f c_13 h
        refine g_iload_n (pc := 16) X rfl 2 rfl dX6_set_16 ?_
        refine s_124 (pc := 17) X hX dX6_set_17 ?_
        refine g_iload_n (pc := 20) X rfl 1 rfl dX6_set_20 ?_
        obtain ⟨h_21, h⟩ := h
        refine s_124_ld (pc := 21) X hX h_21 dX6_set_21 ?_
        refine g_icmp_lt (pc := 22) (tgt := 28) X (by decide) dX6_set_22 (fun c_22 => ?_) (fun c_22 => ?_)
        · have h := ite_t c_22 h
          refine g_aload_n (pc := 28) X rfl 0 rfl dX6_set_28 ?_
          refine fX6_41 (pc := 29) X hK hR k_isTop_0 dX6_set_29 ?_
          refine g_iload_n (pc := 32) X rfl 1 rfl dX6_set_32 ?_
          refine g_iload_n (pc := 33) X rfl 2 rfl dX6_set_33 ?_
          refine g_cVMi (pc := 34) (As := [.int x1, .int x2]) X hK hX hok hA mi_X5_change (c_X5_change (k0 := 26) k_isTr_26 x1 x2 σ _) (fun _ => ⟨_, wl_ate (oX5 (cI := cI) (cZ := cZ) (cS := cS) (a := a) k_isTr_26).1 ((oX5 (cI := cI) (cZ := cZ) (cS := cS) (a := a) k_isTr_26).2 _)⟩) rfl rfl kw2_73 ⟨rfl, rfl⟩ ⟨Nat.le_of_ble_eq_true rfl, Nat.le_of_ble_eq_true rfl⟩ rfl (Nat.le_of_ble_eq_true rfl) dX6_set_34 rfl h (fun r34 τ34 h => ?_)
          exact g_retMi (pc := 37) X hK hr hlk dX6_set_37 h
        · have h := ite_f c_22 h
          refine g_bipush (pc := 25) X bp_m2 dX6_set_25 ?_
          exact g_retMi (pc := 27) X hK hr hlk dX6_set_27 h
set_option maxRecDepth 20000 in
theorem c_X5_pitchAt {k0 : Nat} (hk0 : isTr k0) (x1 : Int32) (σ : Sg) (K : Int32 → Prop) : Met l yX5_pitchAt (.code yX5_pitchAt cX5_pitchAt 2 (some .int) :: AW) ({ frames := 0, cells := 0, slots := 0, locals := 0 } : Room) (pvP D (tyC cI cZ cS) (wC cI cZ cS a σ) (w_X5_pitchAt k0 x1 σ K) [.ref (a k0), .int x1]) (vp_Si K) 0 0 (fun _ => False) := by
  refine met_Pi (own := "TrainNote$Train") (lv := [(0, .ref (a k0)), (1, .int x1)]) (by decide +kernel) rfl (Nat.le_of_ble_eq_true rfl) rfl ?_
  intro p e s m args below meth c X hK hr hlk h
  have hR : ∀ σ H locs, hpP D (wC cI cZ cS a) s σ H locs → va_P D vwCl ((wC cI cZ cS a σ)) H := fun _ _ _ h => h.1
  refine g_sipush (pc := 0) X sp_1000 dX5_pitchAt_0 ?_
  refine g_aload_n (pc := 3) X rfl 0 rfl dX5_pitchAt_3 ?_
  refine fX5_7 (pc := 4) X hK hR hk0 dX5_pitchAt_4 ?_
  refine g_iadd (pc := 7) X dX5_pitchAt_7 ?_
  refine g_aload_n (pc := 8) X rfl 0 rfl dX5_pitchAt_8 ?_
  refine fX5_7 (pc := 9) X hK hR hk0 dX5_pitchAt_9 ?_
  refine g_iload_n (pc := 12) X rfl 1 rfl dX5_pitchAt_12 ?_
  refine g_aload_n (pc := 13) X rfl 0 rfl dX5_pitchAt_13 ?_
  refine fX5_13 (pc := 14) X hK hR hk0 dX5_pitchAt_14 ?_
  refine g_iadd (pc := 17) X dX5_pitchAt_17 ?_
  refine g_imul (pc := 18) X dX5_pitchAt_18 ?_
  refine g_iconst (pc := 19) X ic_4 dX5_pitchAt_19 ?_
  refine g_idiv (pc := 20) X (by decide) dX5_pitchAt_20 ?_
  refine g_isub (pc := 21) X dX5_pitchAt_21 ?_
  refine g_bipush (pc := 22) X bp_9 dX5_pitchAt_22 ?_
  refine g_isub (pc := 24) X dX5_pitchAt_24 ?_
  refine g_aload_n (pc := 25) X rfl 0 rfl dX5_pitchAt_25 ?_
  refine fX5_16 (pc := 26) X hK hR hk0 dX5_pitchAt_26 ?_
  refine g_iadd (pc := 29) X dX5_pitchAt_29 ?_
  exact g_retPi (pc := 30) X hr hlk dX5_pitchAt_30 h
set_option maxRecDepth 20000 in
theorem c_X6_whistle (x1 : Int32) (σ : Sg) (K : Int32 → Prop) : Met l yX6_whistle (.code yX6_whistle cX6_whistle 2 (some .int) :: AW) ({ frames := 1, cells := 0, slots := 0, locals := 21 } : Room) (pvP D (tyC cI cZ cS) (wC cI cZ cS a σ) (w_X6_whistle x1 σ K) [.ref (a 0), .int x1]) (vp_Si K) 0 0 (fun _ => False) := by
  refine met_Pi (own := "TrainNote") (lv := [(0, .ref (a 0)), (1, .int x1)]) (by decide +kernel) rfl (Nat.le_of_ble_eq_true rfl) rfl ?_
  intro p e s m args below meth c X hK hr hlk h
  have hR : ∀ σ H locs, hpP D (wC cI cZ cS a) s σ H locs → va_P D vwCl ((wC cI cZ cS a σ)) H := fun _ _ _ h => h.1
  refine g_iload_n (pc := 0) X rfl 1 rfl dX6_whistle_0 ?_
  refine g_if_lt (pc := 1) (tgt := 10) X (by decide) dX6_whistle_1 (fun c_1 => ?_) (fun c_1 => ?_)
  · have h := ite_t c_1 h
    refine g_sipush (pc := 10) X sp_m10002 dX6_whistle_10 ?_
    refine g_goto (pc := 13) (tgt := 24) X (by decide) dX6_whistle_13 ?_
    exact g_retPi (pc := 24) X hr hlk dX6_whistle_24 h
  · have h := ite_f c_1 h
    refine g_iload_n (pc := 4) X rfl 1 rfl dX6_whistle_4 ?_
    refine g_bipush (pc := 5) X bp_10 dX6_whistle_5 ?_
    refine g_icmp_lt (pc := 7) (tgt := 16) X (by decide) dX6_whistle_7 (fun c_7 => ?_) (fun c_7 => ?_)
    · have h := ite_t c_7 h
      refine g_aload_n (pc := 16) X rfl 0 rfl dX6_whistle_16 ?_
      refine fX6_41 (pc := 17) X hK hR k_isTop_0 dX6_whistle_17 ?_
      refine g_iload_n (pc := 20) X rfl 1 rfl dX6_whistle_20 ?_
      refine g_cVPi (pc := 21) (As := [.int x1]) X hK hR mi_X5_pitchAt (c_X5_pitchAt (k0 := 26) k_isTr_26 x1 σ _) (wl_ate (oX5 (cI := cI) (cZ := cZ) (cS := cS) (a := a) k_isTr_26).1 ((oX5 (cI := cI) (cZ := cZ) (cS := cS) (a := a) k_isTr_26).2 _)) rfl rfl kw2_81 ⟨rfl, rfl⟩ ⟨Nat.le_of_ble_eq_true rfl, Nat.le_of_ble_eq_true rfl⟩ rfl (Nat.le_of_ble_eq_true rfl) dX6_whistle_21 rfl h (fun r21 h => ?_)
      exact g_retPi (pc := 24) X hr hlk dX6_whistle_24 h
    · have h := ite_f c_7 h
      refine g_sipush (pc := 10) X sp_m10002 dX6_whistle_10 ?_
      refine g_goto (pc := 13) (tgt := 24) X (by decide) dX6_whistle_13 ?_
      exact g_retPi (pc := 24) X hr hlk dX6_whistle_24 h
set_option maxRecDepth 20000 in
theorem c_X6_isNoChoice (x0 : Int32) (K : Int32 → Prop) : Met l yX6_isNoChoice (.code yX6_isNoChoice cX6_isNoChoice 1 (some .boolean) :: AW) ({ frames := 0, cells := 0, slots := 0, locals := 0 } : Room) (pv0 (w_X6_isNoChoice x0 K) [.int x0]) (vp_Si K) 0 0 (fun _ => False) := by
  refine met_0i (own := "TrainNote") (lv := [(0, .int x0)]) (fun _ _ => 0) (by decide +kernel) rfl (Nat.le_of_ble_eq_true rfl) rfl ?_
  intro p e s m args below meth c X hr hlk h
  refine g_iload_n (pc := 0) X rfl 0 rfl dX6_isNoChoice_0 ?_
  refine g_if_lt (pc := 1) (tgt := 9) X (by decide) dX6_isNoChoice_1 (fun c_1 => ?_) (fun c_1 => ?_)
  · have h := ite_t c_1 h
    refine g_iconst (pc := 9) X ic_1 dX6_isNoChoice_9 ?_
    refine g_goto (pc := 10) (tgt := 14) X (by decide) dX6_isNoChoice_10 ?_
    exact g_ret0z (pc := 14) X hr hlk dX6_isNoChoice_14 (Or.inr rfl) h
  · have h := ite_f c_1 h
    refine g_iload_n (pc := 4) X rfl 0 rfl dX6_isNoChoice_4 ?_
    refine g_iconst (pc := 5) X ic_1 dX6_isNoChoice_5 ?_
    refine g_icmp_le (pc := 6) (tgt := 13) X (by decide) dX6_isNoChoice_6 (fun c_6 => ?_) (fun c_6 => ?_)
    · have h := ite_t c_6 h
      refine g_iconst (pc := 13) X ic_0 dX6_isNoChoice_13 ?_
      exact g_ret0z (pc := 14) X hr hlk dX6_isNoChoice_14 (Or.inl rfl) h
    · have h := ite_f c_6 h
      refine g_iconst (pc := 9) X ic_1 dX6_isNoChoice_9 ?_
      refine g_goto (pc := 10) (tgt := 14) X (by decide) dX6_isNoChoice_10 ?_
      exact g_ret0z (pc := 14) X hr hlk dX6_isNoChoice_14 (Or.inr rfl) h
set_option maxRecDepth 20000 in
theorem c_X6_ear (x1 : Int32) (x2 : Int32) (σ : Sg) (K : Int32 → Prop) : Met l yX6_ear (.code yX6_ear cX6_ear 3 (some .int) :: AW) ({ frames := 1, cells := 0, slots := 0, locals := 21 } : Room) (pvP D (tyC cI cZ cS) (wC cI cZ cS a σ) (w_X6_ear x1 x2 σ K) [.ref (a 0), .int x1, .int x2]) (vp_Si K) 0 0 (fun _ => False) := by
  refine met_Pi (own := "TrainNote") (lv := [(0, .ref (a 0)), (1, .int x1), (2, .int x2)]) (by decide +kernel) rfl (Nat.le_of_ble_eq_true rfl) rfl ?_
  intro p e s m args below meth c X hK hr hlk h
  have hR : ∀ σ H locs, hpP D (wC cI cZ cS a) s σ H locs → va_P D vwCl ((wC cI cZ cS a σ)) H := fun _ _ _ h => h.1
  refine g_aload_n (pc := 0) X rfl 0 rfl dX6_ear_0 ?_
  refine g_iload_n (pc := 1) X rfl 1 rfl dX6_ear_1 ?_
  refine g_cVPi (pc := 2) (As := [.int x1]) X hK hR mi_X6_isNoSinger (c_X6_isNoSinger x1 σ _) (wl_ate (oX6 (cI := cI) (cZ := cZ) (cS := cS) (a := a) k_isTop_0).1 ((oX6 (cI := cI) (cZ := cZ) (cS := cS) (a := a) k_isTop_0).2 _)) rfl rfl kw2_59 ⟨rfl, rfl⟩ ⟨Nat.le_of_ble_eq_true rfl, Nat.le_of_ble_eq_true rfl⟩ rfl (Nat.le_of_ble_eq_true rfl) dX6_ear_2 rfl h (fun r2 h => ?_)
  refine g_if_ne (pc := 5) (tgt := 15) X (by decide) dX6_ear_5 (fun c_5 => ?_) (fun c_5 => ?_)
  · have h := ite_f c_5 h
    refine g_bipush (pc := 15) X bp_m2 dX6_ear_15 ?_
    exact g_retPi (pc := 17) X hr hlk dX6_ear_17 h
  · have h := ite_t c_5 h
    refine g_iload_n (pc := 8) X rfl 2 rfl dX6_ear_8 ?_
    refine g_cS0i (pc := 9) (As := [.int x2]) X mi_X6_isNoChoice (c_X6_isNoChoice x2 _) kw2_89 ⟨rfl, rfl⟩ ⟨Nat.le_of_ble_eq_true rfl, Nat.le_of_ble_eq_true rfl⟩ rfl (Nat.le_of_ble_eq_true rfl) dX6_ear_9 rfl h (fun r9 h => ?_)
    refine g_if_eq (pc := 12) (tgt := 18) X (by decide) dX6_ear_12 (fun c_12 => ?_) (fun c_12 => ?_)
    · have h := ite_t c_12 h
      refine g_iload_n (pc := 18) X rfl 2 rfl dX6_ear_18 ?_
      refine g_if_ne (pc := 19) (tgt := 34) X (by decide) dX6_ear_19 (fun c_19 => ?_) (fun c_19 => ?_)
      · have h := ite_f c_19 h
        refine g_aload_n (pc := 34) X rfl 0 rfl dX6_ear_34 ?_
        refine fX6_24 (pc := 35) X hK hR k_isTop_0 dX6_ear_35 ?_
        refine fX6_141 (pc := 38) X hK hR k_isCh_5 dX6_ear_38 ?_
        refine g_iload_n (pc := 41) X rfl 1 rfl dX6_ear_41 ?_
        obtain ⟨h_42, h⟩ := h
        refine aX0_steps (pc := 42) X hK hR k_isCh_5 h_42 dX6_ear_42 ?_
        exact g_retPi (pc := 43) X hr hlk dX6_ear_43 h
      · have h := ite_t c_19 h
        refine g_aload_n (pc := 22) X rfl 0 rfl dX6_ear_22 ?_
        refine fX6_24 (pc := 23) X hK hR k_isTop_0 dX6_ear_23 ?_
        refine fX6_138 (pc := 26) X hK hR k_isCh_5 dX6_ear_26 ?_
        refine g_iload_n (pc := 29) X rfl 1 rfl dX6_ear_29 ?_
        obtain ⟨h_30, h⟩ := h
        refine aX0_neighbour (pc := 30) X hK hR k_isCh_5 h_30 dX6_ear_30 ?_
        refine g_goto (pc := 31) (tgt := 43) X (by decide) dX6_ear_31 ?_
        exact g_retPi (pc := 43) X hr hlk dX6_ear_43 h
    · have h := ite_f c_12 h
      refine g_bipush (pc := 15) X bp_m2 dX6_ear_15 ?_
      exact g_retPi (pc := 17) X hr hlk dX6_ear_17 h
set_option maxRecDepth 20000 in
theorem c_X6_isNoBar (x1 : Int32) (σ : Sg) (K : Int32 → Prop) : Met l yX6_isNoBar (.code yX6_isNoBar cX6_isNoBar 2 (some .boolean) :: AW) ({ frames := 0, cells := 0, slots := 0, locals := 0 } : Room) (pvP D (tyC cI cZ cS) (wC cI cZ cS a σ) (w_X6_isNoBar x1 σ K) [.ref (a 0), .int x1]) (vp_Si K) 0 0 (fun _ => False) := by
  refine met_Pi (own := "TrainNote") (lv := [(0, .ref (a 0)), (1, .int x1)]) (by decide +kernel) rfl (Nat.le_of_ble_eq_true rfl) rfl ?_
  intro p e s m args below meth c X hK hr hlk h
  have hR : ∀ σ H locs, hpP D (wC cI cZ cS a) s σ H locs → va_P D vwCl ((wC cI cZ cS a σ)) H := fun _ _ _ h => h.1
  refine g_iload_n (pc := 0) X rfl 1 rfl dX6_isNoBar_0 ?_
  refine g_if_lt (pc := 1) (tgt := 15) X (by decide) dX6_isNoBar_1 (fun c_1 => ?_) (fun c_1 => ?_)
  · have h := ite_t c_1 h
    refine g_iconst (pc := 15) X ic_1 dX6_isNoBar_15 ?_
    refine g_goto (pc := 16) (tgt := 20) X (by decide) dX6_isNoBar_16 ?_
    exact g_retPz (pc := 20) X hr hlk dX6_isNoBar_20 (Or.inr rfl) h
  · have h := ite_f c_1 h
    refine g_iload_n (pc := 4) X rfl 1 rfl dX6_isNoBar_4 ?_
    refine g_aload_n (pc := 5) X rfl 0 rfl dX6_isNoBar_5 ?_
    refine fX6_34 (pc := 6) X hK hR k_isTop_0 dX6_isNoBar_6 ?_
    refine fX6_120 (pc := 9) X hK hR k_isSo_23 dX6_isNoBar_9 ?_
    refine g_icmp_lt (pc := 12) (tgt := 19) X (by decide) dX6_isNoBar_12 (fun c_12 => ?_) (fun c_12 => ?_)
    · have h := ite_t c_12 h
      refine g_iconst (pc := 19) X ic_0 dX6_isNoBar_19 ?_
      exact g_retPz (pc := 20) X hr hlk dX6_isNoBar_20 (Or.inl rfl) h
    · have h := ite_f c_12 h
      refine g_iconst (pc := 15) X ic_1 dX6_isNoBar_15 ?_
      refine g_goto (pc := 16) (tgt := 20) X (by decide) dX6_isNoBar_16 ?_
      exact g_retPz (pc := 20) X hr hlk dX6_isNoBar_20 (Or.inr rfl) h
set_option maxRecDepth 20000 in
theorem c_X6_noteBehind (x0 : Int32) {k1 : Nat} (hk1 : isCh k1) {k2 : Nat} (hk2 : isTr k2) (x3 : Int32) (σ : Sg) (K : Int32 → Prop) : Met l yX6_noteBehind (.code yX6_noteBehind cX6_noteBehind 5 (some .int) :: AW) ({ frames := 1, cells := 0, slots := 0, locals := 21 } : Room) (pvP D (tyC cI cZ cS) (wC cI cZ cS a σ) (w_X6_noteBehind x0 k1 k2 x3 σ K) [.int x0, .ref (a k1), .ref (a k2), .int x3]) (vp_Si K) 0 0 (fun _ => False) := by
  refine met_Pi (own := "TrainNote") (lv := [(0, .int x0), (1, .ref (a k1)), (2, .ref (a k2)), (3, .int x3)]) (by decide +kernel) rfl (Nat.le_of_ble_eq_true rfl) rfl ?_
  intro p e s m args below meth c X hK hr hlk h
  have hR : ∀ σ H locs, hpP D (wC cI cZ cS a) s σ H locs → va_P D vwCl ((wC cI cZ cS a σ)) H := fun _ _ _ h => h.1
  refine g_aload_n (pc := 0) X rfl 1 rfl dX6_noteBehind_0 ?_
  refine fX6_366 (pc := 1) X hK hR hk1 dX6_noteBehind_1 ?_
  refine g_iload_n (pc := 4) X rfl 3 rfl dX6_noteBehind_4 ?_
  obtain ⟨h_5, h⟩ := h
  refine aX0_source (pc := 5) X hK hR hk1 h_5 dX6_noteBehind_5 ?_
  refine g_topi (fun x4_6 ex4_6 => ?_)
  have h := h x4_6 ex4_6
  refine g_istore (pc := 6) (lv' := [(4, .int x4_6), (0, .int x0), (1, .ref (a k1)), (2, .ref (a k2)), (3, .int x3)]) X (by decide) rfl dX6_noteBehind_6 ?_
  refine g_iload (pc := 8) X 0 rfl dX6_noteBehind_8 ?_
  refine g_iconst (pc := 10) X ic_m1 dX6_noteBehind_10 ?_
  refine g_icmp_ne (pc := 11) (tgt := 18) X (by decide) dX6_noteBehind_11 (fun c_11 => ?_) (fun c_11 => ?_)
  · have h := ite_f c_11 h
    refine g_aload_n (pc := 18) X rfl 3 rfl dX6_noteBehind_18 ?_
    refine g_aload_n (pc := 19) X rfl 2 rfl dX6_noteBehind_19 ?_
    refine fX6_107 (pc := 20) X hK hR hk1 dX6_noteBehind_20 ?_
    refine g_iload (pc := 23) X 0 rfl dX6_noteBehind_23 ?_
    obtain ⟨h_25, h⟩ := h
    refine aX0_place (pc := 25) X hK hR hk1 h_25 dX6_noteBehind_25 ?_
    refine g_cVPi (pc := 26) (As := [.int (σ (k1 + 1) (x4_6).toNatClampNeg)]) X hK hR mi_X5_pitchAt (c_X5_pitchAt (k0 := k2) hk2 (σ (k1 + 1) (x4_6).toNatClampNeg) σ _) (wl_ate (oX5 (cI := cI) (cZ := cZ) (cS := cS) (a := a) hk2).1 ((oX5 (cI := cI) (cZ := cZ) (cS := cS) (a := a) hk2).2 _)) rfl rfl kw2_81 ⟨rfl, rfl⟩ ⟨Nat.le_of_ble_eq_true rfl, Nat.le_of_ble_eq_true rfl⟩ rfl (Nat.le_of_ble_eq_true rfl) dX6_noteBehind_26 rfl h (fun r26 h => ?_)
    refine g_aload_n (pc := 29) X rfl 2 rfl dX6_noteBehind_29 ?_
    refine fX6_369 (pc := 30) X hK hR hk1 dX6_noteBehind_30 ?_
    refine g_iload_n (pc := 33) X rfl 4 rfl dX6_noteBehind_33 ?_
    obtain ⟨h_34, h⟩ := h
    refine aX0_error (pc := 34) X hK hR hk1 h_34 dX6_noteBehind_34 ?_
    refine g_iadd (pc := 35) X dX6_noteBehind_35 ?_
    refine g_aload_n (pc := 36) X rfl 2 rfl dX6_noteBehind_36 ?_
    refine fX6_113 (pc := 37) X hK hR hk1 dX6_noteBehind_37 ?_
    refine g_iload_n (pc := 40) X rfl 4 rfl dX6_noteBehind_40 ?_
    obtain ⟨h_41, h⟩ := h
    refine aX0_sinks (pc := 41) X hK hR hk1 h_41 dX6_noteBehind_41 ?_
    refine g_iload_n (pc := 42) X rfl 1 rfl dX6_noteBehind_42 ?_
    refine g_imul (pc := 43) X dX6_noteBehind_43 ?_
    refine g_isub (pc := 44) X dX6_noteBehind_44 ?_
    exact g_retPi (pc := 45) X hr hlk dX6_noteBehind_45 h
  · have h := ite_t c_11 h
    refine g_sipush (pc := 14) X sp_m10000 dX6_noteBehind_14 ?_
    exact g_retPi (pc := 17) X hr hlk dX6_noteBehind_17 h
end
