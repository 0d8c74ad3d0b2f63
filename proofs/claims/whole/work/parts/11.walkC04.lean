section
variable {l : Launch} {D : va_G} {cI cZ cS : ClassId} {a : Nat → Nat} {tS tF : Nat}
set_option maxRecDepth 20000 in
theorem c_X6_forget (σ : Sg) (K : Int32 → Sg → Prop) : ∀ sz, Met l yX6_forget (.code yX6_forget cX6_forget 2 (some .int) :: AW) ({ frames := 0, cells := 0, slots := 0, locals := 0 } : Room) (pvM D (tyC cI cZ cS) (SXC tS tF) (wC cI cZ cS a σ) sz (w_X6_forget σ K) [.ref (a 0)]) (va_Qi K (atM D (tyC cI cZ cS) (wC cI cZ cS a) (va_A (wC cI cZ cS a σ) sz)) (va_A (wC cI cZ cS a σ) sz)) 0 0 (va_A (wC cI cZ cS a σ) sz) := by
  intro sz
  refine met_Mi (own := "TrainNote") (lv := [(0, .ref (a 0))]) (by decide +kernel) rfl (Nat.le_of_ble_eq_true rfl) rfl ?_
  intro p e s m args below meth c A X hK hX hA hr hlk h
  have hR : ∀ σ H locs, hpM D (wC cI cZ cS a) A s σ H locs → va_P D vwCl ((wC cI cZ cS a σ)) H := fun _ _ _ h => h.1
  have hok := SXC_ok tS tF
  refine g_aload_n (pc := 0) X rfl 0 rfl dX6_forget_0 ?_
  refine fX6_51 (pc := 1) X hK hR k_isTop_0 dX6_forget_1 ?_
  refine fX6_210 (pc := 4) X hK hR k_isMe_28 dX6_forget_4 ?_
  refine g_istore_n (pc := 7) (lv' := [(1, .int (σ 28 0)), (0, .ref (a 0))]) X rfl (by decide) rfl dX6_forget_7 ?_
  refine g_aload_n (pc := 8) X rfl 1 rfl dX6_forget_8 ?_
  refine fX6_51 (pc := 9) X hK hR k_isTop_0 dX6_forget_9 ?_
  refine g_iconst (pc := 12) X ic_0 dX6_forget_12 ?_
  refine pX6_210 (pc := 13) X hK k_isMe_28 dX6_forget_13 (fun τ13 eτ13 => ?_)
  have h := h τ13 eτ13
  refine g_iload_n (pc := 16) X rfl 0 rfl dX6_forget_16 ?_
  exact g_retMi (pc := 17) X hK hr hlk dX6_forget_17 h
set_option maxRecDepth 20000 in
theorem c_X6_isNoSheet (x0 : Int32) (K : Int32 → Prop) : Met l yX6_isNoSheet (.code yX6_isNoSheet cX6_isNoSheet 1 (some .boolean) :: AW) ({ frames := 0, cells := 0, slots := 0, locals := 0 } : Room) (pv0 (w_X6_isNoSheet x0 K) [.int x0]) (vp_Si K) 0 0 (fun _ => False) := by
  refine met_0i (own := "TrainNote") (lv := [(0, .int x0)]) (fun _ _ => 0) (by decide +kernel) rfl (Nat.le_of_ble_eq_true rfl) rfl ?_
  intro p e s m args below meth c X hr hlk h
  refine g_iload_n (pc := 0) X rfl 0 rfl dX6_isNoSheet_0 ?_
  refine g_if_lt (pc := 1) (tgt := 9) X (by decide) dX6_isNoSheet_1 (fun c_1 => ?_) (fun c_1 => ?_)
  · have h := ite_t c_1 h
    refine g_iconst (pc := 9) X ic_1 dX6_isNoSheet_9 ?_
    refine g_goto (pc := 10) (tgt := 14) X (by decide) dX6_isNoSheet_10 ?_
    exact g_ret0z (pc := 14) X hr hlk dX6_isNoSheet_14 (Or.inr rfl) h
  · have h := ite_f c_1 h
    refine g_iload_n (pc := 4) X rfl 0 rfl dX6_isNoSheet_4 ?_
    refine g_iconst (pc := 5) X ic_4 dX6_isNoSheet_5 ?_
    refine g_icmp_lt (pc := 6) (tgt := 13) X (by decide) dX6_isNoSheet_6 (fun c_6 => ?_) (fun c_6 => ?_)
    · have h := ite_t c_6 h
      refine g_iconst (pc := 13) X ic_0 dX6_isNoSheet_13 ?_
      exact g_ret0z (pc := 14) X hr hlk dX6_isNoSheet_14 (Or.inl rfl) h
    · have h := ite_f c_6 h
      refine g_iconst (pc := 9) X ic_1 dX6_isNoSheet_9 ?_
      refine g_goto (pc := 10) (tgt := 14) X (by decide) dX6_isNoSheet_10 ?_
      exact g_ret0z (pc := 14) X hr hlk dX6_isNoSheet_14 (Or.inr rfl) h
set_option maxRecDepth 20000 in
theorem c_X2_isLost {k0 : Nat} (hk0 : isSh k0) (σ : Sg) (K : Int32 → Prop) : Met l yX2_isLost (.code yX2_isLost cX2_isLost 1 (some .boolean) :: AW) ({ frames := 0, cells := 0, slots := 0, locals := 0 } : Room) (pvP D (tyC cI cZ cS) (wC cI cZ cS a σ) (w_X2_isLost k0 σ K) [.ref (a k0)]) (vp_Si K) 0 0 (fun _ => False) := by
  refine met_Pi (own := "TrainNote$Sheet") (lv := [(0, .ref (a k0))]) (by decide +kernel) rfl (Nat.le_of_ble_eq_true rfl) rfl ?_
  intro p e s m args below meth c X hK hr hlk h
  have hR : ∀ σ H locs, hpP D (wC cI cZ cS a) s σ H locs → va_P D vwCl ((wC cI cZ cS a σ)) H := fun _ _ _ h => h.1
  refine g_aload_n (pc := 0) X rfl 0 rfl dX2_isLost_0 ?_
  refine fX2_15 (pc := 1) X hK hR hk0 dX2_isLost_1 ?_
  refine g_iconst (pc := 4) X ic_m1 dX2_isLost_4 ?_
  refine g_icmp_ne (pc := 5) (tgt := 12) X (by decide) dX2_isLost_5 (fun c_5 => ?_) (fun c_5 => ?_)
  · have h := ite_f c_5 h
    refine g_iconst (pc := 12) X ic_0 dX2_isLost_12 ?_
    exact g_retPz (pc := 13) X hr hlk dX2_isLost_13 (Or.inl rfl) h
  · have h := ite_t c_5 h
    refine g_iconst (pc := 8) X ic_1 dX2_isLost_8 ?_
    refine g_goto (pc := 9) (tgt := 13) X (by decide) dX2_isLost_9 ?_
    exact g_retPz (pc := 13) X hr hlk dX2_isLost_13 (Or.inr rfl) h
set_option maxRecDepth 20000 in
theorem c_X6_find (x1 : Int32) (σ : Sg) (K : Int32 → Sg → Prop) : ∀ sz, Met l yX6_find (.code yX6_find cX6_find 2 (some .int) :: AW) ({ frames := 0, cells := 0, slots := 0, locals := 0 } : Room) (pvM D (tyC cI cZ cS) (SXC tS tF) (wC cI cZ cS a σ) sz (w_X6_find x1 σ K) [.ref (a 0), .int x1]) (va_Qi K (atM D (tyC cI cZ cS) (wC cI cZ cS a) (va_A (wC cI cZ cS a σ) sz)) (va_A (wC cI cZ cS a σ) sz)) 0 0 (va_A (wC cI cZ cS a σ) sz) := by
  intro sz
  refine met_Mi (own := "TrainNote") (lv := [(0, .ref (a 0)), (1, .int x1)]) (by decide +kernel) rfl (Nat.le_of_ble_eq_true rfl) rfl ?_
  intro p e s m args below meth c A X hK hX hA hr hlk h
  have hR : ∀ σ H locs, hpM D (wC cI cZ cS a) A s σ H locs → va_P D vwCl ((wC cI cZ cS a σ)) H := fun _ _ _ h => h.1
  have hok := SXC_ok tS tF
  refine g_aload_n (pc := 0) X rfl 0 rfl dX6_find_0 ?_
  refine g_iload_n (pc := 1) X rfl 1 rfl dX6_find_1 ?_
  refine pX6_69 (pc := 2) X hK k_isTop_0 dX6_find_2 (fun τ2 eτ2 => ?_)
  have h := h τ2 eτ2
  refine g_bipush (pc := 5) X bp_m10 dX6_find_5 ?_
  refine g_iload_n (pc := 7) X rfl 1 rfl dX6_find_7 ?_
  refine g_isub (pc := 8) X dX6_find_8 ?_
  exact g_retMi (pc := 9) X hK hr hlk dX6_find_9 h
set_option maxRecDepth 20000 in
theorem c_X6_read (x1 : Int32) (σ : Sg) (K : Int32 → Sg → Prop) : ∀ sz, Met l yX6_read (.code yX6_read cX6_read 5 (some .int) :: AW) ({ frames := 2, cells := 0, slots := 0, locals := 43 } : Room) (pvM D (tyC cI cZ cS) (SXC tS tF) (wC cI cZ cS a σ) sz (w_X6_read x1 σ K) [.ref (a 0), .int x1]) (va_Qi K (atM D (tyC cI cZ cS) (wC cI cZ cS a) (va_A (wC cI cZ cS a σ) sz)) (va_A (wC cI cZ cS a σ) sz)) 0 0 (va_A (wC cI cZ cS a σ) sz) := by
  intro sz
  refine met_Mi (own := "TrainNote") (lv := [(0, .ref (a 0)), (1, .int x1)]) (by decide +kernel) rfl (Nat.le_of_ble_eq_true rfl) rfl ?_
  intro p e s m args below meth c A X hK hX hA hr hlk h
  have hR : ∀ σ H locs, hpM D (wC cI cZ cS a) A s σ H locs → va_P D vwCl ((wC cI cZ cS a σ)) H := fun _ _ _ h => h.1
  have hok := SXC_ok tS tF
  refine g_iload_n (pc := 0) X rfl 1 rfl dX6_read_0 ?_
  refine g_cS0i (pc := 1) (As := [.int x1]) X mi_X6_isNoSheet (c_X6_isNoSheet x1 _) kw2_213 ⟨rfl, rfl⟩ ⟨Nat.le_of_ble_eq_true rfl, Nat.le_of_ble_eq_true rfl⟩ rfl (Nat.le_of_ble_eq_true rfl) dX6_read_1 rfl h (fun r1 h => ?_)
  refine g_if_eq (pc := 4) (tgt := 10) X (by decide) dX6_read_4 (fun c_4 => ?_) (fun c_4 => ?_)
  · have h := ite_t c_4 h
    refine g_aload_n (pc := 10) X rfl 0 rfl dX6_read_10 ?_
    refine fX6_58 (pc := 11) X hK hR k_isTop_0 dX6_read_11 ?_
    refine g_iload_n (pc := 14) X rfl 1 rfl dX6_read_14 ?_
    obtain ⟨h_15, h⟩ := h
    refine aX6_sheets (pc := 15) X hK hR h_15 dX6_read_15 ?_
    refine g_astore_n (pc := 16) (lv' := [(2, .ref (a (33 + 2 * (x1).toNatClampNeg))), (0, .ref (a 0)), (1, .int x1)]) X rfl (by decide) rfl dX6_read_16 ?_
    refine g_aload_n (pc := 17) X rfl 0 rfl dX6_read_17 ?_
    refine g_cVPi (pc := 18) (As := []) X hK hR mi_X2_isLost (c_X2_isLost (k0 := (33 + 2 * (x1).toNatClampNeg)) (shIn h_15) σ _) (wl_ate (oX2 (cI := cI) (cZ := cZ) (cS := cS) (a := a) (shIn h_15)).1 ((oX2 (cI := cI) (cZ := cZ) (cS := cS) (a := a) (shIn h_15)).2 _)) rfl rfl kw2_216 ⟨rfl, rfl⟩ ⟨Nat.le_of_ble_eq_true rfl, Nat.le_of_ble_eq_true rfl⟩ rfl (Nat.le_of_ble_eq_true rfl) dX6_read_18 rfl h (fun r18 h => ?_)
    refine g_if_eq (pc := 21) (tgt := 30) X (by decide) dX6_read_21 (fun c_21 => ?_) (fun c_21 => ?_)
    · have h := ite_t c_21 h
      refine g_iconst (pc := 30) X ic_0 dX6_read_30 ?_
      refine g_istore_n (pc := 31) (lv' := [(3, .int (0 : Int32)), (2, .ref (a (33 + 2 * (x1).toNatClampNeg))), (0, .ref (a 0)), (1, .int x1)]) X rfl (by decide) rfl dX6_read_31 ?_
      refine g_iconst (pc := 32) X ic_0 dX6_read_32 ?_
      refine g_istore (pc := 33) (lv' := [(4, .int (0 : Int32)), (3, .int (0 : Int32)), (2, .ref (a (33 + 2 * (x1).toNatClampNeg))), (0, .ref (a 0)), (1, .int x1)]) X (by decide) rfl dX6_read_33 ?_
      obtain ⟨n35, h⟩ := h
      have X131 : ∀ (u3_131 : Int32) (ρe131 : Sg), E_X6_read_35 K u3_131 ρe131 → GMi p l e ({ frames := 2, cells := 0, slots := 0, locals := 43 } : Room) s m args below meth c K 5 D (tyC cI cZ cS) (wC cI cZ cS a) A 131 [(3, .int u3_131)] [] ρe131 := by
        intro u3_131 ρe131 h
        refine g_iload_n (pc := 131) X rfl 0 rfl dX6_read_131 ?_
        exact g_retMi (pc := 132) X hK hr hlk dX6_read_132 h
      have L35 : ∀ (n : Nat) (y3_35 : Int32) (y4_35 : Int32) (ρ35 : Sg), lq3 (F_X6_read_35 x1 (E_X6_read_35 K)) n y3_35 y4_35 ρ35 → GMi p l e ({ frames := 2, cells := 0, slots := 0, locals := 43 } : Room) s m args below meth c K 5 D (tyC cI cZ cS) (wC cI cZ cS a) A 35 [(0, .ref (a 0)), (2, .ref (a (33 + 2 * (x1).toNatClampNeg))), (3, .int y3_35), (4, .int y4_35)] [] ρ35 := by
        intro n
        induction n with
        | zero =>
          intro y3_35 y4_35 ρ35 h
          exact h.elim
        | succ n ih =>
          intro y3_35 y4_35 ρ35 h
          have h : F_X6_read_35 x1 (E_X6_read_35 K) (lq3 (F_X6_read_35 x1 (E_X6_read_35 K)) n) y3_35 y4_35 ρ35 := h
          refine g_iload (pc := 35) X 3 rfl dX6_read_35 ?_
          refine g_iconst (pc := 37) X ic_2 dX6_read_37 ?_
          refine g_iadd (pc := 38) X dX6_read_38 ?_
          refine g_aload_n (pc := 39) X rfl 1 rfl dX6_read_39 ?_
          refine fX6_220 (pc := 40) X hK hR (shIn h_15) dX6_read_40 ?_
          refine g_icmp_ge (pc := 43) (tgt := 131) X (by decide) dX6_read_43 (fun c_43 => ?_) (fun c_43 => ?_)
          · have h := ite_t c_43 h
            exact g_lv (X131 y3_35 ρ35 h) [2] rfl
          · have h := ite_f c_43 h
            refine g_aload_n (pc := 46) X rfl 0 rfl dX6_read_46 ?_
            refine fX6_51 (pc := 47) X hK hR k_isTop_0 dX6_read_47 ?_
            refine g_cVPi (pc := 50) (As := []) X hK hR mi_X1_isFull (c_X1_isFull (k0 := 28) k_isMe_28 ρ35 _) (wl_ate (oX1 (cI := cI) (cZ := cZ) (cS := cS) (a := a) k_isMe_28).1 ((oX1 (cI := cI) (cZ := cZ) (cS := cS) (a := a) k_isMe_28).2 _)) rfl rfl kw2_196 ⟨rfl, rfl⟩ ⟨Nat.le_of_ble_eq_true rfl, Nat.le_of_ble_eq_true rfl⟩ rfl (Nat.le_of_ble_eq_true rfl) dX6_read_50 rfl h (fun r50 h => ?_)
            refine g_if_ne (pc := 53) (tgt := 131) X (by decide) dX6_read_53 (fun c_53 => ?_) (fun c_53 => ?_)
            · have h := ite_f c_53 h
              exact g_lv (X131 y3_35 ρ35 h) [2] rfl
            · have h := ite_t c_53 h
              refine g_aload_n (pc := 56) X rfl 1 rfl dX6_read_56 ?_
              refine fX6_221 (pc := 57) X hK hR (shIn h_15) dX6_read_57 ?_
              refine g_iload (pc := 60) X 3 rfl dX6_read_60 ?_
              obtain ⟨h_62, h⟩ := h
              refine aX2_items (pc := 62) X hK hR (shIn h_15) h_62 dX6_read_62 ?_
              refine g_aload_n (pc := 63) X rfl 1 rfl dX6_read_63 ?_
              refine fX6_221 (pc := 64) X hK hR (shIn h_15) dX6_read_64 ?_
              refine g_iload (pc := 67) X 3 rfl dX6_read_67 ?_
              refine g_iconst (pc := 69) X ic_1 dX6_read_69 ?_
              refine g_iadd (pc := 70) X dX6_read_70 ?_
              obtain ⟨h_71, h⟩ := h
              refine aX2_items (pc := 71) X hK hR (shIn h_15) h_71 dX6_read_71 ?_
              refine g_aload_n (pc := 72) X rfl 1 rfl dX6_read_72 ?_
              refine fX6_221 (pc := 73) X hK hR (shIn h_15) dX6_read_73 ?_
              refine g_iload (pc := 76) X 3 rfl dX6_read_76 ?_
              refine g_iconst (pc := 78) X ic_2 dX6_read_78 ?_
              refine g_iadd (pc := 79) X dX6_read_79 ?_
              obtain ⟨h_80, h⟩ := h
              refine aX2_items (pc := 80) X hK hR (shIn h_15) h_80 dX6_read_80 ?_
              refine g_cS0i (pc := 81) (As := [.int (ρ35 ((33 + 2 * (x1).toNatClampNeg) + 1) (y4_35).toNatClampNeg), .int (ρ35 ((33 + 2 * (x1).toNatClampNeg) + 1) ((y4_35 + (1 : Int32))).toNatClampNeg), .int (ρ35 ((33 + 2 * (x1).toNatClampNeg) + 1) ((y4_35 + (2 : Int32))).toNatClampNeg)]) X mi_X1_mayHold (c_X1_mayHold (ρ35 ((33 + 2 * (x1).toNatClampNeg) + 1) (y4_35).toNatClampNeg) (ρ35 ((33 + 2 * (x1).toNatClampNeg) + 1) ((y4_35 + (1 : Int32))).toNatClampNeg) (ρ35 ((33 + 2 * (x1).toNatClampNeg) + 1) ((y4_35 + (2 : Int32))).toNatClampNeg) _) kw2_193 ⟨rfl, rfl⟩ ⟨Nat.le_of_ble_eq_true rfl, Nat.le_of_ble_eq_true rfl⟩ rfl (Nat.le_of_ble_eq_true rfl) dX6_read_81 rfl h (fun r81 h => ?_)
              refine g_if_ne (pc := 84) (tgt := 90) X (by decide) dX6_read_84 (fun c_84 => ?_) (fun c_84 => ?_)
              · have h := ite_f c_84 h
                refine g_aload_n (pc := 90) X rfl 0 rfl dX6_read_90 ?_
                refine fX6_51 (pc := 91) X hK hR k_isTop_0 dX6_read_91 ?_
                refine g_aload_n (pc := 94) X rfl 1 rfl dX6_read_94 ?_
                refine fX6_221 (pc := 95) X hK hR (shIn h_15) dX6_read_95 ?_
                refine g_iload (pc := 98) X 3 rfl dX6_read_98 ?_
                obtain ⟨h_100, h⟩ := h
                refine aX2_items (pc := 100) X hK hR (shIn h_15) h_100 dX6_read_100 ?_
                refine g_aload_n (pc := 101) X rfl 1 rfl dX6_read_101 ?_
                refine fX6_221 (pc := 102) X hK hR (shIn h_15) dX6_read_102 ?_
                refine g_iload (pc := 105) X 3 rfl dX6_read_105 ?_
                refine g_iconst (pc := 107) X ic_1 dX6_read_107 ?_
                refine g_iadd (pc := 108) X dX6_read_108 ?_
                obtain ⟨h_109, h⟩ := h
                refine aX2_items (pc := 109) X hK hR (shIn h_15) h_109 dX6_read_109 ?_
                refine g_aload_n (pc := 110) X rfl 1 rfl dX6_read_110 ?_
                refine fX6_221 (pc := 111) X hK hR (shIn h_15) dX6_read_111 ?_
                refine g_iload (pc := 114) X 3 rfl dX6_read_114 ?_
                refine g_iconst (pc := 116) X ic_2 dX6_read_116 ?_
                refine g_iadd (pc := 117) X dX6_read_117 ?_
                obtain ⟨h_118, h⟩ := h
                refine aX2_items (pc := 118) X hK hR (shIn h_15) h_118 dX6_read_118 ?_
                refine g_cVMv (pc := 119) (As := [.int (ρ35 ((33 + 2 * (x1).toNatClampNeg) + 1) (y4_35).toNatClampNeg), .int (ρ35 ((33 + 2 * (x1).toNatClampNeg) + 1) ((y4_35 + (1 : Int32))).toNatClampNeg), .int (ρ35 ((33 + 2 * (x1).toNatClampNeg) + 1) ((y4_35 + (2 : Int32))).toNatClampNeg)]) X hK hX hok hA mi_X1_keep (c_X1_keep (k0 := 28) k_isMe_28 (ρ35 ((33 + 2 * (x1).toNatClampNeg) + 1) (y4_35).toNatClampNeg) (ρ35 ((33 + 2 * (x1).toNatClampNeg) + 1) ((y4_35 + (1 : Int32))).toNatClampNeg) (ρ35 ((33 + 2 * (x1).toNatClampNeg) + 1) ((y4_35 + (2 : Int32))).toNatClampNeg) ρ35 _) (fun _ => ⟨_, wl_ate (oX1 (cI := cI) (cZ := cZ) (cS := cS) (a := a) k_isMe_28).1 ((oX1 (cI := cI) (cZ := cZ) (cS := cS) (a := a) k_isMe_28).2 _)⟩) rfl rfl kw2_200 ⟨rfl, rfl⟩ ⟨Nat.le_of_ble_eq_true rfl, Nat.le_of_ble_eq_true rfl⟩ rfl (Nat.le_of_ble_eq_true rfl) dX6_read_119 rfl h (fun τ119 h => ?_)
                refine g_iinc (pc := 122) (lv' := [(3, .int (y3_35 + (1 : Int32))), (0, .ref (a 0)), (2, .ref (a (33 + 2 * (x1).toNatClampNeg))), (4, .int y4_35)]) X 2 rfl rfl (by decide) rfl dX6_read_122 ?_
                refine g_iinc (pc := 125) (lv' := [(4, .int (y4_35 + (3 : Int32))), (3, .int (y3_35 + (1 : Int32))), (0, .ref (a 0)), (2, .ref (a (33 + 2 * (x1).toNatClampNeg)))]) X 3 rfl rfl (by decide) rfl dX6_read_125 ?_
                refine g_goto (pc := 128) (tgt := 35) X (by decide) dX6_read_128 ?_
                exact g_lv (ih (y3_35 + (1 : Int32)) (y4_35 + (3 : Int32)) τ119 h) [2, 3, 1, 0] rfl
              · have h := ite_t c_84 h
                refine g_goto (pc := 87) (tgt := 131) X (by decide) dX6_read_87 ?_
                exact g_lv (X131 y3_35 ρ35 h) [2] rfl
      exact g_lv (L35 n35 (0 : Int32) (0 : Int32) σ h) [3, 2, 1, 0] rfl
    · have h := ite_f c_21 h
      refine g_aload_n (pc := 24) X rfl 1 rfl dX6_read_24 ?_
      refine g_iconst (pc := 25) X ic_1 dX6_read_25 ?_
      refine g_cVMi (pc := 26) (As := [.int (1 : Int32)]) X hK hX hok hA mi_X6_find (c_X6_find (1 : Int32) σ _) (fun _ => ⟨_, wl_ate (oX6 (cI := cI) (cZ := cZ) (cS := cS) (a := a) k_isTop_0).1 ((oX6 (cI := cI) (cZ := cZ) (cS := cS) (a := a) k_isTop_0).2 _)⟩) rfl rfl kw2_220 ⟨rfl, rfl⟩ ⟨Nat.le_of_ble_eq_true rfl, Nat.le_of_ble_eq_true rfl⟩ rfl (Nat.le_of_ble_eq_true rfl) dX6_read_26 rfl h (fun r26 τ26 h => ?_)
      exact g_retMi (pc := 29) X hK hr hlk dX6_read_29 h
  · have h := ite_f c_4 h
    refine g_bipush (pc := 7) X bp_m2 dX6_read_7 ?_
    exact g_retMi (pc := 9) X hK hr hlk dX6_read_9 h
set_option maxRecDepth 20000 in
theorem c_X6_allComesOut {k1 : Nat} (hk1 : isTr k1) (σ : Sg) (K : Int32 → Prop) : Met l yX6_allComesOut (.code yX6_allComesOut cX6_allComesOut 5 (some .boolean) :: AW) ({ frames := 2, cells := 0, slots := 0, locals := 45 } : Room) (pvP D (tyC cI cZ cS) (wC cI cZ cS a σ) (w_X6_allComesOut k1 σ K) [.ref (a 0), .ref (a k1)]) (vp_Si K) 0 0 (fun _ => False) := by
  refine met_Pi (own := "TrainNote") (lv := [(0, .ref (a 0)), (1, .ref (a k1))]) (by decide +kernel) rfl (Nat.le_of_ble_eq_true rfl) rfl ?_
  intro p e s m args below meth c X hK hr hlk h
  have hR : ∀ σ H locs, hpP D (wC cI cZ cS a) s σ H locs → va_P D vwCl ((wC cI cZ cS a σ)) H := fun _ _ _ h => h.1
  refine g_iconst (pc := 0) X ic_0 dX6_allComesOut_0 ?_
  refine g_istore_n (pc := 1) (lv' := [(2, .int (0 : Int32)), (0, .ref (a 0)), (1, .ref (a k1))]) X rfl (by decide) rfl dX6_allComesOut_1 ?_
  obtain ⟨n2, h⟩ := h
  have X51 : E_X6_allComesOut_2 K → GPi p l e ({ frames := 2, cells := 0, slots := 0, locals := 45 } : Room) s m args below meth c K 5 D (wC cI cZ cS a) 51 [] [] σ := by
    intro  h
    refine g_iconst (pc := 51) X ic_0 dX6_allComesOut_51 ?_
    exact g_retPz (pc := 52) X hr hlk dX6_allComesOut_52 (Or.inl rfl) h
  have L2 : ∀ (n : Nat) (y2_2 : Int32), lq1 (F_X6_allComesOut_2 σ K k1 (E_X6_allComesOut_2 K)) n y2_2 → GPi p l e ({ frames := 2, cells := 0, slots := 0, locals := 45 } : Room) s m args below meth c K 5 D (wC cI cZ cS a) 2 [(0, .ref (a 0)), (1, .ref (a k1)), (2, .int y2_2)] [] σ := by
    intro n
    induction n with
    | zero =>
      intro y2_2 h
      exact h.elim
    | succ n ih =>
      intro y2_2 h
      have h : F_X6_allComesOut_2 σ K k1 (E_X6_allComesOut_2 K) (lq1 (F_X6_allComesOut_2 σ K k1 (E_X6_allComesOut_2 K)) n) y2_2 := h
      refine g_iload_n (pc := 2) X rfl 2 rfl dX6_allComesOut_2 ?_
      refine g_aload_n (pc := 3) X rfl 0 rfl dX6_allComesOut_3 ?_
      refine fX6_51 (pc := 4) X hK hR k_isTop_0 dX6_allComesOut_4 ?_
      refine fX6_210 (pc := 7) X hK hR k_isMe_28 dX6_allComesOut_7 ?_
      refine g_icmp_ge (pc := 10) (tgt := 92) X (by decide) dX6_allComesOut_10 (fun c_10 => ?_) (fun c_10 => ?_)
      · have h := ite_t c_10 h
        refine g_iconst (pc := 92) X ic_1 dX6_allComesOut_92 ?_
        exact g_retPz (pc := 93) X hr hlk dX6_allComesOut_93 (Or.inr rfl) h
      · have h := ite_f c_10 h
        refine g_aload_n (pc := 13) X rfl 0 rfl dX6_allComesOut_13 ?_
        refine fX6_51 (pc := 14) X hK hR k_isTop_0 dX6_allComesOut_14 ?_
        refine fX6_393 (pc := 17) X hK hR k_isMe_28 dX6_allComesOut_17 ?_
        refine g_iload_n (pc := 20) X rfl 2 rfl dX6_allComesOut_20 ?_
        obtain ⟨h_21, h⟩ := h
        refine aX1_singer (pc := 21) X hK hR k_isMe_28 h_21 dX6_allComesOut_21 ?_
        refine g_topi (fun x3_22 ex3_22 => ?_)
        have h := h x3_22 ex3_22
        refine g_istore_n (pc := 22) (lv' := [(3, .int x3_22), (0, .ref (a 0)), (1, .ref (a k1)), (2, .int y2_2)]) X rfl (by decide) rfl dX6_allComesOut_22 ?_
        refine g_aload_n (pc := 23) X rfl 1 rfl dX6_allComesOut_23 ?_
        refine fX6_51 (pc := 24) X hK hR k_isTop_0 dX6_allComesOut_24 ?_
        refine fX6_395 (pc := 27) X hK hR k_isMe_28 dX6_allComesOut_27 ?_
        refine g_iload_n (pc := 30) X rfl 3 rfl dX6_allComesOut_30 ?_
        obtain ⟨h_31, h⟩ := h
        refine aX1_bar (pc := 31) X hK hR k_isMe_28 h_31 dX6_allComesOut_31 ?_
        refine g_topi (fun x4_32 ex4_32 => ?_)
        have h := h x4_32 ex4_32
        refine g_istore (pc := 32) (lv' := [(4, .int x4_32), (3, .int x3_22), (0, .ref (a 0)), (1, .ref (a k1)), (2, .int y2_2)]) X (by decide) rfl dX6_allComesOut_32 ?_
        refine g_aload_n (pc := 34) X rfl 2 rfl dX6_allComesOut_34 ?_
        refine g_iload_n (pc := 35) X rfl 1 rfl dX6_allComesOut_35 ?_
        refine g_cVPi (pc := 36) (As := [.int x3_22]) X hK hR mi_X6_isNoSinger (c_X6_isNoSinger x3_22 σ _) (wl_ate (oX6 (cI := cI) (cZ := cZ) (cS := cS) (a := a) k_isTop_0).1 ((oX6 (cI := cI) (cZ := cZ) (cS := cS) (a := a) k_isTop_0).2 _)) rfl rfl kw2_59 ⟨rfl, rfl⟩ ⟨Nat.le_of_ble_eq_true rfl, Nat.le_of_ble_eq_true rfl⟩ rfl (Nat.le_of_ble_eq_true rfl) dX6_allComesOut_36 rfl h (fun r36 h => ?_)
        refine g_if_ne (pc := 39) (tgt := 51) X (by decide) dX6_allComesOut_39 (fun c_39 => ?_) (fun c_39 => ?_)
        · have h := ite_f c_39 h
          exact g_lv (X51  h) [] rfl
        · have h := ite_t c_39 h
          refine g_aload_n (pc := 42) X rfl 2 rfl dX6_allComesOut_42 ?_
          refine g_iload (pc := 43) X 0 rfl dX6_allComesOut_43 ?_
          refine g_cVPi (pc := 45) (As := [.int x4_32]) X hK hR mi_X6_isNoBar (c_X6_isNoBar x4_32 σ _) (wl_ate (oX6 (cI := cI) (cZ := cZ) (cS := cS) (a := a) k_isTop_0).1 ((oX6 (cI := cI) (cZ := cZ) (cS := cS) (a := a) k_isTop_0).2 _)) rfl rfl kw2_96 ⟨rfl, rfl⟩ ⟨Nat.le_of_ble_eq_true rfl, Nat.le_of_ble_eq_true rfl⟩ rfl (Nat.le_of_ble_eq_true rfl) dX6_allComesOut_45 rfl h (fun r45 h => ?_)
          refine g_if_eq (pc := 48) (tgt := 53) X (by decide) dX6_allComesOut_48 (fun c_48 => ?_) (fun c_48 => ?_)
          · have h := ite_t c_48 h
            refine g_aload_n (pc := 53) X rfl 2 rfl dX6_allComesOut_53 ?_
            refine fX6_34 (pc := 54) X hK hR k_isTop_0 dX6_allComesOut_54 ?_
            refine fX6_147 (pc := 57) X hK hR k_isSo_23 dX6_allComesOut_57 ?_
            refine g_iload (pc := 60) X 0 rfl dX6_allComesOut_60 ?_
            obtain ⟨h_62, h⟩ := h
            refine aX3_restsBefore (pc := 62) X hK hR k_isSo_23 h_62 dX6_allComesOut_62 ?_
            refine g_aload_n (pc := 63) X rfl 2 rfl dX6_allComesOut_63 ?_
            refine fX6_24 (pc := 64) X hK hR k_isTop_0 dX6_allComesOut_64 ?_
            refine g_aload_n (pc := 67) X rfl 3 rfl dX6_allComesOut_67 ?_
            refine g_iload_n (pc := 68) X rfl 1 rfl dX6_allComesOut_68 ?_
            refine g_cSPi (pc := 69) (As := [.int (σ (23 + 2) (x4_32).toNatClampNeg), .ref (a 5), .ref (a k1), .int x3_22]) X hK hR mi_X6_noteBehind (c_X6_noteBehind (σ (23 + 2) (x4_32).toNatClampNeg) (k1 := 5) k_isCh_5 (k2 := k1) hk1 x3_22 σ _) kw2_100 ⟨rfl, rfl⟩ ⟨Nat.le_of_ble_eq_true rfl, Nat.le_of_ble_eq_true rfl⟩ rfl (Nat.le_of_ble_eq_true rfl) dX6_allComesOut_69 rfl h (fun r69 h => ?_)
            refine g_aload_n (pc := 72) X rfl 2 rfl dX6_allComesOut_72 ?_
            refine fX6_51 (pc := 73) X hK hR k_isTop_0 dX6_allComesOut_73 ?_
            refine fX6_397 (pc := 76) X hK hR k_isMe_28 dX6_allComesOut_76 ?_
            refine g_iload_n (pc := 79) X rfl 4 rfl dX6_allComesOut_79 ?_
            obtain ⟨h_80, h⟩ := h
            refine aX1_note (pc := 80) X hK hR k_isMe_28 h_80 dX6_allComesOut_80 ?_
            refine g_icmp_eq (pc := 81) (tgt := 86) X (by decide) dX6_allComesOut_81 (fun c_81 => ?_) (fun c_81 => ?_)
            · have h := ite_t c_81 h
              refine g_iinc (pc := 86) (lv' := [(2, .int (y2_2 + (1 : Int32))), (4, .int x4_32), (3, .int x3_22), (0, .ref (a 0)), (1, .ref (a k1))]) X 4 rfl rfl (by decide) rfl dX6_allComesOut_86 ?_
              refine g_goto (pc := 89) (tgt := 2) X (by decide) dX6_allComesOut_89 ?_
              exact g_lv (ih (y2_2 + (1 : Int32)) h) [3, 4, 0] rfl
            · have h := ite_f c_81 h
              refine g_iconst (pc := 84) X ic_0 dX6_allComesOut_84 ?_
              exact g_retPz (pc := 85) X hr hlk dX6_allComesOut_85 (Or.inl rfl) h
          · have h := ite_f c_48 h
            exact g_lv (X51  h) [] rfl
  exact g_lv (L2 n2 (0 : Int32) h) [1, 2, 0] rfl
set_option maxRecDepth 20000 in
theorem c_X6_findFittingSpeeds (σ : Sg) (K : Int32 → Sg → Prop) : ∀ sz, Met l yX6_findFittingSpeeds (.code yX6_findFittingSpeeds cX6_findFittingSpeeds 3 (some .int) :: AW) ({ frames := 3, cells := 0, slots := 0, locals := 69 } : Room) (pvM D (tyC cI cZ cS) (SXC tS tF) (wC cI cZ cS a σ) sz (w_X6_findFittingSpeeds σ K) [.ref (a 0)]) (va_Qi K (atM D (tyC cI cZ cS) (wC cI cZ cS a) (va_A (wC cI cZ cS a σ) sz)) (va_A (wC cI cZ cS a σ) sz)) 0 0 (va_A (wC cI cZ cS a σ) sz) := by
  intro sz
  refine met_Mi (own := "TrainNote") (lv := [(0, .ref (a 0))]) (by decide +kernel) rfl (Nat.le_of_ble_eq_true rfl) rfl ?_
  intro p e s m args below meth c A X hK hX hA hr hlk h
  have hR : ∀ σ H locs, hpM D (wC cI cZ cS a) A s σ H locs → va_P D vwCl ((wC cI cZ cS a σ)) H := fun _ _ _ h => h.1
  have hok := SXC_ok tS tF
  refine g_aload_n (pc := 0) X rfl 0 rfl dX6_findFittingSpeeds_0 ?_
  refine fX6_45 (pc := 1) X hK hR k_isTop_0 dX6_findFittingSpeeds_1 ?_
  refine g_aload_n (pc := 4) X rfl 0 rfl dX6_findFittingSpeeds_4 ?_
  refine fX6_41 (pc := 5) X hK hR k_isTop_0 dX6_findFittingSpeeds_5 ?_
  refine g_cVMv (pc := 8) (As := [.ref (a 26)]) X hK hX hok hA mi_X5_become (c_X5_become (k0 := 27) k_isTr_27 (k1 := 26) k_isTr_26 σ _) (fun _ => ⟨_, wl_ate (oX5 (cI := cI) (cZ := cZ) (cS := cS) (a := a) k_isTr_27).1 ((oX5 (cI := cI) (cZ := cZ) (cS := cS) (a := a) k_isTr_27).2 _)⟩) rfl rfl kw2_184 ⟨rfl, rfl⟩ ⟨Nat.le_of_ble_eq_true rfl, Nat.le_of_ble_eq_true rfl⟩ rfl (Nat.le_of_ble_eq_true rfl) dX6_findFittingSpeeds_8 rfl h (fun τ8 h => ?_)
  refine g_iconst (pc := 11) X ic_0 dX6_findFittingSpeeds_11 ?_
  refine g_istore_n (pc := 12) (lv' := [(1, .int (0 : Int32)), (0, .ref (a 0))]) X rfl (by decide) rfl dX6_findFittingSpeeds_12 ?_
  refine g_iconst (pc := 13) X ic_0 dX6_findFittingSpeeds_13 ?_
  refine g_istore_n (pc := 14) (lv' := [(2, .int (0 : Int32)), (1, .int (0 : Int32)), (0, .ref (a 0))]) X rfl (by decide) rfl dX6_findFittingSpeeds_14 ?_
  obtain ⟨n15, h⟩ := h
  have X56 : ∀ (u1_56 : Int32) (ρe56 : Sg), E_X6_findFittingSpeeds_15 K u1_56 ρe56 → GMi p l e ({ frames := 3, cells := 0, slots := 0, locals := 69 } : Room) s m args below meth c K 3 D (tyC cI cZ cS) (wC cI cZ cS a) A 56 [(1, .int u1_56)] [] ρe56 := by
    intro u1_56 ρe56 h
    refine g_iload_n (pc := 56) X rfl 0 rfl dX6_findFittingSpeeds_56 ?_
    exact g_retMi (pc := 57) X hK hr hlk dX6_findFittingSpeeds_57 h
  have L15 : ∀ (n : Nat) (y1_15 : Int32) (y2_15 : Int32) (ρ15 : Sg), lq3 (F_X6_findFittingSpeeds_15 (E_X6_findFittingSpeeds_15 K)) n y1_15 y2_15 ρ15 → GMi p l e ({ frames := 3, cells := 0, slots := 0, locals := 69 } : Room) s m args below meth c K 3 D (tyC cI cZ cS) (wC cI cZ cS a) A 15 [(0, .ref (a 0)), (1, .int y1_15), (2, .int y2_15)] [] ρ15 := by
    intro n
    induction n with
    | zero =>
      intro y1_15 y2_15 ρ15 h
      exact h.elim
    | succ n ih =>
      intro y1_15 y2_15 ρ15 h
      have h : F_X6_findFittingSpeeds_15 (E_X6_findFittingSpeeds_15 K) (lq3 (F_X6_findFittingSpeeds_15 (E_X6_findFittingSpeeds_15 K)) n) y1_15 y2_15 ρ15 := h
      refine g_iload_n (pc := 15) X rfl 2 rfl dX6_findFittingSpeeds_15 ?_
      refine g_bipush (pc := 16) X bp_100 dX6_findFittingSpeeds_16 ?_
      refine g_icmp_ge (pc := 18) (tgt := 56) X (by decide) dX6_findFittingSpeeds_18 (fun c_18 => ?_) (fun c_18 => ?_)
      · have h := ite_t c_18 h
        exact g_lv (X56 y1_15 ρ15 h) [1] rfl
      · have h := ite_f c_18 h
        refine g_aload_n (pc := 21) X rfl 0 rfl dX6_findFittingSpeeds_21 ?_
        refine fX6_45 (pc := 22) X hK hR k_isTop_0 dX6_findFittingSpeeds_22 ?_
        refine g_iload_n (pc := 25) X rfl 2 rfl dX6_findFittingSpeeds_25 ?_
        refine pX6_198 (pc := 26) X hK k_isTr_27 dX6_findFittingSpeeds_26 (fun τ26 eτ26 => ?_)
        have h := h τ26 eτ26
        refine g_aload_n (pc := 29) X rfl 0 rfl dX6_findFittingSpeeds_29 ?_
        refine g_aload_n (pc := 30) X rfl 0 rfl dX6_findFittingSpeeds_30 ?_
        refine fX6_45 (pc := 31) X hK hR k_isTop_0 dX6_findFittingSpeeds_31 ?_
        refine g_cVPi (pc := 34) (As := [.ref (a 27)]) X hK hR mi_X6_allComesOut (c_X6_allComesOut (k1 := 27) k_isTr_27 τ26 _) (wl_ate (oX6 (cI := cI) (cZ := cZ) (cS := cS) (a := a) k_isTop_0).1 ((oX6 (cI := cI) (cZ := cZ) (cS := cS) (a := a) k_isTop_0).2 _)) rfl rfl kw2_232 ⟨rfl, rfl⟩ ⟨Nat.le_of_ble_eq_true rfl, Nat.le_of_ble_eq_true rfl⟩ rfl (Nat.le_of_ble_eq_true rfl) dX6_findFittingSpeeds_34 rfl h (fun r34 h => ?_)
        refine g_if_eq (pc := 37) (tgt := 50) X (by decide) dX6_findFittingSpeeds_37 (fun c_37 => ?_) (fun c_37 => ?_)
        · have h := ite_t c_37 h
          refine g_iinc (pc := 50) (lv' := [(2, .int (y2_15 + (1 : Int32))), (0, .ref (a 0)), (1, .int y1_15)]) X 2 rfl rfl (by decide) rfl dX6_findFittingSpeeds_50 ?_
          refine g_goto (pc := 53) (tgt := 15) X (by decide) dX6_findFittingSpeeds_53 ?_
          exact g_lv (ih y1_15 (y2_15 + (1 : Int32)) τ26 h) [1, 2, 0] rfl
        · have h := ite_f c_37 h
          refine g_aload_n (pc := 40) X rfl 0 rfl dX6_findFittingSpeeds_40 ?_
          refine fX6_66 (pc := 41) X hK hR k_isTop_0 dX6_findFittingSpeeds_41 ?_
          refine g_iload_n (pc := 44) X rfl 1 rfl dX6_findFittingSpeeds_44 ?_
          refine g_iload_n (pc := 45) X rfl 2 rfl dX6_findFittingSpeeds_45 ?_
          obtain ⟨h_46, h⟩ := h
          refine tX6_fittingSpeeds (pc := 46) X hK k_isTop_0 h_46 dX6_findFittingSpeeds_46 (fun τ46 eτ46 => ?_)
          have h := h τ46 eτ46
          refine g_iinc (pc := 47) (lv' := [(1, .int (y1_15 + (1 : Int32))), (0, .ref (a 0)), (2, .int y2_15)]) X 1 rfl rfl (by decide) rfl dX6_findFittingSpeeds_47 ?_
          refine g_iinc (pc := 50) (lv' := [(2, .int (y2_15 + (1 : Int32))), (1, .int (y1_15 + (1 : Int32))), (0, .ref (a 0))]) X 2 rfl rfl (by decide) rfl dX6_findFittingSpeeds_50 ?_
          refine g_goto (pc := 53) (tgt := 15) X (by decide) dX6_findFittingSpeeds_53 ?_
          exact g_lv (ih (y1_15 + (1 : Int32)) (y2_15 + (1 : Int32)) τ46 h) [2, 1, 0] rfl
  exact g_lv (L15 n15 (0 : Int32) (0 : Int32) τ8 h) [2, 1, 0] rfl
set_option maxRecDepth 20000 in
theorem c_X6_speeds (x1 : Int32) (σ : Sg) (K : Int32 → Sg → Prop) : ∀ sz, Met l yX6_speeds (.code yX6_speeds cX6_speeds 3 (some .int) :: AW) ({ frames := 4, cells := 0, slots := 0, locals := 91 } : Room) (pvM D (tyC cI cZ cS) (SXC tS tF) (wC cI cZ cS a σ) sz (w_X6_speeds x1 σ K) [.ref (a 0), .int x1]) (va_Qi K (atM D (tyC cI cZ cS) (wC cI cZ cS a) (va_A (wC cI cZ cS a σ) sz)) (va_A (wC cI cZ cS a σ) sz)) 0 0 (va_A (wC cI cZ cS a σ) sz) := by
  intro sz
  refine met_Mi (own := "TrainNote") (lv := [(0, .ref (a 0)), (1, .int x1)]) (by decide +kernel) rfl (Nat.le_of_ble_eq_true rfl) rfl ?_
  intro p e s m args below meth c A X hK hX hA hr hlk h
  have hR : ∀ σ H locs, hpM D (wC cI cZ cS a) A s σ H locs → va_P D vwCl ((wC cI cZ cS a σ)) H := fun _ _ _ h => h.1
  have hok := SXC_ok tS tF
  refine g_iload_n (pc := 0) X rfl 1 rfl dX6_speeds_0 ?_
  refine g_iconst (pc := 1) X ic_m1 dX6_speeds_1 ?_
  refine g_icmp_lt (pc := 2) (tgt := 11) X (by decide) dX6_speeds_2 (fun c_2 => ?_) (fun c_2 => ?_)
  · have h := ite_t c_2 h
    refine g_bipush (pc := 11) X bp_m2 dX6_speeds_11 ?_
    exact g_retMi (pc := 13) X hK hr hlk dX6_speeds_13 h
  · have h := ite_f c_2 h
    refine g_iload_n (pc := 5) X rfl 1 rfl dX6_speeds_5 ?_
    refine g_bipush (pc := 6) X bp_100 dX6_speeds_6 ?_
    refine g_icmp_lt (pc := 8) (tgt := 14) X (by decide) dX6_speeds_8 (fun c_8 => ?_) (fun c_8 => ?_)
    · have h := ite_t c_8 h
      refine g_aload_n (pc := 14) X rfl 0 rfl dX6_speeds_14 ?_
      refine g_cVMi (pc := 15) (As := []) X hK hX hok hA mi_X6_findFittingSpeeds (c_X6_findFittingSpeeds  σ _) (fun _ => ⟨_, wl_ate (oX6 (cI := cI) (cZ := cZ) (cS := cS) (a := a) k_isTop_0).1 ((oX6 (cI := cI) (cZ := cZ) (cS := cS) (a := a) k_isTop_0).2 _)⟩) rfl rfl kw2_228 ⟨rfl, rfl⟩ ⟨Nat.le_of_ble_eq_true rfl, Nat.le_of_ble_eq_true rfl⟩ rfl (Nat.le_of_ble_eq_true rfl) dX6_speeds_15 rfl h (fun r15 τ15 h => ?_)
      refine g_istore_n (pc := 18) (lv' := [(2, .int r15), (0, .ref (a 0)), (1, .int x1)]) X rfl (by decide) rfl dX6_speeds_18 ?_
      refine g_iload_n (pc := 19) X rfl 2 rfl dX6_speeds_19 ?_
      refine g_iconst (pc := 20) X ic_m1 dX6_speeds_20 ?_
      refine g_icmp_ne (pc := 21) (tgt := 26) X (by decide) dX6_speeds_21 (fun c_21 => ?_) (fun c_21 => ?_)
      · have h := ite_f c_21 h
        refine g_iload_n (pc := 26) X rfl 2 rfl dX6_speeds_26 ?_
        refine g_iload_n (pc := 27) X rfl 0 rfl dX6_speeds_27 ?_
        refine g_icmp_ge (pc := 28) (tgt := 40) X (by decide) dX6_speeds_28 (fun c_28 => ?_) (fun c_28 => ?_)
        · have h := ite_t c_28 h
          refine g_iconst (pc := 40) X ic_m1 dX6_speeds_40 ?_
          exact g_retMi (pc := 41) X hK hr hlk dX6_speeds_41 h
        · have h := ite_f c_28 h
          refine g_aload_n (pc := 31) X rfl 1 rfl dX6_speeds_31 ?_
          refine fX6_66 (pc := 32) X hK hR k_isTop_0 dX6_speeds_32 ?_
          refine g_iload_n (pc := 35) X rfl 2 rfl dX6_speeds_35 ?_
          obtain ⟨h_36, h⟩ := h
          refine aX6_fittingSpeeds (pc := 36) X hK hR k_isTop_0 h_36 dX6_speeds_36 ?_
          refine g_goto (pc := 37) (tgt := 41) X (by decide) dX6_speeds_37 ?_
          exact g_retMi (pc := 41) X hK hr hlk dX6_speeds_41 h
      · have h := ite_t c_21 h
        refine g_iload_n (pc := 24) X rfl 0 rfl dX6_speeds_24 ?_
        exact g_retMi (pc := 25) X hK hr hlk dX6_speeds_25 h
    · have h := ite_f c_8 h
      refine g_bipush (pc := 11) X bp_m2 dX6_speeds_11 ?_
      exact g_retMi (pc := 13) X hK hr hlk dX6_speeds_13 h
set_option maxRecDepth 20000 in
theorem c_X6_cows (σ : Sg) (K : Int32 → Sg → Prop) : ∀ sz, Met l yX6_cows (.code yX6_cows cX6_cows 3 (some .int) :: AW) ({ frames := 3, cells := 0, slots := 0, locals := 69 } : Room) (pvM D (tyC cI cZ cS) (SXC tS tF) (wC cI cZ cS a σ) sz (w_X6_cows σ K) [.ref (a 0)]) (va_Qi K (atM D (tyC cI cZ cS) (wC cI cZ cS a) (va_A (wC cI cZ cS a σ) sz)) (va_A (wC cI cZ cS a σ) sz)) 0 0 (va_A (wC cI cZ cS a σ) sz) := by
  intro sz
  refine met_Mi (own := "TrainNote") (lv := [(0, .ref (a 0))]) (by decide +kernel) rfl (Nat.le_of_ble_eq_true rfl) rfl ?_
  intro p e s m args below meth c A X hK hX hA hr hlk h
  have hR : ∀ σ H locs, hpM D (wC cI cZ cS a) A s σ H locs → va_P D vwCl ((wC cI cZ cS a σ)) H := fun _ _ _ h => h.1
  have hok := SXC_ok tS tF
  refine g_aload_n (pc := 0) X rfl 0 rfl dX6_cows_0 ?_
  refine fX6_45 (pc := 1) X hK hR k_isTop_0 dX6_cows_1 ?_
  refine g_aload_n (pc := 4) X rfl 0 rfl dX6_cows_4 ?_
  refine fX6_41 (pc := 5) X hK hR k_isTop_0 dX6_cows_5 ?_
  refine g_cVMv (pc := 8) (As := [.ref (a 26)]) X hK hX hok hA mi_X5_become (c_X5_become (k0 := 27) k_isTr_27 (k1 := 26) k_isTr_26 σ _) (fun _ => ⟨_, wl_ate (oX5 (cI := cI) (cZ := cZ) (cS := cS) (a := a) k_isTr_27).1 ((oX5 (cI := cI) (cZ := cZ) (cS := cS) (a := a) k_isTr_27).2 _)⟩) rfl rfl kw2_184 ⟨rfl, rfl⟩ ⟨Nat.le_of_ble_eq_true rfl, Nat.le_of_ble_eq_true rfl⟩ rfl (Nat.le_of_ble_eq_true rfl) dX6_cows_8 rfl h (fun τ8 h => ?_)
  refine g_iconst (pc := 11) X ic_0 dX6_cows_11 ?_
  refine g_istore_n (pc := 12) (lv' := [(1, .int (0 : Int32)), (0, .ref (a 0))]) X rfl (by decide) rfl dX6_cows_12 ?_
  refine g_iconst (pc := 13) X ic_0 dX6_cows_13 ?_
  refine g_istore_n (pc := 14) (lv' := [(2, .int (0 : Int32)), (1, .int (0 : Int32)), (0, .ref (a 0))]) X rfl (by decide) rfl dX6_cows_14 ?_
  obtain ⟨n15, h⟩ := h
  have X52 : ∀ (u1_52 : Int32) (ρe52 : Sg), E_X6_cows_15 K u1_52 ρe52 → GMi p l e ({ frames := 3, cells := 0, slots := 0, locals := 69 } : Room) s m args below meth c K 3 D (tyC cI cZ cS) (wC cI cZ cS a) A 52 [(1, .int u1_52)] [] ρe52 := by
    intro u1_52 ρe52 h
    refine g_iload_n (pc := 52) X rfl 0 rfl dX6_cows_52 ?_
    exact g_retMi (pc := 53) X hK hr hlk dX6_cows_53 h
  have L15 : ∀ (n : Nat) (y1_15 : Int32) (y2_15 : Int32) (ρ15 : Sg), lq3 (F_X6_cows_15 (E_X6_cows_15 K)) n y1_15 y2_15 ρ15 → GMi p l e ({ frames := 3, cells := 0, slots := 0, locals := 69 } : Room) s m args below meth c K 3 D (tyC cI cZ cS) (wC cI cZ cS a) A 15 [(0, .ref (a 0)), (1, .int y1_15), (2, .int y2_15)] [] ρ15 := by
    intro n
    induction n with
    | zero =>
      intro y1_15 y2_15 ρ15 h
      exact h.elim
    | succ n ih =>
      intro y1_15 y2_15 ρ15 h
      have h : F_X6_cows_15 (E_X6_cows_15 K) (lq3 (F_X6_cows_15 (E_X6_cows_15 K)) n) y1_15 y2_15 ρ15 := h
      refine g_iload_n (pc := 15) X rfl 2 rfl dX6_cows_15 ?_
      refine g_bipush (pc := 16) X bp_10 dX6_cows_16 ?_
      refine g_icmp_ge (pc := 18) (tgt := 52) X (by decide) dX6_cows_18 (fun c_18 => ?_) (fun c_18 => ?_)
      · have h := ite_t c_18 h
        exact g_lv (X52 y1_15 ρ15 h) [1] rfl
      · have h := ite_f c_18 h
        refine g_aload_n (pc := 21) X rfl 0 rfl dX6_cows_21 ?_
        refine fX6_45 (pc := 22) X hK hR k_isTop_0 dX6_cows_22 ?_
        refine g_iload_n (pc := 25) X rfl 2 rfl dX6_cows_25 ?_
        refine pX6_227 (pc := 26) X hK k_isTr_27 dX6_cows_26 (fun τ26 eτ26 => ?_)
        have h := h τ26 eτ26
        refine g_aload_n (pc := 29) X rfl 0 rfl dX6_cows_29 ?_
        refine g_aload_n (pc := 30) X rfl 0 rfl dX6_cows_30 ?_
        refine fX6_45 (pc := 31) X hK hR k_isTop_0 dX6_cows_31 ?_
        refine g_cVPi (pc := 34) (As := [.ref (a 27)]) X hK hR mi_X6_allComesOut (c_X6_allComesOut (k1 := 27) k_isTr_27 τ26 _) (wl_ate (oX6 (cI := cI) (cZ := cZ) (cS := cS) (a := a) k_isTop_0).1 ((oX6 (cI := cI) (cZ := cZ) (cS := cS) (a := a) k_isTop_0).2 _)) rfl rfl kw2_232 ⟨rfl, rfl⟩ ⟨Nat.le_of_ble_eq_true rfl, Nat.le_of_ble_eq_true rfl⟩ rfl (Nat.le_of_ble_eq_true rfl) dX6_cows_34 rfl h (fun r34 h => ?_)
        refine g_if_eq (pc := 37) (tgt := 46) X (by decide) dX6_cows_37 (fun c_37 => ?_) (fun c_37 => ?_)
        · have h := ite_t c_37 h
          refine g_iinc (pc := 46) (lv' := [(2, .int (y2_15 + (1 : Int32))), (0, .ref (a 0)), (1, .int y1_15)]) X 2 rfl rfl (by decide) rfl dX6_cows_46 ?_
          refine g_goto (pc := 49) (tgt := 15) X (by decide) dX6_cows_49 ?_
          exact g_lv (ih y1_15 (y2_15 + (1 : Int32)) τ26 h) [1, 2, 0] rfl
        · have h := ite_f c_37 h
          refine g_iload_n (pc := 40) X rfl 1 rfl dX6_cows_40 ?_
          refine g_iconst (pc := 41) X ic_1 dX6_cows_41 ?_
          refine g_iload_n (pc := 42) X rfl 2 rfl dX6_cows_42 ?_
          refine g_ishl (pc := 43) X dX6_cows_43 ?_
          refine g_ior (pc := 44) X dX6_cows_44 ?_
          refine g_topi (fun x1_45 ex1_45 => ?_)
          have h := h x1_45 ex1_45
          refine g_istore_n (pc := 45) (lv' := [(1, .int x1_45), (0, .ref (a 0)), (2, .int y2_15)]) X rfl (by decide) rfl dX6_cows_45 ?_
          refine g_iinc (pc := 46) (lv' := [(2, .int (y2_15 + (1 : Int32))), (1, .int x1_45), (0, .ref (a 0))]) X 2 rfl rfl (by decide) rfl dX6_cows_46 ?_
          refine g_goto (pc := 49) (tgt := 15) X (by decide) dX6_cows_49 ?_
          exact g_lv (ih x1_45 (y2_15 + (1 : Int32)) τ26 h) [2, 1, 0] rfl
  exact g_lv (L15 n15 (0 : Int32) (0 : Int32) τ8 h) [2, 1, 0] rfl
set_option maxRecDepth 20000 in
theorem c_X6_mostAlike (x1 : Int32) (x2 : Int32) (σ : Sg) (K : Int32 → Sg → Prop) : ∀ sz, Met l yX6_mostAlike (.code yX6_mostAlike cX6_mostAlike 8 (some .int) :: AW) ({ frames := 2, cells := 0, slots := 0, locals := 45 } : Room) (pvM D (tyC cI cZ cS) (SXC tS tF) (wC cI cZ cS a σ) sz (w_X6_mostAlike x1 x2 σ K) [.ref (a 0), .int x1, .int x2]) (va_Qi K (atM D (tyC cI cZ cS) (wC cI cZ cS a) (va_A (wC cI cZ cS a σ) sz)) (va_A (wC cI cZ cS a σ) sz)) 0 0 (va_A (wC cI cZ cS a σ) sz) := by
  intro sz
  refine met_Mi (own := "TrainNote") (lv := [(0, .ref (a 0)), (1, .int x1), (2, .int x2)]) (by decide +kernel) rfl (Nat.le_of_ble_eq_true rfl) rfl ?_
  intro p e s m args below meth c A X hK hX hA hr hlk h
  have hR : ∀ σ H locs, hpM D (wC cI cZ cS a) A s σ H locs → va_P D vwCl ((wC cI cZ cS a σ)) H := fun _ _ _ h => h.1
  have hok := SXC_ok tS tF
  refine g_iconst (pc := 0) X ic_0 dX6_mostAlike_0 ?_
  refine g_istore_n (pc := 1) (lv' := [(3, .int (0 : Int32)), (0, .ref (a 0)), (1, .int x1), (2, .int x2)]) X rfl (by decide) rfl dX6_mostAlike_1 ?_
  refine g_iconst (pc := 2) X ic_0 dX6_mostAlike_2 ?_
  refine g_istore (pc := 3) (lv' := [(4, .int (0 : Int32)), (3, .int (0 : Int32)), (0, .ref (a 0)), (1, .int x1), (2, .int x2)]) X (by decide) rfl dX6_mostAlike_3 ?_
  refine g_iconst (pc := 5) X ic_0 dX6_mostAlike_5 ?_
  refine g_istore (pc := 6) (lv' := [(5, .int (0 : Int32)), (4, .int (0 : Int32)), (3, .int (0 : Int32)), (0, .ref (a 0)), (1, .int x1), (2, .int x2)]) X (by decide) rfl dX6_mostAlike_6 ?_
  refine g_aload_n (pc := 8) X rfl 3 rfl dX6_mostAlike_8 ?_
  refine fX6_45 (pc := 9) X hK hR k_isTop_0 dX6_mostAlike_9 ?_
  refine g_aload_n (pc := 12) X rfl 3 rfl dX6_mostAlike_12 ?_
  refine fX6_41 (pc := 13) X hK hR k_isTop_0 dX6_mostAlike_13 ?_
  refine g_cVMv (pc := 16) (As := [.ref (a 26)]) X hK hX hok hA mi_X5_become (c_X5_become (k0 := 27) k_isTr_27 (k1 := 26) k_isTr_26 σ _) (fun _ => ⟨_, wl_ate (oX5 (cI := cI) (cZ := cZ) (cS := cS) (a := a) k_isTr_27).1 ((oX5 (cI := cI) (cZ := cZ) (cS := cS) (a := a) k_isTr_27).2 _)⟩) rfl rfl kw2_184 ⟨rfl, rfl⟩ ⟨Nat.le_of_ble_eq_true rfl, Nat.le_of_ble_eq_true rfl⟩ rfl (Nat.le_of_ble_eq_true rfl) dX6_mostAlike_16 rfl h (fun τ16 h => ?_)
  refine g_iconst (pc := 19) X ic_0 dX6_mostAlike_19 ?_
  refine g_istore (pc := 20) (lv' := [(6, .int (0 : Int32)), (5, .int (0 : Int32)), (4, .int (0 : Int32)), (3, .int (0 : Int32)), (0, .ref (a 0)), (1, .int x1), (2, .int x2)]) X (by decide) rfl dX6_mostAlike_20 ?_
  obtain ⟨n22, h⟩ := h
  have X96 : ∀ (u3_96 : Int32) (ρe96 : Sg), E_X6_mostAlike_22 K u3_96 ρe96 → GMi p l e ({ frames := 2, cells := 0, slots := 0, locals := 45 } : Room) s m args below meth c K 8 D (tyC cI cZ cS) (wC cI cZ cS a) A 96 [(3, .int u3_96)] [] ρe96 := by
    intro u3_96 ρe96 h
    refine g_iload_n (pc := 96) X rfl 0 rfl dX6_mostAlike_96 ?_
    exact g_retMi (pc := 97) X hK hr hlk dX6_mostAlike_97 h
  have L22 : ∀ (n : Nat) (y3_22 : Int32) (y4_22 : Int32) (y5_22 : Int32) (y6_22 : Int32) (ρ22 : Sg), lq5 (F_X6_mostAlike_22 x2 x1 (E_X6_mostAlike_22 K)) n y3_22 y4_22 y5_22 y6_22 ρ22 → GMi p l e ({ frames := 2, cells := 0, slots := 0, locals := 45 } : Room) s m args below meth c K 8 D (tyC cI cZ cS) (wC cI cZ cS a) A 22 [(0, .ref (a 0)), (1, .int x1), (2, .int x2), (3, .int y3_22), (4, .int y4_22), (5, .int y5_22), (6, .int y6_22)] [] ρ22 := by
    intro n
    induction n with
    | zero =>
      intro y3_22 y4_22 y5_22 y6_22 ρ22 h
      exact h.elim
    | succ n ih =>
      intro y3_22 y4_22 y5_22 y6_22 ρ22 h
      have h : F_X6_mostAlike_22 x2 x1 (E_X6_mostAlike_22 K) (lq5 (F_X6_mostAlike_22 x2 x1 (E_X6_mostAlike_22 K)) n) y3_22 y4_22 y5_22 y6_22 ρ22 := h
      generalize lq5 (F_X6_mostAlike_22 x2 x1 (E_X6_mostAlike_22 K)) n = rec22 at h ih
      refine g_iload (pc := 22) X 6 rfl dX6_mostAlike_22 ?_
      refine g_iload_n (pc := 24) X rfl 2 rfl dX6_mostAlike_24 ?_
      refine g_icmp_ge (pc := 25) (tgt := 96) X (by decide) dX6_mostAlike_25 (fun c_25 => ?_) (fun c_25 => ?_)
      · have h := ite_t c_25 h
        exact g_lv (X96 y3_22 ρ22 h) [3] rfl
      · have h := ite_f c_25 h
        refine g_aload_n (pc := 28) X rfl 0 rfl dX6_mostAlike_28 ?_
        refine fX6_45 (pc := 29) X hK hR k_isTop_0 dX6_mostAlike_29 ?_
        refine g_aload_n (pc := 32) X rfl 0 rfl dX6_mostAlike_32 ?_
        refine fX6_66 (pc := 33) X hK hR k_isTop_0 dX6_mostAlike_33 ?_
        refine g_iload (pc := 36) X 6 rfl dX6_mostAlike_36 ?_
        obtain ⟨h_38, h⟩ := h
        refine aX6_fittingSpeeds (pc := 38) X hK hR k_isTop_0 h_38 dX6_mostAlike_38 ?_
        refine pX6_198 (pc := 39) X hK k_isTr_27 dX6_mostAlike_39 (fun τ39 eτ39 => ?_)
        have h := h τ39 eτ39
        refine g_iconst (pc := 42) X ic_0 dX6_mostAlike_42 ?_
        refine g_aload_n (pc := 43) X rfl 0 rfl dX6_mostAlike_43 ?_
        refine fX6_24 (pc := 44) X hK hR k_isTop_0 dX6_mostAlike_44 ?_
        refine g_aload_n (pc := 47) X rfl 0 rfl dX6_mostAlike_47 ?_
        refine fX6_45 (pc := 48) X hK hR k_isTop_0 dX6_mostAlike_48 ?_
        refine g_iload_n (pc := 51) X rfl 1 rfl dX6_mostAlike_51 ?_
        refine g_cSPi (pc := 52) (As := [.int (0 : Int32), .ref (a 5), .ref (a 27), .int x1]) X hK hR mi_X6_noteBehind (c_X6_noteBehind (0 : Int32) (k1 := 5) k_isCh_5 (k2 := 27) k_isTr_27 x1 τ39 _) kw2_100 ⟨rfl, rfl⟩ ⟨Nat.le_of_ble_eq_true rfl, Nat.le_of_ble_eq_true rfl⟩ rfl (Nat.le_of_ble_eq_true rfl) dX6_mostAlike_52 rfl h (fun r52 h => ?_)
        refine g_istore (pc := 55) (lv' := [(7, .int r52), (0, .ref (a 0)), (1, .int x1), (2, .int x2), (3, .int y3_22), (4, .int y4_22), (5, .int y5_22), (6, .int y6_22)]) X (by decide) rfl dX6_mostAlike_55 ?_
        refine g_iload (pc := 57) X 7 rfl dX6_mostAlike_57 ?_
        have J77 : ∀ (v0_77 : Int32), J_X6_mostAlike_77 y3_22 rec22 r52 y6_22 τ39 v0_77 → GMi p l e ({ frames := 2, cells := 0, slots := 0, locals := 45 } : Room) s m args below meth c K 8 D (tyC cI cZ cS) (wC cI cZ cS a) A 77 [(0, .ref (a 0)), (1, .int x1), (2, .int x2), (3, .int y3_22), (6, .int y6_22), (7, .int r52)] [.int v0_77] τ39 := by
          intro v0_77 h
          refine g_istore (pc := 77) (lv' := [(4, .int v0_77), (0, .ref (a 0)), (1, .int x1), (2, .int x2), (3, .int y3_22), (6, .int y6_22), (7, .int r52)]) X (by decide) rfl dX6_mostAlike_77 ?_
          refine g_iload_n (pc := 79) X rfl 4 rfl dX6_mostAlike_79 ?_
          refine g_iload (pc := 80) X 0 rfl dX6_mostAlike_80 ?_
          refine g_mmax (pc := 82) X kw2_116 kw2_43 kw1_3 kw2_44 (Nat.le_of_ble_eq_true rfl) (Nat.le_of_ble_eq_true rfl) dX6_mostAlike_82 ?_
          refine g_topi (fun m82 em82 => ?_)
          have h := h m82 em82
          refine g_istore_n (pc := 85) (lv' := [(3, .int m82), (4, .int v0_77), (0, .ref (a 0)), (1, .int x1), (2, .int x2), (6, .int y6_22), (7, .int r52)]) X rfl (by decide) rfl dX6_mostAlike_85 ?_
          refine g_iload (pc := 86) X 6 rfl dX6_mostAlike_86 ?_
          refine g_istore (pc := 88) (lv' := [(5, .int r52), (3, .int m82), (4, .int v0_77), (0, .ref (a 0)), (1, .int x1), (2, .int x2), (6, .int y6_22), (7, .int r52)]) X (by decide) rfl dX6_mostAlike_88 ?_
          refine g_iinc (pc := 90) (lv' := [(6, .int (y6_22 + (1 : Int32))), (5, .int r52), (3, .int m82), (4, .int v0_77), (0, .ref (a 0)), (1, .int x1), (2, .int x2), (7, .int r52)]) X 6 rfl rfl (by decide) rfl dX6_mostAlike_90 ?_
          refine g_goto (pc := 93) (tgt := 22) X (by decide) dX6_mostAlike_93 ?_
          exact g_lv (ih m82 v0_77 r52 (y6_22 + (1 : Int32)) τ39 h) [4, 5, 6, 2, 3, 1, 0] rfl
        have J76 : ∀ (_ : Unit), J_X6_mostAlike_76 y3_22 rec22 r52 y6_22 τ39 → GMi p l e ({ frames := 2, cells := 0, slots := 0, locals := 45 } : Room) s m args below meth c K 8 D (tyC cI cZ cS) (wC cI cZ cS a) A 76 [(0, .ref (a 0)), (1, .int x1), (2, .int x2), (3, .int y3_22), (6, .int y6_22), (7, .int r52)] [] τ39 := by
          intro _ h
          refine g_iconst (pc := 76) X ic_1 dX6_mostAlike_76 ?_
          exact g_lv (J77 (1 : Int32) h) [0, 1, 2, 3, 4, 5] rfl
        refine g_if_le (pc := 59) (tgt := 76) X (by decide) dX6_mostAlike_59 (fun c_59 => ?_) (fun c_59 => ?_)
        · have h := ite_t c_59 h
          exact g_lv (J76 () h) [1, 2, 3, 4, 7, 0] rfl
        · have h := ite_f c_59 h
          refine g_iload (pc := 62) X 0 rfl dX6_mostAlike_62 ?_
          refine g_iload (pc := 64) X 6 rfl dX6_mostAlike_64 ?_
          refine g_icmp_ne (pc := 66) (tgt := 76) X (by decide) dX6_mostAlike_66 (fun c_66 => ?_) (fun c_66 => ?_)
          · have h := ite_f c_66 h
            exact g_lv (J76 () h) [1, 2, 3, 4, 7, 0] rfl
          · have h := ite_t c_66 h
            refine g_iload (pc := 69) X 5 rfl dX6_mostAlike_69 ?_
            refine g_iconst (pc := 71) X ic_1 dX6_mostAlike_71 ?_
            refine g_iadd (pc := 72) X dX6_mostAlike_72 ?_
            refine g_goto (pc := 73) (tgt := 77) X (by decide) dX6_mostAlike_73 ?_
            exact g_lv (J77 (y4_22 + (1 : Int32)) h) [1, 2, 3, 4, 7, 0] rfl
  exact g_lv (L22 n22 (0 : Int32) (0 : Int32) (0 : Int32) (0 : Int32) τ16 h) [4, 5, 6, 3, 2, 1, 0] rfl
set_option maxRecDepth 20000 in
theorem c_X6_ask (σ : Sg) (K : Int32 → Sg → Prop) : ∀ sz, Met l yX6_ask (.code yX6_ask cX6_ask 6 (some .int) :: AW) ({ frames := 4, cells := 0, slots := 0, locals := 91 } : Room) (pvM D (tyC cI cZ cS) (SXC tS tF) (wC cI cZ cS a σ) sz (w_X6_ask σ K) [.ref (a 0)]) (va_Qi K (atM D (tyC cI cZ cS) (wC cI cZ cS a) (va_A (wC cI cZ cS a σ) sz)) (va_A (wC cI cZ cS a σ) sz)) 0 0 (va_A (wC cI cZ cS a σ) sz) := by
  intro sz
  refine met_Mi (own := "TrainNote") (lv := [(0, .ref (a 0))]) (by decide +kernel) rfl (Nat.le_of_ble_eq_true rfl) rfl ?_
  intro p e s m args below meth c A X hK hX hA hr hlk h
  have hR : ∀ σ H locs, hpM D (wC cI cZ cS a) A s σ H locs → va_P D vwCl ((wC cI cZ cS a σ)) H := fun _ _ _ h => h.1
  have hok := SXC_ok tS tF
  refine g_aload_n (pc := 0) X rfl 0 rfl dX6_ask_0 ?_
  refine g_cVMi (pc := 1) (As := []) X hK hX hok hA mi_X6_findFittingSpeeds (c_X6_findFittingSpeeds  σ _) (fun _ => ⟨_, wl_ate (oX6 (cI := cI) (cZ := cZ) (cS := cS) (a := a) k_isTop_0).1 ((oX6 (cI := cI) (cZ := cZ) (cS := cS) (a := a) k_isTop_0).2 _)⟩) rfl rfl kw2_228 ⟨rfl, rfl⟩ ⟨Nat.le_of_ble_eq_true rfl, Nat.le_of_ble_eq_true rfl⟩ rfl (Nat.le_of_ble_eq_true rfl) dX6_ask_1 rfl h (fun r1 τ1 h => ?_)
  refine g_istore_n (pc := 4) (lv' := [(1, .int r1), (0, .ref (a 0))]) X rfl (by decide) rfl dX6_ask_4 ?_
  refine g_iconst (pc := 5) X ic_m1 dX6_ask_5 ?_
  refine g_istore_n (pc := 6) (lv' := [(2, .int (-1 : Int32)), (1, .int r1), (0, .ref (a 0))]) X rfl (by decide) rfl dX6_ask_6 ?_
  refine g_iconst (pc := 7) X ic_0 dX6_ask_7 ?_
  refine g_istore_n (pc := 8) (lv' := [(3, .int (0 : Int32)), (2, .int (-1 : Int32)), (1, .int r1), (0, .ref (a 0))]) X rfl (by decide) rfl dX6_ask_8 ?_
  refine g_iconst (pc := 9) X ic_0 dX6_ask_9 ?_
  refine g_istore (pc := 10) (lv' := [(4, .int (0 : Int32)), (3, .int (0 : Int32)), (2, .int (-1 : Int32)), (1, .int r1), (0, .ref (a 0))]) X (by decide) rfl dX6_ask_10 ?_
  obtain ⟨n12, h⟩ := h
  have X56 : ∀ (u2_56 : Int32) (ρe56 : Sg), E_X6_ask_12 K u2_56 ρe56 → GMi p l e ({ frames := 4, cells := 0, slots := 0, locals := 91 } : Room) s m args below meth c K 6 D (tyC cI cZ cS) (wC cI cZ cS a) A 56 [(2, .int u2_56)] [] ρe56 := by
    intro u2_56 ρe56 h
    refine g_iload_n (pc := 56) X rfl 0 rfl dX6_ask_56 ?_
    exact g_retMi (pc := 57) X hK hr hlk dX6_ask_57 h
  have L12 : ∀ (n : Nat) (y2_12 : Int32) (y3_12 : Int32) (y4_12 : Int32) (ρ12 : Sg), lq4 (F_X6_ask_12 r1 (E_X6_ask_12 K)) n y2_12 y3_12 y4_12 ρ12 → GMi p l e ({ frames := 4, cells := 0, slots := 0, locals := 91 } : Room) s m args below meth c K 6 D (tyC cI cZ cS) (wC cI cZ cS a) A 12 [(0, .ref (a 0)), (1, .int r1), (2, .int y2_12), (3, .int y3_12), (4, .int y4_12)] [] ρ12 := by
    intro n
    induction n with
    | zero =>
      intro y2_12 y3_12 y4_12 ρ12 h
      exact h.elim
    | succ n ih =>
      intro y2_12 y3_12 y4_12 ρ12 h
      have h : F_X6_ask_12 r1 (E_X6_ask_12 K) (lq4 (F_X6_ask_12 r1 (E_X6_ask_12 K)) n) y2_12 y3_12 y4_12 ρ12 := h
      generalize lq4 (F_X6_ask_12 r1 (E_X6_ask_12 K)) n = rec12 at h ih
      refine g_iload (pc := 12) X 4 rfl dX6_ask_12 ?_
      refine g_aload_n (pc := 14) X rfl 0 rfl dX6_ask_14 ?_
      refine fX6_24 (pc := 15) X hK hR k_isTop_0 dX6_ask_15 ?_
      refine fX6_165 (pc := 18) X hK hR k_isCh_5 dX6_ask_18 ?_
      refine g_icmp_ge (pc := 21) (tgt := 56) X (by decide) dX6_ask_21 (fun c_21 => ?_) (fun c_21 => ?_)
      · have h := ite_t c_21 h
        exact g_lv (X56 y2_12 ρ12 h) [2] rfl
      · have h := ite_f c_21 h
        refine g_aload_n (pc := 24) X rfl 0 rfl dX6_ask_24 ?_
        refine g_iload (pc := 25) X 4 rfl dX6_ask_25 ?_
        refine g_iload_n (pc := 27) X rfl 1 rfl dX6_ask_27 ?_
        refine g_cVMi (pc := 28) (As := [.int y4_12, .int r1]) X hK hX hok hA mi_X6_mostAlike (c_X6_mostAlike y4_12 r1 ρ12 _) (fun _ => ⟨_, wl_ate (oX6 (cI := cI) (cZ := cZ) (cS := cS) (a := a) k_isTop_0).1 ((oX6 (cI := cI) (cZ := cZ) (cS := cS) (a := a) k_isTop_0).2 _)⟩) rfl rfl kw3_4 ⟨rfl, rfl⟩ ⟨Nat.le_of_ble_eq_true rfl, Nat.le_of_ble_eq_true rfl⟩ rfl (Nat.le_of_ble_eq_true rfl) dX6_ask_28 rfl h (fun r28 τ28 h => ?_)
        refine g_istore (pc := 31) (lv' := [(5, .int r28), (0, .ref (a 0)), (1, .int r1), (2, .int y2_12), (3, .int y3_12), (4, .int y4_12)]) X (by decide) rfl dX6_ask_31 ?_
        refine g_iload_n (pc := 33) X rfl 3 rfl dX6_ask_33 ?_
        refine g_iconst (pc := 34) X ic_m1 dX6_ask_34 ?_
        have J44 : ∀ (_ : Unit), J_X6_ask_44 rec12 y4_12 r28 τ28 → GMi p l e ({ frames := 4, cells := 0, slots := 0, locals := 91 } : Room) s m args below meth c K 6 D (tyC cI cZ cS) (wC cI cZ cS a) A 44 [(0, .ref (a 0)), (1, .int r1), (4, .int y4_12), (5, .int r28)] [] τ28 := by
          intro _ h
          refine g_iload (pc := 44) X 2 rfl dX6_ask_44 ?_
          refine g_istore_n (pc := 46) (lv' := [(2, .int y4_12), (0, .ref (a 0)), (1, .int r1), (4, .int y4_12), (5, .int r28)]) X rfl (by decide) rfl dX6_ask_46 ?_
          refine g_iload (pc := 47) X 4 rfl dX6_ask_47 ?_
          refine g_istore_n (pc := 49) (lv' := [(3, .int r28), (2, .int y4_12), (0, .ref (a 0)), (1, .int r1), (4, .int y4_12), (5, .int r28)]) X rfl (by decide) rfl dX6_ask_49 ?_
          refine g_iinc (pc := 50) (lv' := [(4, .int (y4_12 + (1 : Int32))), (3, .int r28), (2, .int y4_12), (0, .ref (a 0)), (1, .int r1), (5, .int r28)]) X 4 rfl rfl (by decide) rfl dX6_ask_50 ?_
          refine g_goto (pc := 53) (tgt := 12) X (by decide) dX6_ask_53 ?_
          exact g_lv (ih y4_12 r28 (y4_12 + (1 : Int32)) τ28 h) [3, 4, 2, 1, 0] rfl
        refine g_icmp_eq (pc := 35) (tgt := 44) X (by decide) dX6_ask_35 (fun c_35 => ?_) (fun c_35 => ?_)
        · have h := ite_t c_35 h
          exact g_lv (J44 () h) [1, 2, 5, 0] rfl
        · have h := ite_f c_35 h
          refine g_iload (pc := 38) X 0 rfl dX6_ask_38 ?_
          refine g_iload_n (pc := 40) X rfl 4 rfl dX6_ask_40 ?_
          refine g_icmp_ge (pc := 41) (tgt := 50) X (by decide) dX6_ask_41 (fun c_41 => ?_) (fun c_41 => ?_)
          · have h := ite_t c_41 h
            refine g_iinc (pc := 50) (lv' := [(4, .int (y4_12 + (1 : Int32))), (5, .int r28), (0, .ref (a 0)), (1, .int r1), (2, .int y2_12), (3, .int y3_12)]) X 5 rfl rfl (by decide) rfl dX6_ask_50 ?_
            refine g_goto (pc := 53) (tgt := 12) X (by decide) dX6_ask_53 ?_
            exact g_lv (ih y2_12 y3_12 (y4_12 + (1 : Int32)) τ28 h) [2, 3, 4, 5, 0] rfl
          · have h := ite_f c_41 h
            exact g_lv (J44 () h) [1, 2, 5, 0] rfl
  exact g_lv (L12 n12 (-1 : Int32) (0 : Int32) (0 : Int32) τ1 h) [4, 3, 2, 1, 0] rfl
set_option maxRecDepth 20000 in
theorem c_X6_power (x0 : Int64) (x2 : Int32) (K : Int64 → Prop) : Met l yX6_power (.code yX6_power cX6_power 6 (some .long) :: AW) ({ frames := 0, cells := 0, slots := 0, locals := 0 } : Room) (pv0 (w_X6_power x0 x2 K) [.long x0, .int x2]) (vp_Sl K) 0 0 (fun _ => False) := by
  refine met_0l (own := "TrainNote") (lv := [(0, .long x0), (2, .int x2)]) (fun _ _ => 0) (by decide +kernel) rfl (Nat.le_of_ble_eq_true rfl) rfl ?_
  intro p e s m args below meth c X hr hlk h
  refine g_lconst (pc := 0) (v := 1) X rfl dX6_power_0 ?_
  refine g_lstore_n (pc := 1) (lv' := [(3, .long (1 : Int64)), (0, .long x0), (2, .int x2)]) X rfl (by decide) rfl dX6_power_1 ?_
  refine g_iconst (pc := 2) X ic_0 dX6_power_2 ?_
  refine g_istore (pc := 3) (lv' := [(5, .int (0 : Int32)), (3, .long (1 : Int64)), (0, .long x0), (2, .int x2)]) X (by decide) rfl dX6_power_3 ?_
  obtain ⟨n5, h⟩ := h
  have X21 : ∀ (u3_21 : Int64), E_X6_power_5 K u3_21 → G0l p l e ({ frames := 0, cells := 0, slots := 0, locals := 0 } : Room) s m args below meth c K 6 21 [(3, .long u3_21)] []  (fun _ _ => 0) := by
    intro u3_21 h
    refine g_lload_n (pc := 21) X rfl 0 rfl dX6_power_21 ?_
    exact g_ret0l (pc := 22) X hr hlk dX6_power_22 h
  have L5 : ∀ (n : Nat) (y3_5 : Int64) (y5_5 : Int32), lq2 (F_X6_power_5 x2 x0 (E_X6_power_5 K)) n y3_5 y5_5 → G0l p l e ({ frames := 0, cells := 0, slots := 0, locals := 0 } : Room) s m args below meth c K 6 5 [(0, .long x0), (2, .int x2), (3, .long y3_5), (5, .int y5_5)] []  (fun _ _ => 0) := by
    intro n
    induction n with
    | zero =>
      intro y3_5 y5_5 h
      exact h.elim
    | succ n ih =>
      intro y3_5 y5_5 h
      have h : F_X6_power_5 x2 x0 (E_X6_power_5 K) (lq2 (F_X6_power_5 x2 x0 (E_X6_power_5 K)) n) y3_5 y5_5 := h
      refine g_iload (pc := 5) X 3 rfl dX6_power_5 ?_
      refine g_iload_n (pc := 7) X rfl 1 rfl dX6_power_7 ?_
      refine g_icmp_ge (pc := 8) (tgt := 21) X (by decide) dX6_power_8 (fun c_8 => ?_) (fun c_8 => ?_)
      · have h := ite_t c_8 h
        exact g_lv (X21 y3_5 h) [2] rfl
      · have h := ite_f c_8 h
        refine g_lload_n (pc := 11) X rfl 2 rfl dX6_power_11 ?_
        refine g_lload_n (pc := 12) X rfl 0 rfl dX6_power_12 ?_
        refine g_lmul (pc := 13) X dX6_power_13 ?_
        refine g_lstore_n (pc := 14) (lv' := [(3, .long (y3_5 * x0)), (0, .long x0), (2, .int x2), (5, .int y5_5)]) X rfl (by decide) rfl dX6_power_14 ?_
        refine g_iinc (pc := 15) (lv' := [(5, .int (y5_5 + (1 : Int32))), (3, .long (y3_5 * x0)), (0, .long x0), (2, .int x2)]) X 3 rfl rfl (by decide) rfl dX6_power_15 ?_
        refine g_goto (pc := 18) (tgt := 5) X (by decide) dX6_power_18 ?_
        exact g_lv (ih (y3_5 * x0) (y5_5 + (1 : Int32)) h) [2, 3, 1, 0] rfl
  exact g_lv (L5 n5 (1 : Int64) (0 : Int32) h) [2, 3, 1, 0] rfl
set_option maxRecDepth 20000 in
theorem c_X6_waysToClose (x1 : Int32) (x2 : Int32) (x3 : Int32) (σ : Sg) (K : Int64 → Sg → Prop) : ∀ sz, Met l yX6_waysToClose (.code yX6_waysToClose cX6_waysToClose 9 (some .long) :: AW) ({ frames := 4, cells := 0, slots := 0, locals := 95 } : Room) (pvM D (tyC cI cZ cS) (SXC tS tF) (wC cI cZ cS a σ) sz (w_X6_waysToClose x1 x2 x3 σ K) [.ref (a 0), .int x1, .int x2, .int x3]) (va_Ql K (atM D (tyC cI cZ cS) (wC cI cZ cS a) (va_A (wC cI cZ cS a σ) sz)) (va_A (wC cI cZ cS a σ) sz)) 0 0 (va_A (wC cI cZ cS a σ) sz) := by
  intro sz
  refine met_Ml (own := "TrainNote") (lv := [(0, .ref (a 0)), (1, .int x1), (2, .int x2), (3, .int x3)]) (by decide +kernel) rfl (Nat.le_of_ble_eq_true rfl) rfl ?_
  intro p e s m args below meth c A X hK hX hA hr hlk h
  have hR : ∀ σ H locs, hpM D (wC cI cZ cS a) A s σ H locs → va_P D vwCl ((wC cI cZ cS a σ)) H := fun _ _ _ h => h.1
  have hok := SXC_ok tS tF
  refine g_aload_n (pc := 0) X rfl 0 rfl dX6_waysToClose_0 ?_
  refine fX6_45 (pc := 1) X hK hR k_isTop_0 dX6_waysToClose_1 ?_
  refine g_aload_n (pc := 4) X rfl 0 rfl dX6_waysToClose_4 ?_
  refine fX6_41 (pc := 5) X hK hR k_isTop_0 dX6_waysToClose_5 ?_
  refine g_cVMv (pc := 8) (As := [.ref (a 26)]) X hK hX hok hA mi_X5_become (c_X5_become (k0 := 27) k_isTr_27 (k1 := 26) k_isTr_26 σ _) (fun _ => ⟨_, wl_ate (oX5 (cI := cI) (cZ := cZ) (cS := cS) (a := a) k_isTr_27).1 ((oX5 (cI := cI) (cZ := cZ) (cS := cS) (a := a) k_isTr_27).2 _)⟩) rfl rfl kw2_184 ⟨rfl, rfl⟩ ⟨Nat.le_of_ble_eq_true rfl, Nat.le_of_ble_eq_true rfl⟩ rfl (Nat.le_of_ble_eq_true rfl) dX6_waysToClose_8 rfl h (fun τ8 h => ?_)
  refine g_lconst (pc := 11) (v := 0) X rfl dX6_waysToClose_11 ?_
  refine g_lstore (pc := 12) (lv' := [(4, .long (0 : Int64)), (0, .ref (a 0)), (1, .int x1), (2, .int x2), (3, .int x3)]) X (by decide) rfl dX6_waysToClose_12 ?_
  refine g_lconst (pc := 14) (v := 1) X rfl dX6_waysToClose_14 ?_
  refine g_lstore (pc := 15) (lv' := [(6, .long (1 : Int64)), (4, .long (0 : Int64)), (0, .ref (a 0)), (1, .int x1), (2, .int x2), (3, .int x3)]) X (by decide) rfl dX6_waysToClose_15 ?_
  refine g_iconst (pc := 17) X ic_0 dX6_waysToClose_17 ?_
  refine g_istore (pc := 18) (lv' := [(8, .int (0 : Int32)), (6, .long (1 : Int64)), (4, .long (0 : Int64)), (0, .ref (a 0)), (1, .int x1), (2, .int x2), (3, .int x3)]) X (by decide) rfl dX6_waysToClose_18 ?_
  obtain ⟨n20, h⟩ := h
  have X97 : ∀ (u4_97 : Int64) (ρe97 : Sg), E_X6_waysToClose_20 K u4_97 ρe97 → GMl p l e ({ frames := 4, cells := 0, slots := 0, locals := 95 } : Room) s m args below meth c K 9 D (tyC cI cZ cS) (wC cI cZ cS a) A 97 [(4, .long u4_97)] [] ρe97 := by
    intro u4_97 ρe97 h
    refine g_lload (pc := 97) X 0 rfl dX6_waysToClose_97 ?_
    exact g_retMl (pc := 99) X hK hr hlk dX6_waysToClose_99 h
  have L20 : ∀ (n : Nat) (y4_20 : Int64) (y6_20 : Int64) (y8_20 : Int32) (ρ20 : Sg), lq4 (F_X6_waysToClose_20 x1 x3 x2 (E_X6_waysToClose_20 K)) n y4_20 y6_20 y8_20 ρ20 → GMl p l e ({ frames := 4, cells := 0, slots := 0, locals := 95 } : Room) s m args below meth c K 9 D (tyC cI cZ cS) (wC cI cZ cS a) A 20 [(0, .ref (a 0)), (1, .int x1), (2, .int x2), (3, .int x3), (4, .long y4_20), (6, .long y6_20), (8, .int y8_20)] [] ρ20 := by
    intro n
    induction n with
    | zero =>
      intro y4_20 y6_20 y8_20 ρ20 h
      exact h.elim
    | succ n ih =>
      intro y4_20 y6_20 y8_20 ρ20 h
      have h : F_X6_waysToClose_20 x1 x3 x2 (E_X6_waysToClose_20 K) (lq4 (F_X6_waysToClose_20 x1 x3 x2 (E_X6_waysToClose_20 K)) n) y4_20 y6_20 y8_20 ρ20 := h
      generalize lq4 (F_X6_waysToClose_20 x1 x3 x2 (E_X6_waysToClose_20 K)) n = rec20 at h ih
      refine g_iload (pc := 20) X 6 rfl dX6_waysToClose_20 ?_
      refine g_iload_n (pc := 22) X rfl 1 rfl dX6_waysToClose_22 ?_
      refine g_icmp_gt (pc := 23) (tgt := 97) X (by decide) dX6_waysToClose_23 (fun c_23 => ?_) (fun c_23 => ?_)
      · have h := ite_t c_23 h
        exact g_lv (X97 y4_20 ρ20 h) [4] rfl
      · have h := ite_f c_23 h
        refine g_aload_n (pc := 26) X rfl 0 rfl dX6_waysToClose_26 ?_
        refine fX6_45 (pc := 27) X hK hR k_isTop_0 dX6_waysToClose_27 ?_
        refine g_iload (pc := 30) X 6 rfl dX6_waysToClose_30 ?_
        refine pX6_227 (pc := 32) X hK k_isTr_27 dX6_waysToClose_32 (fun τ32 eτ32 => ?_)
        have h := h τ32 eτ32
        refine g_aload_n (pc := 35) X rfl 0 rfl dX6_waysToClose_35 ?_
        refine g_aload_n (pc := 36) X rfl 0 rfl dX6_waysToClose_36 ?_
        refine fX6_45 (pc := 37) X hK hR k_isTop_0 dX6_waysToClose_37 ?_
        refine g_iload_n (pc := 40) X rfl 3 rfl dX6_waysToClose_40 ?_
        refine g_cVPi (pc := 41) (As := [.ref (a 27), .int x3]) X hK hR mi_X6_closes (c_X6_closes (k1 := 27) k_isTr_27 x3 τ32 _) (wl_ate (oX6 (cI := cI) (cZ := cZ) (cS := cS) (a := a) k_isTop_0).1 ((oX6 (cI := cI) (cZ := cZ) (cS := cS) (a := a) k_isTop_0).2 _)) rfl rfl kw2_117 ⟨rfl, rfl⟩ ⟨Nat.le_of_ble_eq_true rfl, Nat.le_of_ble_eq_true rfl⟩ rfl (Nat.le_of_ble_eq_true rfl) dX6_waysToClose_41 rfl h (fun r41 h => ?_)
        have J75 : ∀ (z4_75 : Int64), J_X6_waysToClose_75 y8_20 y6_20 x1 rec20 τ32 z4_75 → GMl p l e ({ frames := 4, cells := 0, slots := 0, locals := 95 } : Room) s m args below meth c K 9 D (tyC cI cZ cS) (wC cI cZ cS a) A 75 [(0, .ref (a 0)), (1, .int x1), (2, .int x2), (3, .int x3), (4, .long z4_75), (6, .long y6_20), (8, .int y8_20)] [] τ32 := by
          intro z4_75 h
          refine g_lload (pc := 75) X 5 rfl dX6_waysToClose_75 ?_
          refine g_iload_n (pc := 77) X rfl 1 rfl dX6_waysToClose_77 ?_
          refine g_iload (pc := 78) X 6 rfl dX6_waysToClose_78 ?_
          refine g_isub (pc := 80) X dX6_waysToClose_80 ?_
          refine g_i2l (pc := 81) X dX6_waysToClose_81 ?_
          refine g_lmul (pc := 82) X dX6_waysToClose_82 ?_
          refine g_iload (pc := 83) X 6 rfl dX6_waysToClose_83 ?_
          refine g_iconst (pc := 85) X ic_1 dX6_waysToClose_85 ?_
          refine g_iadd (pc := 86) X dX6_waysToClose_86 ?_
          refine g_i2l (pc := 87) X dX6_waysToClose_87 ?_
          obtain ⟨h_88, h⟩ := h
          refine g_ldiv (pc := 88) X h_88 dX6_waysToClose_88 ?_
          refine g_topl (fun x6_89 ex6_89 => ?_)
          have h := h x6_89 ex6_89
          refine g_lstore (pc := 89) (lv' := [(6, .long x6_89), (0, .ref (a 0)), (1, .int x1), (2, .int x2), (3, .int x3), (4, .long z4_75), (8, .int y8_20)]) X (by decide) rfl dX6_waysToClose_89 ?_
          refine g_iinc (pc := 91) (lv' := [(8, .int (y8_20 + (1 : Int32))), (6, .long x6_89), (0, .ref (a 0)), (1, .int x1), (2, .int x2), (3, .int x3), (4, .long z4_75)]) X 6 rfl rfl (by decide) rfl dX6_waysToClose_91 ?_
          refine g_goto (pc := 94) (tgt := 20) X (by decide) dX6_waysToClose_94 ?_
          exact g_lv (ih z4_75 x6_89 (y8_20 + (1 : Int32)) τ32 h) [2, 3, 4, 5, 6, 1, 0] rfl
        refine g_if_eq (pc := 44) (tgt := 75) X (by decide) dX6_waysToClose_44 (fun c_44 => ?_) (fun c_44 => ?_)
        · have h := ite_t c_44 h
          exact g_lv (J75 y4_20 h) [0, 1, 2, 3, 4, 5, 6] rfl
        · have h := ite_f c_44 h
          refine g_lload (pc := 47) X 4 rfl dX6_waysToClose_47 ?_
          refine g_lload (pc := 49) X 5 rfl dX6_waysToClose_49 ?_
          refine g_iload_n (pc := 51) X rfl 2 rfl dX6_waysToClose_51 ?_
          refine g_i2l (pc := 52) X dX6_waysToClose_52 ?_
          refine g_iload (pc := 53) X 6 rfl dX6_waysToClose_53 ?_
          refine g_cS0l (pc := 55) (As := [.long (x2).toInt64, .int y8_20]) X mi_X6_power (c_X6_power (x2).toInt64 y8_20 _) kw3_17 ⟨rfl, rfl⟩ ⟨Nat.le_of_ble_eq_true rfl, Nat.le_of_ble_eq_true rfl⟩ rfl (Nat.le_of_ble_eq_true rfl) dX6_waysToClose_55 rfl h (fun r55 h => ?_)
          refine g_lmul (pc := 58) X dX6_waysToClose_58 ?_
          refine g_bipush (pc := 59) X bp_16 dX6_waysToClose_59 ?_
          refine g_iload_n (pc := 61) X rfl 2 rfl dX6_waysToClose_61 ?_
          refine g_isub (pc := 62) X dX6_waysToClose_62 ?_
          refine g_i2l (pc := 63) X dX6_waysToClose_63 ?_
          refine g_iload_n (pc := 64) X rfl 1 rfl dX6_waysToClose_64 ?_
          refine g_iload (pc := 65) X 6 rfl dX6_waysToClose_65 ?_
          refine g_isub (pc := 67) X dX6_waysToClose_67 ?_
          refine g_cS0l (pc := 68) (As := [.long (((16 : Int32) - x2)).toInt64, .int (x1 - y8_20)]) X mi_X6_power (c_X6_power (((16 : Int32) - x2)).toInt64 (x1 - y8_20) _) kw3_17 ⟨rfl, rfl⟩ ⟨Nat.le_of_ble_eq_true rfl, Nat.le_of_ble_eq_true rfl⟩ rfl (Nat.le_of_ble_eq_true rfl) dX6_waysToClose_68 rfl h (fun r68 h => ?_)
          refine g_lmul (pc := 71) X dX6_waysToClose_71 ?_
          refine g_ladd (pc := 72) X dX6_waysToClose_72 ?_
          refine g_topl (fun x4_73 ex4_73 => ?_)
          have h := h x4_73 ex4_73
          refine g_lstore (pc := 73) (lv' := [(4, .long x4_73), (0, .ref (a 0)), (1, .int x1), (2, .int x2), (3, .int x3), (6, .long y6_20), (8, .int y8_20)]) X (by decide) rfl dX6_waysToClose_73 ?_
          exact g_lv (J75 x4_73 h) [1, 2, 3, 4, 0, 5, 6] rfl
  exact g_lv (L20 n20 (0 : Int64) (1 : Int64) (0 : Int32) τ8 h) [3, 4, 5, 6, 2, 1, 0] rfl
end
