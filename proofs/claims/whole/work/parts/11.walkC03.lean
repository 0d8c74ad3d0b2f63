section
variable {l : Launch} {D : va_G} {cI cZ cS : ClassId} {a : Nat → Nat} {tS tF : Nat}
set_option maxRecDepth 20000 in
theorem c_X6_bestOrder (x1 : Int32) (x2 : Int32) (σ : Sg) (K : Int32 → Sg → Prop) : ∀ sz, Met l yX6_bestOrder (.code yX6_bestOrder cX6_bestOrder 7 (some .int) :: AW) ({ frames := 4, cells := 0, slots := 0, locals := 97 } : Room) (pvM D (tyC cI cZ cS) (SXC tS tF) (wC cI cZ cS a σ) sz (w_X6_bestOrder x1 x2 σ K) [.ref (a 0), .int x1, .int x2]) (va_Qi K (atM D (tyC cI cZ cS) (wC cI cZ cS a) (va_A (wC cI cZ cS a σ) sz)) (va_A (wC cI cZ cS a σ) sz)) 0 0 (va_A (wC cI cZ cS a σ) sz) := by
  intro sz
  refine met_Mi (own := "TrainNote") (lv := [(0, .ref (a 0)), (1, .int x1), (2, .int x2)]) (by decide +kernel) rfl (Nat.le_of_ble_eq_true rfl) rfl ?_
  intro p e s m args below meth c A X hK hX hA hr hlk h
  have hR : ∀ σ H locs, hpM D (wC cI cZ cS a) A s σ H locs → va_P D vwCl ((wC cI cZ cS a σ)) H := fun _ _ _ h => h.1
  have hok := SXC_ok tS tF
  refine g_iconst (pc := 0) X ic_0 dX6_bestOrder_0 ?_
  refine g_istore_n (pc := 1) (lv' := [(3, .int (0 : Int32)), (0, .ref (a 0)), (1, .int x1), (2, .int x2)]) X rfl (by decide) rfl dX6_bestOrder_1 ?_
  refine g_aload_n (pc := 2) X rfl 1 rfl dX6_bestOrder_2 ?_
  refine g_iconst (pc := 3) X ic_0 dX6_bestOrder_3 ?_
  refine g_iload_n (pc := 4) X rfl 3 rfl dX6_bestOrder_4 ?_
  refine g_iload_n (pc := 5) X rfl 2 rfl dX6_bestOrder_5 ?_
  refine g_cVMi (pc := 6) (As := [.int (0 : Int32), .int x2, .int x1]) X hK hX hok hA mi_X6_spreadWhenMoved (c_X6_spreadWhenMoved (0 : Int32) x2 x1 σ _) (fun _ => ⟨_, wl_ate (oX6 (cI := cI) (cZ := cZ) (cS := cS) (a := a) k_isTop_0).1 ((oX6 (cI := cI) (cZ := cZ) (cS := cS) (a := a) k_isTop_0).2 _)⟩) rfl rfl kw2_145 ⟨rfl, rfl⟩ ⟨Nat.le_of_ble_eq_true rfl, Nat.le_of_ble_eq_true rfl⟩ rfl (Nat.le_of_ble_eq_true rfl) dX6_bestOrder_6 rfl h (fun r6 τ6 h => ?_)
  refine g_istore (pc := 9) (lv' := [(4, .int r6), (3, .int (0 : Int32)), (0, .ref (a 0)), (1, .int x1), (2, .int x2)]) X (by decide) rfl dX6_bestOrder_9 ?_
  refine g_iconst (pc := 11) X ic_1 dX6_bestOrder_11 ?_
  refine g_istore (pc := 12) (lv' := [(5, .int (1 : Int32)), (4, .int r6), (3, .int (0 : Int32)), (0, .ref (a 0)), (1, .int x1), (2, .int x2)]) X (by decide) rfl dX6_bestOrder_12 ?_
  obtain ⟨n14, h⟩ := h
  have X59 : ∀ (u3_59 : Int32) (ρe59 : Sg), E_X6_bestOrder_14 K u3_59 ρe59 → GMi p l e ({ frames := 4, cells := 0, slots := 0, locals := 97 } : Room) s m args below meth c K 7 D (tyC cI cZ cS) (wC cI cZ cS a) A 59 [(3, .int u3_59)] [] ρe59 := by
    intro u3_59 ρe59 h
    refine g_iload_n (pc := 59) X rfl 0 rfl dX6_bestOrder_59 ?_
    exact g_retMi (pc := 60) X hK hr hlk dX6_bestOrder_60 h
  have L14 : ∀ (n : Nat) (y3_14 : Int32) (y4_14 : Int32) (y5_14 : Int32) (ρ14 : Sg), lq4 (F_X6_bestOrder_14 x2 x1 (E_X6_bestOrder_14 K)) n y3_14 y4_14 y5_14 ρ14 → GMi p l e ({ frames := 4, cells := 0, slots := 0, locals := 97 } : Room) s m args below meth c K 7 D (tyC cI cZ cS) (wC cI cZ cS a) A 14 [(0, .ref (a 0)), (1, .int x1), (2, .int x2), (3, .int y3_14), (4, .int y4_14), (5, .int y5_14)] [] ρ14 := by
    intro n
    induction n with
    | zero =>
      intro y3_14 y4_14 y5_14 ρ14 h
      exact h.elim
    | succ n ih =>
      intro y3_14 y4_14 y5_14 ρ14 h
      have h : F_X6_bestOrder_14 x2 x1 (E_X6_bestOrder_14 K) (lq4 (F_X6_bestOrder_14 x2 x1 (E_X6_bestOrder_14 K)) n) y3_14 y4_14 y5_14 ρ14 := h
      refine g_iload (pc := 14) X 5 rfl dX6_bestOrder_14 ?_
      refine s_378 (pc := 16) X hX dX6_bestOrder_16 ?_
      refine g_iload_n (pc := 19) X rfl 2 rfl dX6_bestOrder_19 ?_
      obtain ⟨h_20, h⟩ := h
      refine s_378_ld (pc := 20) X hX h_20 dX6_bestOrder_20 ?_
      refine g_icmp_ge (pc := 21) (tgt := 59) X (by decide) dX6_bestOrder_21 (fun c_21 => ?_) (fun c_21 => ?_)
      · have h := ite_t c_21 h
        exact g_lv (X59 y3_14 ρ14 h) [3] rfl
      · have h := ite_f c_21 h
        refine g_iload (pc := 24) X 4 rfl dX6_bestOrder_24 ?_
        refine g_if_le (pc := 26) (tgt := 59) X (by decide) dX6_bestOrder_26 (fun c_26 => ?_) (fun c_26 => ?_)
        · have h := ite_t c_26 h
          exact g_lv (X59 y3_14 ρ14 h) [3] rfl
        · have h := ite_f c_26 h
          refine g_aload_n (pc := 29) X rfl 0 rfl dX6_bestOrder_29 ?_
          refine g_iload (pc := 30) X 5 rfl dX6_bestOrder_30 ?_
          refine g_iload_n (pc := 32) X rfl 2 rfl dX6_bestOrder_32 ?_
          refine g_iload_n (pc := 33) X rfl 1 rfl dX6_bestOrder_33 ?_
          refine g_cVMi (pc := 34) (As := [.int y5_14, .int x2, .int x1]) X hK hX hok hA mi_X6_spreadWhenMoved (c_X6_spreadWhenMoved y5_14 x2 x1 ρ14 _) (fun _ => ⟨_, wl_ate (oX6 (cI := cI) (cZ := cZ) (cS := cS) (a := a) k_isTop_0).1 ((oX6 (cI := cI) (cZ := cZ) (cS := cS) (a := a) k_isTop_0).2 _)⟩) rfl rfl kw2_145 ⟨rfl, rfl⟩ ⟨Nat.le_of_ble_eq_true rfl, Nat.le_of_ble_eq_true rfl⟩ rfl (Nat.le_of_ble_eq_true rfl) dX6_bestOrder_34 rfl h (fun r34 τ34 h => ?_)
          refine g_istore (pc := 37) (lv' := [(6, .int r34), (0, .ref (a 0)), (1, .int x1), (2, .int x2), (3, .int y3_14), (4, .int y4_14), (5, .int y5_14)]) X (by decide) rfl dX6_bestOrder_37 ?_
          refine g_iload (pc := 39) X 0 rfl dX6_bestOrder_39 ?_
          refine g_iload (pc := 41) X 5 rfl dX6_bestOrder_41 ?_
          refine g_icmp_ge (pc := 43) (tgt := 53) X (by decide) dX6_bestOrder_43 (fun c_43 => ?_) (fun c_43 => ?_)
          · have h := ite_t c_43 h
            refine g_iinc (pc := 53) (lv' := [(5, .int (y5_14 + (1 : Int32))), (6, .int r34), (0, .ref (a 0)), (1, .int x1), (2, .int x2), (3, .int y3_14), (4, .int y4_14)]) X 6 rfl rfl (by decide) rfl dX6_bestOrder_53 ?_
            refine g_goto (pc := 56) (tgt := 14) X (by decide) dX6_bestOrder_56 ?_
            exact g_lv (ih y3_14 y4_14 (y5_14 + (1 : Int32)) τ34 h) [2, 3, 4, 5, 6, 0] rfl
          · have h := ite_f c_43 h
            refine g_iload (pc := 46) X 6 rfl dX6_bestOrder_46 ?_
            refine g_istore_n (pc := 48) (lv' := [(3, .int y5_14), (6, .int r34), (0, .ref (a 0)), (1, .int x1), (2, .int x2), (4, .int y4_14), (5, .int y5_14)]) X rfl (by decide) rfl dX6_bestOrder_48 ?_
            refine g_iload (pc := 49) X 1 rfl dX6_bestOrder_49 ?_
            refine g_istore (pc := 51) (lv' := [(4, .int r34), (3, .int y5_14), (6, .int r34), (0, .ref (a 0)), (1, .int x1), (2, .int x2), (5, .int y5_14)]) X (by decide) rfl dX6_bestOrder_51 ?_
            refine g_iinc (pc := 53) (lv' := [(5, .int (y5_14 + (1 : Int32))), (4, .int r34), (3, .int y5_14), (6, .int r34), (0, .ref (a 0)), (1, .int x1), (2, .int x2)]) X 6 rfl rfl (by decide) rfl dX6_bestOrder_53 ?_
            refine g_goto (pc := 56) (tgt := 14) X (by decide) dX6_bestOrder_56 ?_
            exact g_lv (ih y5_14 r34 (y5_14 + (1 : Int32)) τ34 h) [4, 5, 6, 2, 1, 0] rfl
  exact g_lv (L14 n14 (0 : Int32) r6 (1 : Int32) τ6 h) [3, 4, 5, 2, 1, 0] rfl
set_option maxRecDepth 20000 in
theorem c_X6_stand (x1 : Int32) (x2 : Int32) (σ : Sg) (K : Int32 → Sg → Prop) : ∀ sz, Met l yX6_stand (.code yX6_stand cX6_stand 5 (some .int) :: AW) ({ frames := 5, cells := 0, slots := 0, locals := 123 } : Room) (pvM D (tyC cI cZ cS) (SXC tS tF) (wC cI cZ cS a σ) sz (w_X6_stand x1 x2 σ K) [.ref (a 0), .int x1, .int x2]) (va_Qi K (atM D (tyC cI cZ cS) (wC cI cZ cS a) (va_A (wC cI cZ cS a σ) sz)) (va_A (wC cI cZ cS a σ) sz)) 0 0 (va_A (wC cI cZ cS a σ) sz) := by
  intro sz
  refine met_Mi (own := "TrainNote") (lv := [(0, .ref (a 0)), (1, .int x1), (2, .int x2)]) (by decide +kernel) rfl (Nat.le_of_ble_eq_true rfl) rfl ?_
  intro p e s m args below meth c A X hK hX hA hr hlk h
  have hR : ∀ σ H locs, hpM D (wC cI cZ cS a) A s σ H locs → va_P D vwCl ((wC cI cZ cS a σ)) H := fun _ _ _ h => h.1
  have hok := SXC_ok tS tF
  refine g_aload_n (pc := 0) X rfl 0 rfl dX6_stand_0 ?_
  refine g_iload_n (pc := 1) X rfl 1 rfl dX6_stand_1 ?_
  refine g_cVPi (pc := 2) (As := [.int x1]) X hK hR mi_X6_isNoBar (c_X6_isNoBar x1 σ _) (wl_ate (oX6 (cI := cI) (cZ := cZ) (cS := cS) (a := a) k_isTop_0).1 ((oX6 (cI := cI) (cZ := cZ) (cS := cS) (a := a) k_isTop_0).2 _)) rfl rfl kw2_96 ⟨rfl, rfl⟩ ⟨Nat.le_of_ble_eq_true rfl, Nat.le_of_ble_eq_true rfl⟩ rfl (Nat.le_of_ble_eq_true rfl) dX6_stand_2 rfl h (fun r2 h => ?_)
  refine g_if_ne (pc := 5) (tgt := 18) X (by decide) dX6_stand_5 (fun c_5 => ?_) (fun c_5 => ?_)
  · have h := ite_f c_5 h
    refine g_bipush (pc := 18) X bp_m2 dX6_stand_18 ?_
    exact g_retMi (pc := 20) X hK hr hlk dX6_stand_20 h
  · have h := ite_t c_5 h
    refine g_iload_n (pc := 8) X rfl 2 rfl dX6_stand_8 ?_
    refine g_iconst (pc := 9) X ic_m1 dX6_stand_9 ?_
    refine g_icmp_lt (pc := 10) (tgt := 18) X (by decide) dX6_stand_10 (fun c_10 => ?_) (fun c_10 => ?_)
    · have h := ite_t c_10 h
      refine g_bipush (pc := 18) X bp_m2 dX6_stand_18 ?_
      exact g_retMi (pc := 20) X hK hr hlk dX6_stand_20 h
    · have h := ite_f c_10 h
      refine g_iload_n (pc := 13) X rfl 2 rfl dX6_stand_13 ?_
      refine g_iconst (pc := 14) X ic_5 dX6_stand_14 ?_
      refine g_icmp_lt (pc := 15) (tgt := 21) X (by decide) dX6_stand_15 (fun c_15 => ?_) (fun c_15 => ?_)
      · have h := ite_t c_15 h
        refine g_iconst (pc := 21) X ic_5 dX6_stand_21 ?_
        refine g_aload_n (pc := 22) X rfl 0 rfl dX6_stand_22 ?_
        refine fX6_24 (pc := 23) X hK hR k_isTop_0 dX6_stand_23 ?_
        refine fX6_165 (pc := 26) X hK hR k_isCh_5 dX6_stand_26 ?_
        refine g_mmin (pc := 29) X kw2_115 kw1_28 kw1_3 kw1_29 (Nat.le_of_ble_eq_true rfl) (Nat.le_of_ble_eq_true rfl) dX6_stand_29 ?_
        refine g_topi (fun m29 em29 => ?_)
        have h := h m29 em29
        refine g_istore_n (pc := 32) (lv' := [(3, .int m29), (0, .ref (a 0)), (1, .int x1), (2, .int x2)]) X rfl (by decide) rfl dX6_stand_32 ?_
        refine g_iload_n (pc := 33) X rfl 3 rfl dX6_stand_33 ?_
        refine g_iload_n (pc := 34) X rfl 0 rfl dX6_stand_34 ?_
        refine g_icmp_lt (pc := 35) (tgt := 40) X (by decide) dX6_stand_35 (fun c_35 => ?_) (fun c_35 => ?_)
        · have h := ite_t c_35 h
          refine g_aload_n (pc := 40) X rfl 1 rfl dX6_stand_40 ?_
          refine fX6_28 (pc := 41) X hK hR k_isTop_0 dX6_stand_41 ?_
          refine g_aload_n (pc := 44) X rfl 1 rfl dX6_stand_44 ?_
          refine fX6_24 (pc := 45) X hK hR k_isTop_0 dX6_stand_45 ?_
          refine g_cVMv (pc := 48) (As := [.ref (a 5)]) X hK hX hok hA mi_X0_become (c_X0_become (k0 := 14) k_isCh_14 (k1 := 5) k_isCh_5 σ _) (fun _ => ⟨_, wl_ate (oX0 (cI := cI) (cZ := cZ) (cS := cS) (a := a) k_isCh_14).1 ((oX0 (cI := cI) (cZ := cZ) (cS := cS) (a := a) k_isCh_14).2 _)⟩) rfl rfl kw2_137 ⟨rfl, rfl⟩ ⟨Nat.le_of_ble_eq_true rfl, Nat.le_of_ble_eq_true rfl⟩ rfl (Nat.le_of_ble_eq_true rfl) dX6_stand_48 rfl h (fun τ48 h => ?_)
          refine g_aload_n (pc := 51) X rfl 1 rfl dX6_stand_51 ?_
          refine g_iload_n (pc := 52) X rfl 2 rfl dX6_stand_52 ?_
          refine g_iload_n (pc := 53) X rfl 0 rfl dX6_stand_53 ?_
          refine g_cVMi (pc := 54) (As := [.int x1, .int m29]) X hK hX hok hA mi_X6_bestOrder (c_X6_bestOrder x1 m29 τ48 _) (fun _ => ⟨_, wl_ate (oX6 (cI := cI) (cZ := cZ) (cS := cS) (a := a) k_isTop_0).1 ((oX6 (cI := cI) (cZ := cZ) (cS := cS) (a := a) k_isTop_0).2 _)⟩) rfl rfl kw2_141 ⟨rfl, rfl⟩ ⟨Nat.le_of_ble_eq_true rfl, Nat.le_of_ble_eq_true rfl⟩ rfl (Nat.le_of_ble_eq_true rfl) dX6_stand_54 rfl h (fun r54 τ54 h => ?_)
          refine g_istore (pc := 57) (lv' := [(4, .int r54), (3, .int m29), (0, .ref (a 0)), (1, .int x1), (2, .int x2)]) X (by decide) rfl dX6_stand_57 ?_
          refine g_iload_n (pc := 59) X rfl 4 rfl dX6_stand_59 ?_
          refine g_iconst (pc := 60) X ic_m1 dX6_stand_60 ?_
          refine g_icmp_ne (pc := 61) (tgt := 73) X (by decide) dX6_stand_61 (fun c_61 => ?_) (fun c_61 => ?_)
          · have h := ite_f c_61 h
            refine g_aload_n (pc := 73) X rfl 2 rfl dX6_stand_73 ?_
            refine g_iload (pc := 74) X 0 rfl dX6_stand_74 ?_
            refine g_iload_n (pc := 76) X rfl 1 rfl dX6_stand_76 ?_
            refine g_cVMv (pc := 77) (As := [.int r54, .int m29]) X hK hX hok hA mi_X6_layOrder (c_X6_layOrder r54 m29 τ54 _) (fun _ => ⟨_, wl_ate (oX6 (cI := cI) (cZ := cZ) (cS := cS) (a := a) k_isTop_0).1 ((oX6 (cI := cI) (cZ := cZ) (cS := cS) (a := a) k_isTop_0).2 _)⟩) rfl rfl kw2_149 ⟨rfl, rfl⟩ ⟨Nat.le_of_ble_eq_true rfl, Nat.le_of_ble_eq_true rfl⟩ rfl (Nat.le_of_ble_eq_true rfl) dX6_stand_77 rfl h (fun τ77 h => ?_)
            refine g_aload_n (pc := 80) X rfl 2 rfl dX6_stand_80 ?_
            refine fX6_62 (pc := 81) X hK hR k_isTop_0 dX6_stand_81 ?_
            refine g_iload_n (pc := 84) X rfl 4 rfl dX6_stand_84 ?_
            obtain ⟨h_85, h⟩ := h
            refine aX6_standing (pc := 85) X hK hR k_isTop_0 h_85 dX6_stand_85 ?_
            exact g_retMi (pc := 86) X hK hr hlk dX6_stand_86 h
          · have h := ite_t c_61 h
            refine g_aload_n (pc := 64) X rfl 2 rfl dX6_stand_64 ?_
            refine g_iload (pc := 65) X 0 rfl dX6_stand_65 ?_
            refine g_iload_n (pc := 67) X rfl 1 rfl dX6_stand_67 ?_
            refine g_iload_n (pc := 68) X rfl 3 rfl dX6_stand_68 ?_
            refine g_cVMi (pc := 69) (As := [.int r54, .int m29, .int x1]) X hK hX hok hA mi_X6_spreadWhenMoved (c_X6_spreadWhenMoved r54 m29 x1 τ54 _) (fun _ => ⟨_, wl_ate (oX6 (cI := cI) (cZ := cZ) (cS := cS) (a := a) k_isTop_0).1 ((oX6 (cI := cI) (cZ := cZ) (cS := cS) (a := a) k_isTop_0).2 _)⟩) rfl rfl kw2_145 ⟨rfl, rfl⟩ ⟨Nat.le_of_ble_eq_true rfl, Nat.le_of_ble_eq_true rfl⟩ rfl (Nat.le_of_ble_eq_true rfl) dX6_stand_69 rfl h (fun r69 τ69 h => ?_)
            exact g_retMi (pc := 72) X hK hr hlk dX6_stand_72 h
        · have h := ite_f c_35 h
          refine g_iconst (pc := 38) X ic_m1 dX6_stand_38 ?_
          exact g_retMi (pc := 39) X hK hr hlk dX6_stand_39 h
      · have h := ite_f c_15 h
        refine g_bipush (pc := 18) X bp_m2 dX6_stand_18 ?_
        exact g_retMi (pc := 20) X hK hr hlk dX6_stand_20 h
set_option maxRecDepth 20000 in
theorem c_X6_outside (x1 : Int32) (x2 : Int32) (x3 : Int32) (σ : Sg) (K : Int32 → Prop) : Met l yX6_outside (.code yX6_outside cX6_outside 7 (some .int) :: AW) ({ frames := 2, cells := 0, slots := 0, locals := 45 } : Room) (pvP D (tyC cI cZ cS) (wC cI cZ cS a σ) (w_X6_outside x1 x2 x3 σ K) [.ref (a 0), .int x1, .int x2, .int x3]) (vp_Si K) 0 0 (fun _ => False) := by
  refine met_Pi (own := "TrainNote") (lv := [(0, .ref (a 0)), (1, .int x1), (2, .int x2), (3, .int x3)]) (by decide +kernel) rfl (Nat.le_of_ble_eq_true rfl) rfl ?_
  intro p e s m args below meth c X hK hr hlk h
  have hR : ∀ σ H locs, hpP D (wC cI cZ cS a) s σ H locs → va_P D vwCl ((wC cI cZ cS a σ)) H := fun _ _ _ h => h.1
  refine g_iconst (pc := 0) X ic_0 dX6_outside_0 ?_
  refine g_istore (pc := 1) (lv' := [(4, .int (0 : Int32)), (0, .ref (a 0)), (1, .int x1), (2, .int x2), (3, .int x3)]) X (by decide) rfl dX6_outside_1 ?_
  refine g_iconst (pc := 3) X ic_0 dX6_outside_3 ?_
  refine g_istore (pc := 4) (lv' := [(5, .int (0 : Int32)), (4, .int (0 : Int32)), (0, .ref (a 0)), (1, .int x1), (2, .int x2), (3, .int x3)]) X (by decide) rfl dX6_outside_4 ?_
  obtain ⟨n6, h⟩ := h
  have X69 : ∀ (u4_69 : Int32), E_X6_outside_6 K u4_69 → GPi p l e ({ frames := 2, cells := 0, slots := 0, locals := 45 } : Room) s m args below meth c K 7 D (wC cI cZ cS a) 69 [(4, .int u4_69)] [] σ := by
    intro u4_69 h
    refine g_iload (pc := 69) X 0 rfl dX6_outside_69 ?_
    exact g_retPi (pc := 71) X hr hlk dX6_outside_71 h
  have L6 : ∀ (n : Nat) (y4_6 : Int32) (y5_6 : Int32), lq2 (F_X6_outside_6 σ x3 x1 x2 (E_X6_outside_6 K)) n y4_6 y5_6 → GPi p l e ({ frames := 2, cells := 0, slots := 0, locals := 45 } : Room) s m args below meth c K 7 D (wC cI cZ cS a) 6 [(0, .ref (a 0)), (1, .int x1), (2, .int x2), (3, .int x3), (4, .int y4_6), (5, .int y5_6)] [] σ := by
    intro n
    induction n with
    | zero =>
      intro y4_6 y5_6 h
      exact h.elim
    | succ n ih =>
      intro y4_6 y5_6 h
      have h : F_X6_outside_6 σ x3 x1 x2 (E_X6_outside_6 K) (lq2 (F_X6_outside_6 σ x3 x1 x2 (E_X6_outside_6 K)) n) y4_6 y5_6 := h
      generalize lq2 (F_X6_outside_6 σ x3 x1 x2 (E_X6_outside_6 K)) n = rec6 at h ih
      refine g_iload (pc := 6) X 5 rfl dX6_outside_6 ?_
      refine g_aload_n (pc := 8) X rfl 0 rfl dX6_outside_8 ?_
      refine fX6_24 (pc := 9) X hK hR k_isTop_0 dX6_outside_9 ?_
      refine fX6_165 (pc := 12) X hK hR k_isCh_5 dX6_outside_12 ?_
      refine g_icmp_ge (pc := 15) (tgt := 69) X (by decide) dX6_outside_15 (fun c_15 => ?_) (fun c_15 => ?_)
      · have h := ite_t c_15 h
        exact g_lv (X69 y4_6 h) [4] rfl
      · have h := ite_f c_15 h
        refine g_iload_n (pc := 18) X rfl 3 rfl dX6_outside_18 ?_
        refine g_aload_n (pc := 19) X rfl 0 rfl dX6_outside_19 ?_
        refine fX6_24 (pc := 20) X hK hR k_isTop_0 dX6_outside_20 ?_
        refine g_aload_n (pc := 23) X rfl 0 rfl dX6_outside_23 ?_
        refine fX6_41 (pc := 24) X hK hR k_isTop_0 dX6_outside_24 ?_
        refine g_iload (pc := 27) X 5 rfl dX6_outside_27 ?_
        refine g_cSPi (pc := 29) (As := [.int x3, .ref (a 5), .ref (a 26), .int y5_6]) X hK hR mi_X6_noteBehind (c_X6_noteBehind x3 (k1 := 5) k_isCh_5 (k2 := 26) k_isTr_26 y5_6 σ _) kw2_100 ⟨rfl, rfl⟩ ⟨Nat.le_of_ble_eq_true rfl, Nat.le_of_ble_eq_true rfl⟩ rfl (Nat.le_of_ble_eq_true rfl) dX6_outside_29 rfl h (fun r29 h => ?_)
        refine g_istore (pc := 32) (lv' := [(6, .int r29), (0, .ref (a 0)), (1, .int x1), (2, .int x2), (3, .int x3), (4, .int y4_6), (5, .int y5_6)]) X (by decide) rfl dX6_outside_32 ?_
        refine g_iload (pc := 34) X 0 rfl dX6_outside_34 ?_
        refine g_sipush (pc := 36) X sp_m10000 dX6_outside_36 ?_
        refine g_icmp_eq (pc := 39) (tgt := 63) X (by decide) dX6_outside_39 (fun c_39 => ?_) (fun c_39 => ?_)
        · have h := ite_t c_39 h
          refine g_iinc (pc := 63) (lv' := [(5, .int (y5_6 + (1 : Int32))), (6, .int r29), (0, .ref (a 0)), (1, .int x1), (2, .int x2), (3, .int x3), (4, .int y4_6)]) X 6 rfl rfl (by decide) rfl dX6_outside_63 ?_
          refine g_goto (pc := 66) (tgt := 6) X (by decide) dX6_outside_66 ?_
          exact g_lv (ih y4_6 (y5_6 + (1 : Int32)) h) [2, 3, 4, 5, 6, 0] rfl
        · have h := ite_f c_39 h
          refine g_iload (pc := 42) X 0 rfl dX6_outside_42 ?_
          refine g_iload_n (pc := 44) X rfl 2 rfl dX6_outside_44 ?_
          have J54 : ∀ (_ : Unit), J_X6_outside_54 y4_6 y5_6 rec6 → GPi p l e ({ frames := 2, cells := 0, slots := 0, locals := 45 } : Room) s m args below meth c K 7 D (wC cI cZ cS a) 54 [(0, .ref (a 0)), (1, .int x1), (2, .int x2), (3, .int x3), (4, .int y4_6), (5, .int y5_6)] [] σ := by
            intro _ h
            refine g_iload (pc := 54) X 4 rfl dX6_outside_54 ?_
            refine g_iconst (pc := 56) X ic_1 dX6_outside_56 ?_
            refine g_iload (pc := 57) X 5 rfl dX6_outside_57 ?_
            refine g_ishl (pc := 59) X dX6_outside_59 ?_
            refine g_ior (pc := 60) X dX6_outside_60 ?_
            refine g_topi (fun x4_61 ex4_61 => ?_)
            have h := h x4_61 ex4_61
            refine g_istore (pc := 61) (lv' := [(4, .int x4_61), (0, .ref (a 0)), (1, .int x1), (2, .int x2), (3, .int x3), (5, .int y5_6)]) X (by decide) rfl dX6_outside_61 ?_
            refine g_iinc (pc := 63) (lv' := [(5, .int (y5_6 + (1 : Int32))), (4, .int x4_61), (0, .ref (a 0)), (1, .int x1), (2, .int x2), (3, .int x3)]) X 5 rfl rfl (by decide) rfl dX6_outside_63 ?_
            refine g_goto (pc := 66) (tgt := 6) X (by decide) dX6_outside_66 ?_
            exact g_lv (ih x4_61 (y5_6 + (1 : Int32)) h) [2, 3, 4, 5, 1, 0] rfl
          refine g_icmp_lt (pc := 45) (tgt := 54) X (by decide) dX6_outside_45 (fun c_45 => ?_) (fun c_45 => ?_)
          · have h := ite_t c_45 h
            exact g_lv (J54 () h) [1, 2, 3, 4, 5, 6] rfl
          · have h := ite_f c_45 h
            refine g_iload (pc := 48) X 0 rfl dX6_outside_48 ?_
            refine g_iload_n (pc := 50) X rfl 3 rfl dX6_outside_50 ?_
            refine g_icmp_le (pc := 51) (tgt := 63) X (by decide) dX6_outside_51 (fun c_51 => ?_) (fun c_51 => ?_)
            · have h := ite_t c_51 h
              refine g_iinc (pc := 63) (lv' := [(5, .int (y5_6 + (1 : Int32))), (6, .int r29), (0, .ref (a 0)), (1, .int x1), (2, .int x2), (3, .int x3), (4, .int y4_6)]) X 6 rfl rfl (by decide) rfl dX6_outside_63 ?_
              refine g_goto (pc := 66) (tgt := 6) X (by decide) dX6_outside_66 ?_
              exact g_lv (ih y4_6 (y5_6 + (1 : Int32)) h) [2, 3, 4, 5, 6, 0] rfl
            · have h := ite_f c_51 h
              exact g_lv (J54 () h) [1, 2, 3, 4, 5, 6] rfl
  exact g_lv (L6 n6 (0 : Int32) (0 : Int32) h) [2, 3, 4, 5, 1, 0] rfl
set_option maxRecDepth 20000 in
theorem c_J6_bitCount_0f7a4 (x0 : Int32) (K : Int32 → Prop) : Met l yJ6_bitCount_0f7a4 (.code yJ6_bitCount_0f7a4 cJ6_bitCount_0f7a4 1 (some .int) :: AW) ({ frames := 0, cells := 0, slots := 0, locals := 0 } : Room) (pv0 (w_J6_bitCount_0f7a4 x0 K) [.int x0]) (vp_Si K) 0 0 (fun _ => False) := by
  refine met_0i (own := "java/lang/Integer") (lv := [(0, .int x0)]) (fun _ _ => 0) (by decide +kernel) rfl (Nat.le_of_ble_eq_true rfl) rfl ?_
  intro p e s m args below meth c X hr hlk h
  refine g_iload_n (pc := 0) X rfl 0 rfl dJ6_bitCount_0f7a4_0 ?_
  refine g_iload_n (pc := 1) X rfl 0 rfl dJ6_bitCount_0f7a4_1 ?_
  refine g_iconst (pc := 2) X ic_1 dJ6_bitCount_0f7a4_2 ?_
  refine g_iushr (pc := 3) X dJ6_bitCount_0f7a4_3 ?_
  refine g_ldcw (pc := 4) X kw2_177 dJ6_bitCount_0f7a4_4 ?_
  refine g_iand (pc := 7) X dJ6_bitCount_0f7a4_7 ?_
  refine g_isub (pc := 8) X dJ6_bitCount_0f7a4_8 ?_
  refine g_topi (fun x0_9 ex0_9 => ?_)
  have h := h x0_9 ex0_9
  refine g_istore_n (pc := 9) (lv' := [(0, .int x0_9)]) X rfl (by decide) rfl dJ6_bitCount_0f7a4_9 ?_
  refine g_iload_n (pc := 10) X rfl 0 rfl dJ6_bitCount_0f7a4_10 ?_
  refine g_ldcw (pc := 11) X kw2_178 dJ6_bitCount_0f7a4_11 ?_
  refine g_iand (pc := 14) X dJ6_bitCount_0f7a4_14 ?_
  refine g_iload_n (pc := 15) X rfl 0 rfl dJ6_bitCount_0f7a4_15 ?_
  refine g_iconst (pc := 16) X ic_2 dJ6_bitCount_0f7a4_16 ?_
  refine g_iushr (pc := 17) X dJ6_bitCount_0f7a4_17 ?_
  refine g_ldcw (pc := 18) X kw2_178 dJ6_bitCount_0f7a4_18 ?_
  refine g_iand (pc := 21) X dJ6_bitCount_0f7a4_21 ?_
  refine g_iadd (pc := 22) X dJ6_bitCount_0f7a4_22 ?_
  refine g_topi (fun x0_23 ex0_23 => ?_)
  have h := h x0_23 ex0_23
  refine g_istore_n (pc := 23) (lv' := [(0, .int x0_23)]) X rfl (by decide) rfl dJ6_bitCount_0f7a4_23 ?_
  refine g_iload_n (pc := 24) X rfl 0 rfl dJ6_bitCount_0f7a4_24 ?_
  refine g_iload_n (pc := 25) X rfl 0 rfl dJ6_bitCount_0f7a4_25 ?_
  refine g_iconst (pc := 26) X ic_4 dJ6_bitCount_0f7a4_26 ?_
  refine g_iushr (pc := 27) X dJ6_bitCount_0f7a4_27 ?_
  refine g_iadd (pc := 28) X dJ6_bitCount_0f7a4_28 ?_
  refine g_ldcw (pc := 29) X kw2_179 dJ6_bitCount_0f7a4_29 ?_
  refine g_iand (pc := 32) X dJ6_bitCount_0f7a4_32 ?_
  refine g_topi (fun x0_33 ex0_33 => ?_)
  have h := h x0_33 ex0_33
  refine g_istore_n (pc := 33) (lv' := [(0, .int x0_33)]) X rfl (by decide) rfl dJ6_bitCount_0f7a4_33 ?_
  refine g_iload_n (pc := 34) X rfl 0 rfl dJ6_bitCount_0f7a4_34 ?_
  refine g_iload_n (pc := 35) X rfl 0 rfl dJ6_bitCount_0f7a4_35 ?_
  refine g_bipush (pc := 36) X bp_8 dJ6_bitCount_0f7a4_36 ?_
  refine g_iushr (pc := 38) X dJ6_bitCount_0f7a4_38 ?_
  refine g_iadd (pc := 39) X dJ6_bitCount_0f7a4_39 ?_
  refine g_topi (fun x0_40 ex0_40 => ?_)
  have h := h x0_40 ex0_40
  refine g_istore_n (pc := 40) (lv' := [(0, .int x0_40)]) X rfl (by decide) rfl dJ6_bitCount_0f7a4_40 ?_
  refine g_iload_n (pc := 41) X rfl 0 rfl dJ6_bitCount_0f7a4_41 ?_
  refine g_iload_n (pc := 42) X rfl 0 rfl dJ6_bitCount_0f7a4_42 ?_
  refine g_bipush (pc := 43) X bp_16 dJ6_bitCount_0f7a4_43 ?_
  refine g_iushr (pc := 45) X dJ6_bitCount_0f7a4_45 ?_
  refine g_iadd (pc := 46) X dJ6_bitCount_0f7a4_46 ?_
  refine g_topi (fun x0_47 ex0_47 => ?_)
  have h := h x0_47 ex0_47
  refine g_istore_n (pc := 47) (lv' := [(0, .int x0_47)]) X rfl (by decide) rfl dJ6_bitCount_0f7a4_47 ?_
  refine g_iload_n (pc := 48) X rfl 0 rfl dJ6_bitCount_0f7a4_48 ?_
  refine g_bipush (pc := 49) X bp_63 dJ6_bitCount_0f7a4_49 ?_
  refine g_iand (pc := 51) X dJ6_bitCount_0f7a4_51 ?_
  exact g_ret0i (pc := 52) X hr hlk dJ6_bitCount_0f7a4_52 h
set_option maxRecDepth 20000 in
theorem c_X6_isLesser (x0 : Int32) (x1 : Int32) (K : Int32 → Prop) : Met l yX6_isLesser (.code yX6_isLesser cX6_isLesser 3 (some .boolean) :: AW) ({ frames := 1, cells := 0, slots := 0, locals := 20 } : Room) (pv0 (w_X6_isLesser x0 x1 K) [.int x0, .int x1]) (vp_Si K) 0 0 (fun _ => False) := by
  refine met_0i (own := "TrainNote") (lv := [(0, .int x0), (1, .int x1)]) (fun _ _ => 0) (by decide +kernel) rfl (Nat.le_of_ble_eq_true rfl) rfl ?_
  intro p e s m args below meth c X hr hlk h
  refine g_iload_n (pc := 0) X rfl 0 rfl dX6_isLesser_0 ?_
  refine g_cS0i (pc := 1) (As := [.int x0]) X mi_J6_bitCount_0f7a4 (c_J6_bitCount_0f7a4 x0 _) kw2_174 ⟨rfl, rfl⟩ ⟨Nat.le_of_ble_eq_true rfl, Nat.le_of_ble_eq_true rfl⟩ rfl (Nat.le_of_ble_eq_true rfl) dX6_isLesser_1 rfl h (fun r1 h => ?_)
  refine g_iload_n (pc := 4) X rfl 1 rfl dX6_isLesser_4 ?_
  refine g_cS0i (pc := 5) (As := [.int x1]) X mi_J6_bitCount_0f7a4 (c_J6_bitCount_0f7a4 x1 _) kw2_174 ⟨rfl, rfl⟩ ⟨Nat.le_of_ble_eq_true rfl, Nat.le_of_ble_eq_true rfl⟩ rfl (Nat.le_of_ble_eq_true rfl) dX6_isLesser_5 rfl h (fun r5 h => ?_)
  refine g_isub (pc := 8) X dX6_isLesser_8 ?_
  refine g_istore_n (pc := 9) (lv' := [(2, .int (r1 - r5)), (0, .int x0), (1, .int x1)]) X rfl (by decide) rfl dX6_isLesser_9 ?_
  refine g_iload_n (pc := 10) X rfl 0 rfl dX6_isLesser_10 ?_
  refine g_if_lt (pc := 11) (tgt := 23) X (by decide) dX6_isLesser_11 (fun c_11 => ?_) (fun c_11 => ?_)
  · have h := ite_t c_11 h
    refine g_iconst (pc := 23) X ic_1 dX6_isLesser_23 ?_
    refine g_goto (pc := 24) (tgt := 28) X (by decide) dX6_isLesser_24 ?_
    exact g_ret0z (pc := 28) X hr hlk dX6_isLesser_28 (Or.inr rfl) h
  · have h := ite_f c_11 h
    refine g_iload_n (pc := 14) X rfl 0 rfl dX6_isLesser_14 ?_
    refine g_if_ne (pc := 15) (tgt := 27) X (by decide) dX6_isLesser_15 (fun c_15 => ?_) (fun c_15 => ?_)
    · have h := ite_f c_15 h
      refine g_iconst (pc := 27) X ic_0 dX6_isLesser_27 ?_
      exact g_ret0z (pc := 28) X hr hlk dX6_isLesser_28 (Or.inl rfl) h
    · have h := ite_t c_15 h
      refine g_iload_n (pc := 18) X rfl 1 rfl dX6_isLesser_18 ?_
      refine g_iload_n (pc := 19) X rfl 2 rfl dX6_isLesser_19 ?_
      refine g_icmp_ge (pc := 20) (tgt := 27) X (by decide) dX6_isLesser_20 (fun c_20 => ?_) (fun c_20 => ?_)
      · have h := ite_t c_20 h
        refine g_iconst (pc := 27) X ic_0 dX6_isLesser_27 ?_
        exact g_ret0z (pc := 28) X hr hlk dX6_isLesser_28 (Or.inl rfl) h
      · have h := ite_f c_20 h
        refine g_iconst (pc := 23) X ic_1 dX6_isLesser_23 ?_
        refine g_goto (pc := 24) (tgt := 28) X (by decide) dX6_isLesser_24 ?_
        exact g_ret0z (pc := 28) X hr hlk dX6_isLesser_28 (Or.inr rfl) h
set_option maxRecDepth 20000 in
theorem c_X6_fewestToHush (x1 : Int32) (σ : Sg) (K : Int32 → Prop) : Met l yX6_fewestToHush (.code yX6_fewestToHush cX6_fewestToHush 6 (some .int) :: AW) ({ frames := 3, cells := 0, slots := 0, locals := 71 } : Room) (pvP D (tyC cI cZ cS) (wC cI cZ cS a σ) (w_X6_fewestToHush x1 σ K) [.ref (a 0), .int x1]) (vp_Si K) 0 0 (fun _ => False) := by
  refine met_Pi (own := "TrainNote") (lv := [(0, .ref (a 0)), (1, .int x1)]) (by decide +kernel) rfl (Nat.le_of_ble_eq_true rfl) rfl ?_
  intro p e s m args below meth c X hK hr hlk h
  have hR : ∀ σ H locs, hpP D (wC cI cZ cS a) s σ H locs → va_P D vwCl ((wC cI cZ cS a σ)) H := fun _ _ _ h => h.1
  refine g_iconst (pc := 0) X ic_m1 dX6_fewestToHush_0 ?_
  refine g_istore_n (pc := 1) (lv' := [(2, .int (-1 : Int32)), (0, .ref (a 0)), (1, .int x1)]) X rfl (by decide) rfl dX6_fewestToHush_1 ?_
  refine g_iconst (pc := 2) X ic_0 dX6_fewestToHush_2 ?_
  refine g_istore_n (pc := 3) (lv' := [(3, .int (0 : Int32)), (2, .int (-1 : Int32)), (0, .ref (a 0)), (1, .int x1)]) X rfl (by decide) rfl dX6_fewestToHush_3 ?_
  obtain ⟨n4, h⟩ := h
  have X84 : ∀ (u2_84 : Int32), E_X6_fewestToHush_4 K u2_84 → GPi p l e ({ frames := 3, cells := 0, slots := 0, locals := 71 } : Room) s m args below meth c K 6 D (wC cI cZ cS a) 84 [(2, .int u2_84)] [] σ := by
    intro u2_84 h
    refine g_iload_n (pc := 84) X rfl 0 rfl dX6_fewestToHush_84 ?_
    refine g_iconst (pc := 85) X ic_m1 dX6_fewestToHush_85 ?_
    refine g_icmp_ne (pc := 86) (tgt := 93) X (by decide) dX6_fewestToHush_86 (fun c_86 => ?_) (fun c_86 => ?_)
    · have h := ite_f c_86 h
      refine g_iload_n (pc := 93) X rfl 0 rfl dX6_fewestToHush_93 ?_
      exact g_retPi (pc := 94) X hr hlk dX6_fewestToHush_94 h
    · have h := ite_t c_86 h
      refine g_iconst (pc := 89) X ic_0 dX6_fewestToHush_89 ?_
      refine g_goto (pc := 90) (tgt := 94) X (by decide) dX6_fewestToHush_90 ?_
      exact g_retPi (pc := 94) X hr hlk dX6_fewestToHush_94 h
  have L4 : ∀ (n : Nat) (y2_4 : Int32) (y3_4 : Int32), lq2 (F_X6_fewestToHush_4 σ x1 (E_X6_fewestToHush_4 K)) n y2_4 y3_4 → GPi p l e ({ frames := 3, cells := 0, slots := 0, locals := 71 } : Room) s m args below meth c K 6 D (wC cI cZ cS a) 4 [(0, .ref (a 0)), (1, .int x1), (2, .int y2_4), (3, .int y3_4)] [] σ := by
    intro n
    induction n with
    | zero =>
      intro y2_4 y3_4 h
      exact h.elim
    | succ n ih =>
      intro y2_4 y3_4 h
      have h : F_X6_fewestToHush_4 σ x1 (E_X6_fewestToHush_4 K) (lq2 (F_X6_fewestToHush_4 σ x1 (E_X6_fewestToHush_4 K)) n) y2_4 y3_4 := h
      refine g_iload_n (pc := 4) X rfl 3 rfl dX6_fewestToHush_4 ?_
      refine g_aload_n (pc := 5) X rfl 0 rfl dX6_fewestToHush_5 ?_
      refine fX6_24 (pc := 6) X hK hR k_isTop_0 dX6_fewestToHush_6 ?_
      refine fX6_165 (pc := 9) X hK hR k_isCh_5 dX6_fewestToHush_9 ?_
      refine g_icmp_ge (pc := 12) (tgt := 84) X (by decide) dX6_fewestToHush_12 (fun c_12 => ?_) (fun c_12 => ?_)
      · have h := ite_t c_12 h
        exact g_lv (X84 y2_4 h) [2] rfl
      · have h := ite_f c_12 h
        refine g_iload_n (pc := 15) X rfl 1 rfl dX6_fewestToHush_15 ?_
        refine g_aload_n (pc := 16) X rfl 0 rfl dX6_fewestToHush_16 ?_
        refine fX6_24 (pc := 17) X hK hR k_isTop_0 dX6_fewestToHush_17 ?_
        refine g_aload_n (pc := 20) X rfl 0 rfl dX6_fewestToHush_20 ?_
        refine fX6_41 (pc := 21) X hK hR k_isTop_0 dX6_fewestToHush_21 ?_
        refine g_iload_n (pc := 24) X rfl 3 rfl dX6_fewestToHush_24 ?_
        refine g_cSPi (pc := 25) (As := [.int x1, .ref (a 5), .ref (a 26), .int y3_4]) X hK hR mi_X6_noteBehind (c_X6_noteBehind x1 (k1 := 5) k_isCh_5 (k2 := 26) k_isTr_26 y3_4 σ _) kw2_100 ⟨rfl, rfl⟩ ⟨Nat.le_of_ble_eq_true rfl, Nat.le_of_ble_eq_true rfl⟩ rfl (Nat.le_of_ble_eq_true rfl) dX6_fewestToHush_25 rfl h (fun r25 h => ?_)
        refine g_istore (pc := 28) (lv' := [(4, .int r25), (0, .ref (a 0)), (1, .int x1), (2, .int y2_4), (3, .int y3_4)]) X (by decide) rfl dX6_fewestToHush_28 ?_
        refine g_iload (pc := 30) X 0 rfl dX6_fewestToHush_30 ?_
        refine g_sipush (pc := 32) X sp_m10000 dX6_fewestToHush_32 ?_
        refine g_icmp_eq (pc := 35) (tgt := 78) X (by decide) dX6_fewestToHush_35 (fun c_35 => ?_) (fun c_35 => ?_)
        · have h := ite_t c_35 h
          refine g_iinc (pc := 78) (lv' := [(3, .int (y3_4 + (1 : Int32))), (4, .int r25), (0, .ref (a 0)), (1, .int x1), (2, .int y2_4)]) X 4 rfl rfl (by decide) rfl dX6_fewestToHush_78 ?_
          refine g_goto (pc := 81) (tgt := 4) X (by decide) dX6_fewestToHush_81 ?_
          exact g_lv (ih y2_4 (y3_4 + (1 : Int32)) h) [2, 3, 4, 0] rfl
        · have h := ite_f c_35 h
          refine g_aload_n (pc := 38) X rfl 1 rfl dX6_fewestToHush_38 ?_
          refine g_iload (pc := 39) X 0 rfl dX6_fewestToHush_39 ?_
          refine g_iload (pc := 41) X 0 rfl dX6_fewestToHush_41 ?_
          refine g_aload_n (pc := 43) X rfl 1 rfl dX6_fewestToHush_43 ?_
          refine fX6_41 (pc := 44) X hK hR k_isTop_0 dX6_fewestToHush_44 ?_
          refine fX6_375 (pc := 47) X hK hR k_isTr_26 dX6_fewestToHush_47 ?_
          refine g_iadd (pc := 50) X dX6_fewestToHush_50 ?_
          refine g_iload_n (pc := 51) X rfl 2 rfl dX6_fewestToHush_51 ?_
          refine g_cVPi (pc := 52) (As := [.int r25, .int (r25 + (σ 26 3)), .int x1]) X hK hR mi_X6_outside (c_X6_outside r25 (r25 + (σ 26 3)) x1 σ _) (wl_ate (oX6 (cI := cI) (cZ := cZ) (cS := cS) (a := a) k_isTop_0).1 ((oX6 (cI := cI) (cZ := cZ) (cS := cS) (a := a) k_isTop_0).2 _)) rfl rfl kw2_167 ⟨rfl, rfl⟩ ⟨Nat.le_of_ble_eq_true rfl, Nat.le_of_ble_eq_true rfl⟩ rfl (Nat.le_of_ble_eq_true rfl) dX6_fewestToHush_52 rfl h (fun r52 h => ?_)
          refine g_istore (pc := 55) (lv' := [(5, .int r52), (4, .int r25), (0, .ref (a 0)), (1, .int x1), (2, .int y2_4), (3, .int y3_4)]) X (by decide) rfl dX6_fewestToHush_55 ?_
          refine g_iload_n (pc := 57) X rfl 4 rfl dX6_fewestToHush_57 ?_
          refine g_iconst (pc := 58) X ic_m1 dX6_fewestToHush_58 ?_
          refine g_icmp_eq (pc := 59) (tgt := 71) X (by decide) dX6_fewestToHush_59 (fun c_59 => ?_) (fun c_59 => ?_)
          · have h := ite_t c_59 h
            refine g_iload (pc := 71) X 0 rfl dX6_fewestToHush_71 ?_
            refine g_goto (pc := 73) (tgt := 77) X (by decide) dX6_fewestToHush_73 ?_
            refine g_istore_n (pc := 77) (lv' := [(2, .int r52), (5, .int r52), (4, .int r25), (0, .ref (a 0)), (1, .int x1), (3, .int y3_4)]) X rfl (by decide) rfl dX6_fewestToHush_77 ?_
            refine g_iinc (pc := 78) (lv' := [(3, .int (y3_4 + (1 : Int32))), (2, .int r52), (5, .int r52), (4, .int r25), (0, .ref (a 0)), (1, .int x1)]) X 5 rfl rfl (by decide) rfl dX6_fewestToHush_78 ?_
            refine g_goto (pc := 81) (tgt := 4) X (by decide) dX6_fewestToHush_81 ?_
            exact g_lv (ih r52 (y3_4 + (1 : Int32)) h) [4, 5, 1, 0] rfl
          · have h := ite_f c_59 h
            refine g_iload (pc := 62) X 0 rfl dX6_fewestToHush_62 ?_
            refine g_iload_n (pc := 64) X rfl 4 rfl dX6_fewestToHush_64 ?_
            refine g_cS0i (pc := 65) (As := [.int r52, .int y2_4]) X mi_X6_isLesser (c_X6_isLesser r52 y2_4 _) kw2_171 ⟨rfl, rfl⟩ ⟨Nat.le_of_ble_eq_true rfl, Nat.le_of_ble_eq_true rfl⟩ rfl (Nat.le_of_ble_eq_true rfl) dX6_fewestToHush_65 rfl h (fun r65 h => ?_)
            refine g_if_eq (pc := 68) (tgt := 76) X (by decide) dX6_fewestToHush_68 (fun c_68 => ?_) (fun c_68 => ?_)
            · have h := ite_t c_68 h
              refine g_iload_n (pc := 76) X rfl 4 rfl dX6_fewestToHush_76 ?_
              refine g_istore_n (pc := 77) (lv' := [(2, .int y2_4), (5, .int r52), (4, .int r25), (0, .ref (a 0)), (1, .int x1), (3, .int y3_4)]) X rfl (by decide) rfl dX6_fewestToHush_77 ?_
              refine g_iinc (pc := 78) (lv' := [(3, .int (y3_4 + (1 : Int32))), (2, .int y2_4), (5, .int r52), (4, .int r25), (0, .ref (a 0)), (1, .int x1)]) X 5 rfl rfl (by decide) rfl dX6_fewestToHush_78 ?_
              refine g_goto (pc := 81) (tgt := 4) X (by decide) dX6_fewestToHush_81 ?_
              exact g_lv (ih y2_4 (y3_4 + (1 : Int32)) h) [4, 5, 1, 0] rfl
            · have h := ite_f c_68 h
              refine g_iload (pc := 71) X 0 rfl dX6_fewestToHush_71 ?_
              refine g_goto (pc := 73) (tgt := 77) X (by decide) dX6_fewestToHush_73 ?_
              refine g_istore_n (pc := 77) (lv' := [(2, .int r52), (5, .int r52), (4, .int r25), (0, .ref (a 0)), (1, .int x1), (3, .int y3_4)]) X rfl (by decide) rfl dX6_fewestToHush_77 ?_
              refine g_iinc (pc := 78) (lv' := [(3, .int (y3_4 + (1 : Int32))), (2, .int r52), (5, .int r52), (4, .int r25), (0, .ref (a 0)), (1, .int x1)]) X 5 rfl rfl (by decide) rfl dX6_fewestToHush_78 ?_
              refine g_goto (pc := 81) (tgt := 4) X (by decide) dX6_fewestToHush_81 ?_
              exact g_lv (ih r52 (y3_4 + (1 : Int32)) h) [4, 5, 1, 0] rfl
  exact g_lv (L4 n4 (-1 : Int32) (0 : Int32) h) [2, 3, 1, 0] rfl
set_option maxRecDepth 20000 in
theorem c_X6_hush (x1 : Int32) (x2 : Int32) (σ : Sg) (K : Int32 → Prop) : Met l yX6_hush (.code yX6_hush cX6_hush 4 (some .int) :: AW) ({ frames := 4, cells := 0, slots := 0, locals := 96 } : Room) (pvP D (tyC cI cZ cS) (wC cI cZ cS a σ) (w_X6_hush x1 x2 σ K) [.ref (a 0), .int x1, .int x2]) (vp_Si K) 0 0 (fun _ => False) := by
  refine met_Pi (own := "TrainNote") (lv := [(0, .ref (a 0)), (1, .int x1), (2, .int x2)]) (by decide +kernel) rfl (Nat.le_of_ble_eq_true rfl) rfl ?_
  intro p e s m args below meth c X hK hr hlk h
  have hR : ∀ σ H locs, hpP D (wC cI cZ cS a) s σ H locs → va_P D vwCl ((wC cI cZ cS a σ)) H := fun _ _ _ h => h.1
  refine g_aload_n (pc := 0) X rfl 0 rfl dX6_hush_0 ?_
  refine g_iload_n (pc := 1) X rfl 1 rfl dX6_hush_1 ?_
  refine g_cVPi (pc := 2) (As := [.int x1]) X hK hR mi_X6_isNoBar (c_X6_isNoBar x1 σ _) (wl_ate (oX6 (cI := cI) (cZ := cZ) (cS := cS) (a := a) k_isTop_0).1 ((oX6 (cI := cI) (cZ := cZ) (cS := cS) (a := a) k_isTop_0).2 _)) rfl rfl kw2_96 ⟨rfl, rfl⟩ ⟨Nat.le_of_ble_eq_true rfl, Nat.le_of_ble_eq_true rfl⟩ rfl (Nat.le_of_ble_eq_true rfl) dX6_hush_2 rfl h (fun r2 h => ?_)
  refine g_if_ne (pc := 5) (tgt := 15) X (by decide) dX6_hush_5 (fun c_5 => ?_) (fun c_5 => ?_)
  · have h := ite_f c_5 h
    refine g_bipush (pc := 15) X bp_m2 dX6_hush_15 ?_
    exact g_retPi (pc := 17) X hr hlk dX6_hush_17 h
  · have h := ite_t c_5 h
    refine g_iload_n (pc := 8) X rfl 2 rfl dX6_hush_8 ?_
    refine g_cS0i (pc := 9) (As := [.int x2]) X mi_X6_isNoChoice (c_X6_isNoChoice x2 _) kw2_89 ⟨rfl, rfl⟩ ⟨Nat.le_of_ble_eq_true rfl, Nat.le_of_ble_eq_true rfl⟩ rfl (Nat.le_of_ble_eq_true rfl) dX6_hush_9 rfl h (fun r9 h => ?_)
    refine g_if_eq (pc := 12) (tgt := 18) X (by decide) dX6_hush_12 (fun c_12 => ?_) (fun c_12 => ?_)
    · have h := ite_t c_12 h
      refine g_aload_n (pc := 18) X rfl 0 rfl dX6_hush_18 ?_
      refine g_aload_n (pc := 19) X rfl 0 rfl dX6_hush_19 ?_
      refine fX6_34 (pc := 20) X hK hR k_isTop_0 dX6_hush_20 ?_
      refine fX6_147 (pc := 23) X hK hR k_isSo_23 dX6_hush_23 ?_
      refine g_iload_n (pc := 26) X rfl 1 rfl dX6_hush_26 ?_
      obtain ⟨h_27, h⟩ := h
      refine aX3_restsBefore (pc := 27) X hK hR k_isSo_23 h_27 dX6_hush_27 ?_
      refine g_cVPi (pc := 28) (As := [.int (σ (23 + 2) (x1).toNatClampNeg)]) X hK hR mi_X6_fewestToHush (c_X6_fewestToHush (σ (23 + 2) (x1).toNatClampNeg) σ _) (wl_ate (oX6 (cI := cI) (cZ := cZ) (cS := cS) (a := a) k_isTop_0).1 ((oX6 (cI := cI) (cZ := cZ) (cS := cS) (a := a) k_isTop_0).2 _)) rfl rfl kw2_163 ⟨rfl, rfl⟩ ⟨Nat.le_of_ble_eq_true rfl, Nat.le_of_ble_eq_true rfl⟩ rfl (Nat.le_of_ble_eq_true rfl) dX6_hush_28 rfl h (fun r28 h => ?_)
      refine g_istore_n (pc := 31) (lv' := [(3, .int r28), (0, .ref (a 0)), (1, .int x1), (2, .int x2)]) X rfl (by decide) rfl dX6_hush_31 ?_
      refine g_iload_n (pc := 32) X rfl 3 rfl dX6_hush_32 ?_
      refine g_if_ne (pc := 33) (tgt := 43) X (by decide) dX6_hush_33 (fun c_33 => ?_) (fun c_33 => ?_)
      · have h := ite_f c_33 h
        refine g_iload_n (pc := 43) X rfl 0 rfl dX6_hush_43 ?_
        exact g_retPi (pc := 44) X hr hlk dX6_hush_44 h
      · have h := ite_t c_33 h
        refine g_iload_n (pc := 36) X rfl 0 rfl dX6_hush_36 ?_
        refine g_cS0i (pc := 37) (As := [.int r28]) X mi_J6_bitCount_0f7a4 (c_J6_bitCount_0f7a4 r28 _) kw2_174 ⟨rfl, rfl⟩ ⟨Nat.le_of_ble_eq_true rfl, Nat.le_of_ble_eq_true rfl⟩ rfl (Nat.le_of_ble_eq_true rfl) dX6_hush_37 rfl h (fun r37 h => ?_)
        refine g_goto (pc := 40) (tgt := 44) X (by decide) dX6_hush_40 ?_
        exact g_retPi (pc := 44) X hr hlk dX6_hush_44 h
    · have h := ite_f c_12 h
      refine g_bipush (pc := 15) X bp_m2 dX6_hush_15 ?_
      exact g_retPi (pc := 17) X hr hlk dX6_hush_17 h
set_option maxRecDepth 20000 in
theorem c_X5_become {k0 : Nat} (hk0 : isTr k0) {k1 : Nat} (hk1 : isTr k1) (σ : Sg) (K : Sg → Prop) : ∀ sz, Met l yX5_become (.code yX5_become cX5_become 2 (none) :: AW) ({ frames := 0, cells := 0, slots := 0, locals := 0 } : Room) (pvM D (tyC cI cZ cS) (SXC tS tF) (wC cI cZ cS a σ) sz (w_X5_become k0 k1 σ K) [.ref (a k0), .ref (a k1)]) (va_Qv K (atM D (tyC cI cZ cS) (wC cI cZ cS a) (va_A (wC cI cZ cS a σ) sz)) (va_A (wC cI cZ cS a σ) sz)) 0 0 (va_A (wC cI cZ cS a σ) sz) := by
  intro sz
  refine met_Mv (own := "TrainNote$Train") (lv := [(0, .ref (a k0)), (1, .ref (a k1))]) (by decide +kernel) rfl (Nat.le_of_ble_eq_true rfl) rfl ?_
  intro p e s m args below meth c A X hK hX hA hr hlk h
  have hR : ∀ σ H locs, hpM D (wC cI cZ cS a) A s σ H locs → va_P D vwCl ((wC cI cZ cS a σ)) H := fun _ _ _ h => h.1
  have hok := SXC_ok tS tF
  refine g_aload_n (pc := 0) X rfl 0 rfl dX5_become_0 ?_
  refine g_aload_n (pc := 1) X rfl 1 rfl dX5_become_1 ?_
  refine fX5_7 (pc := 2) X hK hR hk1 dX5_become_2 ?_
  refine pX5_7 (pc := 5) X hK hk0 dX5_become_5 (fun τ5 eτ5 => ?_)
  have h := h τ5 eτ5
  refine g_aload_n (pc := 8) X rfl 0 rfl dX5_become_8 ?_
  refine g_aload_n (pc := 9) X rfl 1 rfl dX5_become_9 ?_
  refine fX5_13 (pc := 10) X hK hR hk1 dX5_become_10 ?_
  refine pX5_13 (pc := 13) X hK hk0 dX5_become_13 (fun τ13 eτ13 => ?_)
  have h := h τ13 eτ13
  refine g_aload_n (pc := 16) X rfl 0 rfl dX5_become_16 ?_
  refine g_aload_n (pc := 17) X rfl 1 rfl dX5_become_17 ?_
  refine fX5_16 (pc := 18) X hK hR hk1 dX5_become_18 ?_
  refine pX5_16 (pc := 21) X hK hk0 dX5_become_21 (fun τ21 eτ21 => ?_)
  have h := h τ21 eτ21
  refine g_aload_n (pc := 24) X rfl 0 rfl dX5_become_24 ?_
  refine g_aload_n (pc := 25) X rfl 1 rfl dX5_become_25 ?_
  refine fX5_19 (pc := 26) X hK hR hk1 dX5_become_26 ?_
  refine pX5_19 (pc := 29) X hK hk0 dX5_become_29 (fun τ29 eτ29 => ?_)
  have h := h τ29 eτ29
  exact g_retMv (pc := 32) X hK hr hlk dX5_become_32 h
set_option maxRecDepth 20000 in
theorem c_X6_drive (x1 : Int32) (x2 : Int32) (σ : Sg) (K : Int32 → Sg → Prop) : ∀ sz, Met l yX6_drive (.code yX6_drive cX6_drive 7 (some .int) :: AW) ({ frames := 3, cells := 0, slots := 0, locals := 73 } : Room) (pvM D (tyC cI cZ cS) (SXC tS tF) (wC cI cZ cS a σ) sz (w_X6_drive x1 x2 σ K) [.ref (a 0), .int x1, .int x2]) (va_Qi K (atM D (tyC cI cZ cS) (wC cI cZ cS a) (va_A (wC cI cZ cS a σ) sz)) (va_A (wC cI cZ cS a σ) sz)) 0 0 (va_A (wC cI cZ cS a σ) sz) := by
  intro sz
  refine met_Mi (own := "TrainNote") (lv := [(0, .ref (a 0)), (1, .int x1), (2, .int x2)]) (by decide +kernel) rfl (Nat.le_of_ble_eq_true rfl) rfl ?_
  intro p e s m args below meth c A X hK hX hA hr hlk h
  have hR : ∀ σ H locs, hpM D (wC cI cZ cS a) A s σ H locs → va_P D vwCl ((wC cI cZ cS a σ)) H := fun _ _ _ h => h.1
  have hok := SXC_ok tS tF
  refine g_aload_n (pc := 0) X rfl 0 rfl dX6_drive_0 ?_
  refine g_iload_n (pc := 1) X rfl 1 rfl dX6_drive_1 ?_
  refine g_cVPi (pc := 2) (As := [.int x1]) X hK hR mi_X6_isNoBar (c_X6_isNoBar x1 σ _) (wl_ate (oX6 (cI := cI) (cZ := cZ) (cS := cS) (a := a) k_isTop_0).1 ((oX6 (cI := cI) (cZ := cZ) (cS := cS) (a := a) k_isTop_0).2 _)) rfl rfl kw2_96 ⟨rfl, rfl⟩ ⟨Nat.le_of_ble_eq_true rfl, Nat.le_of_ble_eq_true rfl⟩ rfl (Nat.le_of_ble_eq_true rfl) dX6_drive_2 rfl h (fun r2 h => ?_)
  refine g_if_ne (pc := 5) (tgt := 15) X (by decide) dX6_drive_5 (fun c_5 => ?_) (fun c_5 => ?_)
  · have h := ite_f c_5 h
    refine g_bipush (pc := 15) X bp_m2 dX6_drive_15 ?_
    exact g_retMi (pc := 17) X hK hr hlk dX6_drive_17 h
  · have h := ite_t c_5 h
    refine g_iload_n (pc := 8) X rfl 2 rfl dX6_drive_8 ?_
    refine g_cS0i (pc := 9) (As := [.int x2]) X mi_X6_isNoChoice (c_X6_isNoChoice x2 _) kw2_89 ⟨rfl, rfl⟩ ⟨Nat.le_of_ble_eq_true rfl, Nat.le_of_ble_eq_true rfl⟩ rfl (Nat.le_of_ble_eq_true rfl) dX6_drive_9 rfl h (fun r9 h => ?_)
    refine g_if_eq (pc := 12) (tgt := 18) X (by decide) dX6_drive_12 (fun c_12 => ?_) (fun c_12 => ?_)
    · have h := ite_t c_12 h
      refine g_aload_n (pc := 18) X rfl 0 rfl dX6_drive_18 ?_
      refine fX6_45 (pc := 19) X hK hR k_isTop_0 dX6_drive_19 ?_
      refine g_aload_n (pc := 22) X rfl 0 rfl dX6_drive_22 ?_
      refine fX6_41 (pc := 23) X hK hR k_isTop_0 dX6_drive_23 ?_
      refine g_cVMv (pc := 26) (As := [.ref (a 26)]) X hK hX hok hA mi_X5_become (c_X5_become (k0 := 27) k_isTr_27 (k1 := 26) k_isTr_26 σ _) (fun _ => ⟨_, wl_ate (oX5 (cI := cI) (cZ := cZ) (cS := cS) (a := a) k_isTr_27).1 ((oX5 (cI := cI) (cZ := cZ) (cS := cS) (a := a) k_isTr_27).2 _)⟩) rfl rfl kw2_184 ⟨rfl, rfl⟩ ⟨Nat.le_of_ble_eq_true rfl, Nat.le_of_ble_eq_true rfl⟩ rfl (Nat.le_of_ble_eq_true rfl) dX6_drive_26 rfl h (fun τ26 h => ?_)
      refine g_iconst (pc := 29) X ic_0 dX6_drive_29 ?_
      refine g_istore_n (pc := 30) (lv' := [(3, .int (0 : Int32)), (0, .ref (a 0)), (1, .int x1), (2, .int x2)]) X rfl (by decide) rfl dX6_drive_30 ?_
      refine g_ldc (pc := 31) X kw2_188 dX6_drive_31 ?_
      refine g_istore (pc := 33) (lv' := [(4, .int (-2147483648 : Int32)), (3, .int (0 : Int32)), (0, .ref (a 0)), (1, .int x1), (2, .int x2)]) X (by decide) rfl dX6_drive_33 ?_
      refine g_iconst (pc := 35) X ic_0 dX6_drive_35 ?_
      refine g_istore (pc := 36) (lv' := [(5, .int (0 : Int32)), (4, .int (-2147483648 : Int32)), (3, .int (0 : Int32)), (0, .ref (a 0)), (1, .int x1), (2, .int x2)]) X (by decide) rfl dX6_drive_36 ?_
      obtain ⟨n38, h⟩ := h
      have X94 : ∀ (u3_94 : Int32) (u4_94 : Int32) (ρe94 : Sg), E_X6_drive_38 x2 K u3_94 u4_94 ρe94 → GMi p l e ({ frames := 3, cells := 0, slots := 0, locals := 73 } : Room) s m args below meth c K 7 D (tyC cI cZ cS) (wC cI cZ cS a) A 94 [(2, .int x2), (3, .int u3_94), (4, .int u4_94)] [] ρe94 := by
        intro u3_94 u4_94 ρe94 h
        refine g_iload_n (pc := 94) X rfl 0 rfl dX6_drive_94 ?_
        refine g_if_ne (pc := 95) (tgt := 102) X (by decide) dX6_drive_95 (fun c_95 => ?_) (fun c_95 => ?_)
        · have h := ite_f c_95 h
          refine g_iload (pc := 102) X 2 rfl dX6_drive_102 ?_
          exact g_retMi (pc := 104) X hK hr hlk dX6_drive_104 h
        · have h := ite_t c_95 h
          refine g_iload_n (pc := 98) X rfl 1 rfl dX6_drive_98 ?_
          refine g_goto (pc := 99) (tgt := 104) X (by decide) dX6_drive_99 ?_
          exact g_retMi (pc := 104) X hK hr hlk dX6_drive_104 h
      have L38 : ∀ (n : Nat) (y3_38 : Int32) (y4_38 : Int32) (y5_38 : Int32) (ρ38 : Sg), lq4 (F_X6_drive_38 x1 (E_X6_drive_38 x2 K)) n y3_38 y4_38 y5_38 ρ38 → GMi p l e ({ frames := 3, cells := 0, slots := 0, locals := 73 } : Room) s m args below meth c K 7 D (tyC cI cZ cS) (wC cI cZ cS a) A 38 [(0, .ref (a 0)), (1, .int x1), (2, .int x2), (3, .int y3_38), (4, .int y4_38), (5, .int y5_38)] [] ρ38 := by
        intro n
        induction n with
        | zero =>
          intro y3_38 y4_38 y5_38 ρ38 h
          exact h.elim
        | succ n ih =>
          intro y3_38 y4_38 y5_38 ρ38 h
          have h : F_X6_drive_38 x1 (E_X6_drive_38 x2 K) (lq4 (F_X6_drive_38 x1 (E_X6_drive_38 x2 K)) n) y3_38 y4_38 y5_38 ρ38 := h
          generalize lq4 (F_X6_drive_38 x1 (E_X6_drive_38 x2 K)) n = rec38 at h ih
          refine g_iload (pc := 38) X 5 rfl dX6_drive_38 ?_
          refine g_bipush (pc := 40) X bp_100 dX6_drive_40 ?_
          refine g_icmp_ge (pc := 42) (tgt := 94) X (by decide) dX6_drive_42 (fun c_42 => ?_) (fun c_42 => ?_)
          · have h := ite_t c_42 h
            exact g_lv (X94 y3_38 y4_38 ρ38 h) [2, 3, 4] rfl
          · have h := ite_f c_42 h
            refine g_aload_n (pc := 45) X rfl 0 rfl dX6_drive_45 ?_
            refine fX6_45 (pc := 46) X hK hR k_isTop_0 dX6_drive_46 ?_
            refine g_iload (pc := 49) X 5 rfl dX6_drive_49 ?_
            refine pX6_198 (pc := 51) X hK k_isTr_27 dX6_drive_51 (fun τ51 eτ51 => ?_)
            have h := h τ51 eτ51
            refine g_aload_n (pc := 54) X rfl 0 rfl dX6_drive_54 ?_
            refine g_aload_n (pc := 55) X rfl 0 rfl dX6_drive_55 ?_
            refine fX6_24 (pc := 56) X hK hR k_isTop_0 dX6_drive_56 ?_
            refine g_aload_n (pc := 59) X rfl 0 rfl dX6_drive_59 ?_
            refine fX6_45 (pc := 60) X hK hR k_isTop_0 dX6_drive_60 ?_
            refine g_iload_n (pc := 63) X rfl 1 rfl dX6_drive_63 ?_
            refine g_cVPi (pc := 64) (As := [.ref (a 5), .ref (a 27), .int x1]) X hK hR mi_X6_spreadOf (c_X6_spreadOf (k1 := 5) k_isCh_5 (k2 := 27) k_isTr_27 x1 τ51 _) (wl_ate (oX6 (cI := cI) (cZ := cZ) (cS := cS) (a := a) k_isTop_0).1 ((oX6 (cI := cI) (cZ := cZ) (cS := cS) (a := a) k_isTop_0).2 _)) rfl rfl kw2_111 ⟨rfl, rfl⟩ ⟨Nat.le_of_ble_eq_true rfl, Nat.le_of_ble_eq_true rfl⟩ rfl (Nat.le_of_ble_eq_true rfl) dX6_drive_64 rfl h (fun r64 h => ?_)
            refine g_istore (pc := 67) (lv' := [(6, .int r64), (0, .ref (a 0)), (1, .int x1), (2, .int x2), (3, .int y3_38), (4, .int y4_38), (5, .int y5_38)]) X (by decide) rfl dX6_drive_67 ?_
            refine g_iload (pc := 69) X 6 rfl dX6_drive_69 ?_
            have J81 : ∀ (_ : Unit), J_X6_drive_81 rec38 y5_38 r64 τ51 → GMi p l e ({ frames := 3, cells := 0, slots := 0, locals := 73 } : Room) s m args below meth c K 7 D (tyC cI cZ cS) (wC cI cZ cS a) A 81 [(0, .ref (a 0)), (1, .int x1), (2, .int x2), (5, .int y5_38), (6, .int r64)] [] τ51 := by
              intro _ h
              refine g_iload (pc := 81) X 3 rfl dX6_drive_81 ?_
              refine g_istore_n (pc := 83) (lv' := [(3, .int y5_38), (0, .ref (a 0)), (1, .int x1), (2, .int x2), (5, .int y5_38), (6, .int r64)]) X rfl (by decide) rfl dX6_drive_83 ?_
              refine g_iload (pc := 84) X 5 rfl dX6_drive_84 ?_
              refine g_istore (pc := 86) (lv' := [(4, .int r64), (3, .int y5_38), (0, .ref (a 0)), (1, .int x1), (2, .int x2), (5, .int y5_38), (6, .int r64)]) X (by decide) rfl dX6_drive_86 ?_
              refine g_iinc (pc := 88) (lv' := [(5, .int (y5_38 + (1 : Int32))), (4, .int r64), (3, .int y5_38), (0, .ref (a 0)), (1, .int x1), (2, .int x2), (6, .int r64)]) X 5 rfl rfl (by decide) rfl dX6_drive_88 ?_
              refine g_goto (pc := 91) (tgt := 38) X (by decide) dX6_drive_91 ?_
              exact g_lv (ih y5_38 r64 (y5_38 + (1 : Int32)) τ51 h) [3, 4, 5, 2, 1, 0] rfl
            refine g_if_eq (pc := 71) (tgt := 81) X (by decide) dX6_drive_71 (fun c_71 => ?_) (fun c_71 => ?_)
            · have h := ite_t c_71 h
              exact g_lv (J81 () h) [1, 2, 3, 6, 0] rfl
            · have h := ite_f c_71 h
              refine g_iload (pc := 74) X 0 rfl dX6_drive_74 ?_
              refine g_iload (pc := 76) X 5 rfl dX6_drive_76 ?_
              refine g_icmp_ge (pc := 78) (tgt := 88) X (by decide) dX6_drive_78 (fun c_78 => ?_) (fun c_78 => ?_)
              · have h := ite_t c_78 h
                refine g_iinc (pc := 88) (lv' := [(5, .int (y5_38 + (1 : Int32))), (6, .int r64), (0, .ref (a 0)), (1, .int x1), (2, .int x2), (3, .int y3_38), (4, .int y4_38)]) X 6 rfl rfl (by decide) rfl dX6_drive_88 ?_
                refine g_goto (pc := 91) (tgt := 38) X (by decide) dX6_drive_91 ?_
                exact g_lv (ih y3_38 y4_38 (y5_38 + (1 : Int32)) τ51 h) [2, 3, 4, 5, 6, 0] rfl
              · have h := ite_f c_78 h
                exact g_lv (J81 () h) [1, 2, 3, 6, 0] rfl
      exact g_lv (L38 n38 (0 : Int32) (-2147483648 : Int32) (0 : Int32) τ26 h) [3, 4, 5, 2, 1, 0] rfl
    · have h := ite_f c_12 h
      refine g_bipush (pc := 15) X bp_m2 dX6_drive_15 ?_
      exact g_retMi (pc := 17) X hK hr hlk dX6_drive_17 h
set_option maxRecDepth 20000 in
theorem c_X1_mayHold (x0 : Int32) (x1 : Int32) (x2 : Int32) (K : Int32 → Prop) : Met l yX1_mayHold (.code yX1_mayHold cX1_mayHold 3 (some .boolean) :: AW) ({ frames := 0, cells := 0, slots := 0, locals := 0 } : Room) (pv0 (w_X1_mayHold x0 x1 x2 K) [.int x0, .int x1, .int x2]) (vp_Si K) 0 0 (fun _ => False) := by
  refine met_0i (own := "TrainNote$Memory") (lv := [(0, .int x0), (1, .int x1), (2, .int x2)]) (fun _ _ => 0) (by decide +kernel) rfl (Nat.le_of_ble_eq_true rfl) rfl ?_
  intro p e s m args below meth c X hr hlk h
  refine g_iload_n (pc := 0) X rfl 0 rfl dX1_mayHold_0 ?_
  refine g_if_lt (pc := 1) (tgt := 35) X (by decide) dX1_mayHold_1 (fun c_1 => ?_) (fun c_1 => ?_)
  · have h := ite_t c_1 h
    refine g_iconst (pc := 35) X ic_0 dX1_mayHold_35 ?_
    exact g_ret0z (pc := 36) X hr hlk dX1_mayHold_36 (Or.inl rfl) h
  · have h := ite_f c_1 h
    refine g_iload_n (pc := 4) X rfl 0 rfl dX1_mayHold_4 ?_
    refine g_bipush (pc := 5) X bp_24 dX1_mayHold_5 ?_
    refine g_icmp_ge (pc := 7) (tgt := 35) X (by decide) dX1_mayHold_7 (fun c_7 => ?_) (fun c_7 => ?_)
    · have h := ite_t c_7 h
      refine g_iconst (pc := 35) X ic_0 dX1_mayHold_35 ?_
      exact g_ret0z (pc := 36) X hr hlk dX1_mayHold_36 (Or.inl rfl) h
    · have h := ite_f c_7 h
      refine g_iload_n (pc := 10) X rfl 1 rfl dX1_mayHold_10 ?_
      refine g_if_lt (pc := 11) (tgt := 35) X (by decide) dX1_mayHold_11 (fun c_11 => ?_) (fun c_11 => ?_)
      · have h := ite_t c_11 h
        refine g_iconst (pc := 35) X ic_0 dX1_mayHold_35 ?_
        exact g_ret0z (pc := 36) X hr hlk dX1_mayHold_36 (Or.inl rfl) h
      · have h := ite_f c_11 h
        refine g_iload_n (pc := 14) X rfl 1 rfl dX1_mayHold_14 ?_
        refine g_bipush (pc := 15) X bp_8 dX1_mayHold_15 ?_
        refine g_icmp_ge (pc := 17) (tgt := 35) X (by decide) dX1_mayHold_17 (fun c_17 => ?_) (fun c_17 => ?_)
        · have h := ite_t c_17 h
          refine g_iconst (pc := 35) X ic_0 dX1_mayHold_35 ?_
          exact g_ret0z (pc := 36) X hr hlk dX1_mayHold_36 (Or.inl rfl) h
        · have h := ite_f c_17 h
          refine g_iload_n (pc := 20) X rfl 2 rfl dX1_mayHold_20 ?_
          refine g_if_lt (pc := 21) (tgt := 35) X (by decide) dX1_mayHold_21 (fun c_21 => ?_) (fun c_21 => ?_)
          · have h := ite_t c_21 h
            refine g_iconst (pc := 35) X ic_0 dX1_mayHold_35 ?_
            exact g_ret0z (pc := 36) X hr hlk dX1_mayHold_36 (Or.inl rfl) h
          · have h := ite_f c_21 h
            refine g_iload_n (pc := 24) X rfl 2 rfl dX1_mayHold_24 ?_
            refine g_sipush (pc := 25) X sp_2000 dX1_mayHold_25 ?_
            refine g_icmp_gt (pc := 28) (tgt := 35) X (by decide) dX1_mayHold_28 (fun c_28 => ?_) (fun c_28 => ?_)
            · have h := ite_t c_28 h
              refine g_iconst (pc := 35) X ic_0 dX1_mayHold_35 ?_
              exact g_ret0z (pc := 36) X hr hlk dX1_mayHold_36 (Or.inl rfl) h
            · have h := ite_f c_28 h
              refine g_iconst (pc := 31) X ic_1 dX1_mayHold_31 ?_
              refine g_goto (pc := 32) (tgt := 36) X (by decide) dX1_mayHold_32 ?_
              exact g_ret0z (pc := 36) X hr hlk dX1_mayHold_36 (Or.inr rfl) h
set_option maxRecDepth 20000 in
theorem c_X1_isFull {k0 : Nat} (hk0 : isMe k0) (σ : Sg) (K : Int32 → Prop) : Met l yX1_isFull (.code yX1_isFull cX1_isFull 1 (some .boolean) :: AW) ({ frames := 0, cells := 0, slots := 0, locals := 0 } : Room) (pvP D (tyC cI cZ cS) (wC cI cZ cS a σ) (w_X1_isFull k0 σ K) [.ref (a k0)]) (vp_Si K) 0 0 (fun _ => False) := by
  refine met_Pi (own := "TrainNote$Memory") (lv := [(0, .ref (a k0))]) (by decide +kernel) rfl (Nat.le_of_ble_eq_true rfl) rfl ?_
  intro p e s m args below meth c X hK hr hlk h
  have hR : ∀ σ H locs, hpP D (wC cI cZ cS a) s σ H locs → va_P D vwCl ((wC cI cZ cS a σ)) H := fun _ _ _ h => h.1
  refine g_aload_n (pc := 0) X rfl 0 rfl dX1_isFull_0 ?_
  refine fX1_9 (pc := 1) X hK hR hk0 dX1_isFull_1 ?_
  refine g_bipush (pc := 4) X bp_8 dX1_isFull_4 ?_
  refine g_icmp_lt (pc := 6) (tgt := 13) X (by decide) dX1_isFull_6 (fun c_6 => ?_) (fun c_6 => ?_)
  · have h := ite_t c_6 h
    refine g_iconst (pc := 13) X ic_0 dX1_isFull_13 ?_
    exact g_retPz (pc := 14) X hr hlk dX1_isFull_14 (Or.inl rfl) h
  · have h := ite_f c_6 h
    refine g_iconst (pc := 9) X ic_1 dX1_isFull_9 ?_
    refine g_goto (pc := 10) (tgt := 14) X (by decide) dX1_isFull_10 ?_
    exact g_retPz (pc := 14) X hr hlk dX1_isFull_14 (Or.inr rfl) h
set_option maxRecDepth 20000 in
theorem c_X1_keep {k0 : Nat} (hk0 : isMe k0) (x1 : Int32) (x2 : Int32) (x3 : Int32) (σ : Sg) (K : Sg → Prop) : ∀ sz, Met l yX1_keep (.code yX1_keep cX1_keep 4 (none) :: AW) ({ frames := 1, cells := 0, slots := 0, locals := 20 } : Room) (pvM D (tyC cI cZ cS) (SXC tS tF) (wC cI cZ cS a σ) sz (w_X1_keep k0 x1 x2 x3 σ K) [.ref (a k0), .int x1, .int x2, .int x3]) (va_Qv K (atM D (tyC cI cZ cS) (wC cI cZ cS a) (va_A (wC cI cZ cS a σ) sz)) (va_A (wC cI cZ cS a σ) sz)) 0 0 (va_A (wC cI cZ cS a σ) sz) := by
  intro sz
  refine met_Mv (own := "TrainNote$Memory") (lv := [(0, .ref (a k0)), (1, .int x1), (2, .int x2), (3, .int x3)]) (by decide +kernel) rfl (Nat.le_of_ble_eq_true rfl) rfl ?_
  intro p e s m args below meth c A X hK hX hA hr hlk h
  have hR : ∀ σ H locs, hpM D (wC cI cZ cS a) A s σ H locs → va_P D vwCl ((wC cI cZ cS a σ)) H := fun _ _ _ h => h.1
  have hok := SXC_ok tS tF
  refine g_aload_n (pc := 0) X rfl 0 rfl dX1_keep_0 ?_
  refine g_cVPi (pc := 1) (As := []) X hK hR mi_X1_isFull (c_X1_isFull (k0 := k0) hk0 σ _) (wl_ate (oX1 (cI := cI) (cZ := cZ) (cS := cS) (a := a) hk0).1 ((oX1 (cI := cI) (cZ := cZ) (cS := cS) (a := a) hk0).2 _)) rfl rfl kw2_204 ⟨rfl, rfl⟩ ⟨Nat.le_of_ble_eq_true rfl, Nat.le_of_ble_eq_true rfl⟩ rfl (Nat.le_of_ble_eq_true rfl) dX1_keep_1 rfl h (fun r1 h => ?_)
  refine g_if_ne (pc := 4) (tgt := 47) X (by decide) dX1_keep_4 (fun c_4 => ?_) (fun c_4 => ?_)
  · have h := ite_f c_4 h
    exact g_retMv (pc := 47) X hK hr hlk dX1_keep_47 h
  · have h := ite_t c_4 h
    refine g_aload_n (pc := 7) X rfl 0 rfl dX1_keep_7 ?_
    refine fX1_15 (pc := 8) X hK hR hk0 dX1_keep_8 ?_
    refine g_aload_n (pc := 11) X rfl 0 rfl dX1_keep_11 ?_
    refine fX1_9 (pc := 12) X hK hR hk0 dX1_keep_12 ?_
    refine g_iload_n (pc := 15) X rfl 1 rfl dX1_keep_15 ?_
    obtain ⟨h_16, h⟩ := h
    refine tX1_bar (pc := 16) X hK hk0 h_16 dX1_keep_16 (fun τ16 eτ16 => ?_)
    have h := h τ16 eτ16
    refine g_aload_n (pc := 17) X rfl 0 rfl dX1_keep_17 ?_
    refine fX1_19 (pc := 18) X hK hR hk0 dX1_keep_18 ?_
    refine g_aload_n (pc := 21) X rfl 0 rfl dX1_keep_21 ?_
    refine fX1_9 (pc := 22) X hK hR hk0 dX1_keep_22 ?_
    refine g_iload_n (pc := 25) X rfl 2 rfl dX1_keep_25 ?_
    obtain ⟨h_26, h⟩ := h
    refine tX1_singer (pc := 26) X hK hk0 h_26 dX1_keep_26 (fun τ26 eτ26 => ?_)
    have h := h τ26 eτ26
    refine g_aload_n (pc := 27) X rfl 0 rfl dX1_keep_27 ?_
    refine fX1_22 (pc := 28) X hK hR hk0 dX1_keep_28 ?_
    refine g_aload_n (pc := 31) X rfl 0 rfl dX1_keep_31 ?_
    refine fX1_9 (pc := 32) X hK hR hk0 dX1_keep_32 ?_
    refine g_iload_n (pc := 35) X rfl 3 rfl dX1_keep_35 ?_
    obtain ⟨h_36, h⟩ := h
    refine tX1_note (pc := 36) X hK hk0 h_36 dX1_keep_36 (fun τ36 eτ36 => ?_)
    have h := h τ36 eτ36
    refine g_aload_n (pc := 37) X rfl 0 rfl dX1_keep_37 ?_
    refine g_dup (pc := 38) X rfl dX1_keep_38 ?_
    refine fX1_9 (pc := 39) X hK hR hk0 dX1_keep_39 ?_
    refine g_iconst (pc := 42) X ic_1 dX1_keep_42 ?_
    refine g_iadd (pc := 43) X dX1_keep_43 ?_
    refine pX1_9 (pc := 44) X hK hk0 dX1_keep_44 (fun τ44 eτ44 => ?_)
    have h := h τ44 eτ44
    exact g_retMv (pc := 47) X hK hr hlk dX1_keep_47 h
set_option maxRecDepth 20000 in
theorem c_X6_heard (x1 : Int32) (x2 : Int32) (x3 : Int32) (σ : Sg) (K : Int32 → Sg → Prop) : ∀ sz, Met l yX6_heard (.code yX6_heard cX6_heard 4 (some .int) :: AW) ({ frames := 2, cells := 0, slots := 0, locals := 43 } : Room) (pvM D (tyC cI cZ cS) (SXC tS tF) (wC cI cZ cS a σ) sz (w_X6_heard x1 x2 x3 σ K) [.ref (a 0), .int x1, .int x2, .int x3]) (va_Qi K (atM D (tyC cI cZ cS) (wC cI cZ cS a) (va_A (wC cI cZ cS a σ) sz)) (va_A (wC cI cZ cS a σ) sz)) 0 0 (va_A (wC cI cZ cS a σ) sz) := by
  intro sz
  refine met_Mi (own := "TrainNote") (lv := [(0, .ref (a 0)), (1, .int x1), (2, .int x2), (3, .int x3)]) (by decide +kernel) rfl (Nat.le_of_ble_eq_true rfl) rfl ?_
  intro p e s m args below meth c A X hK hX hA hr hlk h
  have hR : ∀ σ H locs, hpM D (wC cI cZ cS a) A s σ H locs → va_P D vwCl ((wC cI cZ cS a σ)) H := fun _ _ _ h => h.1
  have hok := SXC_ok tS tF
  refine g_iload_n (pc := 0) X rfl 1 rfl dX6_heard_0 ?_
  refine g_iload_n (pc := 1) X rfl 2 rfl dX6_heard_1 ?_
  refine g_iload_n (pc := 2) X rfl 3 rfl dX6_heard_2 ?_
  refine g_cS0i (pc := 3) (As := [.int x1, .int x2, .int x3]) X mi_X1_mayHold (c_X1_mayHold x1 x2 x3 _) kw2_193 ⟨rfl, rfl⟩ ⟨Nat.le_of_ble_eq_true rfl, Nat.le_of_ble_eq_true rfl⟩ rfl (Nat.le_of_ble_eq_true rfl) dX6_heard_3 rfl h (fun r3 h => ?_)
  refine g_if_ne (pc := 6) (tgt := 12) X (by decide) dX6_heard_6 (fun c_6 => ?_) (fun c_6 => ?_)
  · have h := ite_f c_6 h
    refine g_aload_n (pc := 12) X rfl 0 rfl dX6_heard_12 ?_
    refine fX6_51 (pc := 13) X hK hR k_isTop_0 dX6_heard_13 ?_
    refine g_cVPi (pc := 16) (As := []) X hK hR mi_X1_isFull (c_X1_isFull (k0 := 28) k_isMe_28 σ _) (wl_ate (oX1 (cI := cI) (cZ := cZ) (cS := cS) (a := a) k_isMe_28).1 ((oX1 (cI := cI) (cZ := cZ) (cS := cS) (a := a) k_isMe_28).2 _)) rfl rfl kw2_196 ⟨rfl, rfl⟩ ⟨Nat.le_of_ble_eq_true rfl, Nat.le_of_ble_eq_true rfl⟩ rfl (Nat.le_of_ble_eq_true rfl) dX6_heard_16 rfl h (fun r16 h => ?_)
    refine g_if_eq (pc := 19) (tgt := 25) X (by decide) dX6_heard_19 (fun c_19 => ?_) (fun c_19 => ?_)
    · have h := ite_t c_19 h
      refine g_aload_n (pc := 25) X rfl 0 rfl dX6_heard_25 ?_
      refine fX6_51 (pc := 26) X hK hR k_isTop_0 dX6_heard_26 ?_
      refine g_iload_n (pc := 29) X rfl 1 rfl dX6_heard_29 ?_
      refine g_iload_n (pc := 30) X rfl 2 rfl dX6_heard_30 ?_
      refine g_iload_n (pc := 31) X rfl 3 rfl dX6_heard_31 ?_
      refine g_cVMv (pc := 32) (As := [.int x1, .int x2, .int x3]) X hK hX hok hA mi_X1_keep (c_X1_keep (k0 := 28) k_isMe_28 x1 x2 x3 σ _) (fun _ => ⟨_, wl_ate (oX1 (cI := cI) (cZ := cZ) (cS := cS) (a := a) k_isMe_28).1 ((oX1 (cI := cI) (cZ := cZ) (cS := cS) (a := a) k_isMe_28).2 _)⟩) rfl rfl kw2_200 ⟨rfl, rfl⟩ ⟨Nat.le_of_ble_eq_true rfl, Nat.le_of_ble_eq_true rfl⟩ rfl (Nat.le_of_ble_eq_true rfl) dX6_heard_32 rfl h (fun τ32 h => ?_)
      refine g_aload_n (pc := 35) X rfl 0 rfl dX6_heard_35 ?_
      refine fX6_51 (pc := 36) X hK hR k_isTop_0 dX6_heard_36 ?_
      refine fX6_210 (pc := 39) X hK hR k_isMe_28 dX6_heard_39 ?_
      exact g_retMi (pc := 42) X hK hr hlk dX6_heard_42 h
    · have h := ite_f c_19 h
      refine g_bipush (pc := 22) X bp_m4 dX6_heard_22 ?_
      exact g_retMi (pc := 24) X hK hr hlk dX6_heard_24 h
  · have h := ite_t c_6 h
    refine g_bipush (pc := 9) X bp_m2 dX6_heard_9 ?_
    exact g_retMi (pc := 11) X hK hr hlk dX6_heard_11 h
end
