section
variable {l : Launch} {D : va_G} {cI cZ cS : ClassId} {a : Nat → Nat} {tS tF : Nat}
set_option maxRecDepth 20000 in
theorem c_X6_write (x1 : Int32) (x2 : Int32) (σ : Sg) (K : Int32 → Sg → Prop) : ∀ sz, Met l yX6_write (.code yX6_write cX6_write 6 (some .int) :: AW) ({ frames := 2, cells := 0, slots := 0, locals := 45 } : Room) (pvM D (tyC cI cZ cS) (SXC tS tF) (wC cI cZ cS a σ) sz (w_X6_write x1 x2 σ K) [.ref (a 0), .int x1, .int x2]) (va_Qi K (atM D (tyC cI cZ cS) (wC cI cZ cS a) (va_A (wC cI cZ cS a σ) sz)) (va_A (wC cI cZ cS a σ) sz)) 0 0 (va_A (wC cI cZ cS a σ) sz) := by
  intro sz
  refine met_Mi (own := "TrainNote") (lv := [(0, .ref (a 0)), (1, .int x1), (2, .int x2)]) (by decide +kernel) rfl (Nat.le_of_ble_eq_true rfl) rfl ?_
  intro p e s m args below meth c A X hK hX hA hr hlk h
  have hR : ∀ σ H locs, hpM D (wC cI cZ cS a) A s σ H locs → va_P D vwCl ((wC cI cZ cS a σ)) H := fun _ _ _ h => h.1
  have hok := SXC_ok tS tF
  refine g_aload_n (pc := 0) X rfl 0 rfl dX6_write_0 ?_
  refine g_iload_n (pc := 1) X rfl 1 rfl dX6_write_1 ?_
  refine g_cVPi (pc := 2) (As := [.int x1]) X hK hR mi_X6_isNoBar (c_X6_isNoBar x1 σ _) (wl_ate (oX6 (cI := cI) (cZ := cZ) (cS := cS) (a := a) k_isTop_0).1 ((oX6 (cI := cI) (cZ := cZ) (cS := cS) (a := a) k_isTop_0).2 _)) rfl rfl kw2_96 ⟨rfl, rfl⟩ ⟨Nat.le_of_ble_eq_true rfl, Nat.le_of_ble_eq_true rfl⟩ rfl (Nat.le_of_ble_eq_true rfl) dX6_write_2 rfl h (fun r2 h => ?_)
  refine g_if_ne (pc := 5) (tgt := 15) X (by decide) dX6_write_5 (fun c_5 => ?_) (fun c_5 => ?_)
  · have h := ite_f c_5 h
    refine g_bipush (pc := 15) X bp_m2 dX6_write_15 ?_
    exact g_retMi (pc := 17) X hK hr hlk dX6_write_17 h
  · have h := ite_t c_5 h
    refine g_iload_n (pc := 8) X rfl 2 rfl dX6_write_8 ?_
    refine g_cS0i (pc := 9) (As := [.int x2]) X mi_X6_isNoSheet (c_X6_isNoSheet x2 _) kw2_213 ⟨rfl, rfl⟩ ⟨Nat.le_of_ble_eq_true rfl, Nat.le_of_ble_eq_true rfl⟩ rfl (Nat.le_of_ble_eq_true rfl) dX6_write_9 rfl h (fun r9 h => ?_)
    refine g_if_eq (pc := 12) (tgt := 18) X (by decide) dX6_write_12 (fun c_12 => ?_) (fun c_12 => ?_)
    · have h := ite_t c_12 h
      refine g_aload_n (pc := 18) X rfl 0 rfl dX6_write_18 ?_
      refine fX6_58 (pc := 19) X hK hR k_isTop_0 dX6_write_19 ?_
      refine g_iload_n (pc := 22) X rfl 2 rfl dX6_write_22 ?_
      obtain ⟨h_23, h⟩ := h
      refine aX6_sheets (pc := 23) X hK hR h_23 dX6_write_23 ?_
      refine g_astore_n (pc := 24) (lv' := [(3, .ref (a (33 + 2 * (x2).toNatClampNeg))), (0, .ref (a 0)), (1, .int x1), (2, .int x2)]) X rfl (by decide) rfl dX6_write_24 ?_
      refine g_aload_n (pc := 25) X rfl 0 rfl dX6_write_25 ?_
      refine g_cVPi (pc := 26) (As := []) X hK hR mi_X2_isLost (c_X2_isLost (k0 := (33 + 2 * (x2).toNatClampNeg)) (shIn h_23) σ _) (wl_ate (oX2 (cI := cI) (cZ := cZ) (cS := cS) (a := a) (shIn h_23)).1 ((oX2 (cI := cI) (cZ := cZ) (cS := cS) (a := a) (shIn h_23)).2 _)) rfl rfl kw2_216 ⟨rfl, rfl⟩ ⟨Nat.le_of_ble_eq_true rfl, Nat.le_of_ble_eq_true rfl⟩ rfl (Nat.le_of_ble_eq_true rfl) dX6_write_26 rfl h (fun r26 h => ?_)
      refine g_if_eq (pc := 29) (tgt := 38) X (by decide) dX6_write_29 (fun c_29 => ?_) (fun c_29 => ?_)
      · have h := ite_t c_29 h
        refine g_aload_n (pc := 38) X rfl 0 rfl dX6_write_38 ?_
        refine fX6_220 (pc := 39) X hK hR (shIn h_23) dX6_write_39 ?_
        refine g_aload_n (pc := 42) X rfl 1 rfl dX6_write_42 ?_
        refine fX6_24 (pc := 43) X hK hR k_isTop_0 dX6_write_43 ?_
        refine fX6_165 (pc := 46) X hK hR k_isCh_5 dX6_write_46 ?_
        refine g_mmin (pc := 49) X kw2_115 kw1_28 kw1_3 kw1_29 (Nat.le_of_ble_eq_true rfl) (Nat.le_of_ble_eq_true rfl) dX6_write_49 ?_
        refine g_topi (fun m49 em49 => ?_)
        have h := h m49 em49
        refine g_istore (pc := 52) (lv' := [(4, .int m49), (3, .ref (a (33 + 2 * (x2).toNatClampNeg))), (0, .ref (a 0)), (1, .int x1), (2, .int x2)]) X (by decide) rfl dX6_write_52 ?_
        refine g_iconst (pc := 54) X ic_0 dX6_write_54 ?_
        refine g_istore (pc := 55) (lv' := [(5, .int (0 : Int32)), (4, .int m49), (3, .ref (a (33 + 2 * (x2).toNatClampNeg))), (0, .ref (a 0)), (1, .int x1), (2, .int x2)]) X (by decide) rfl dX6_write_55 ?_
        obtain ⟨n57, h⟩ := h
        have X98 : ∀ (ρe98 : Sg), E_X6_write_57 K m49 ρe98 → GMi p l e ({ frames := 2, cells := 0, slots := 0, locals := 45 } : Room) s m args below meth c K 6 D (tyC cI cZ cS) (wC cI cZ cS a) A 98 [(4, .int m49)] [] ρe98 := by
          intro ρe98 h
          refine g_iload (pc := 98) X 0 rfl dX6_write_98 ?_
          exact g_retMi (pc := 100) X hK hr hlk dX6_write_100 h
        have L57 : ∀ (n : Nat) (y5_57 : Int32) (ρ57 : Sg), lq2 (F_X6_write_57 m49 x1 x2 (E_X6_write_57 K m49)) n y5_57 ρ57 → GMi p l e ({ frames := 2, cells := 0, slots := 0, locals := 45 } : Room) s m args below meth c K 6 D (tyC cI cZ cS) (wC cI cZ cS a) A 57 [(0, .ref (a 0)), (1, .int x1), (3, .ref (a (33 + 2 * (x2).toNatClampNeg))), (4, .int m49), (5, .int y5_57)] [] ρ57 := by
          intro n
          induction n with
          | zero =>
            intro y5_57 ρ57 h
            exact h.elim
          | succ n ih =>
            intro y5_57 ρ57 h
            have h : F_X6_write_57 m49 x1 x2 (E_X6_write_57 K m49) (lq2 (F_X6_write_57 m49 x1 x2 (E_X6_write_57 K m49)) n) y5_57 ρ57 := h
            refine g_iload (pc := 57) X 4 rfl dX6_write_57 ?_
            refine g_iload (pc := 59) X 3 rfl dX6_write_59 ?_
            refine g_icmp_ge (pc := 61) (tgt := 98) X (by decide) dX6_write_61 (fun c_61 => ?_) (fun c_61 => ?_)
            · have h := ite_t c_61 h
              exact g_lv (X98 ρ57 h) [3] rfl
            · have h := ite_f c_61 h
              refine g_aload_n (pc := 64) X rfl 2 rfl dX6_write_64 ?_
              refine g_iload (pc := 65) X 4 rfl dX6_write_65 ?_
              refine g_aload_n (pc := 67) X rfl 0 rfl dX6_write_67 ?_
              refine fX6_34 (pc := 68) X hK hR k_isTop_0 dX6_write_68 ?_
              refine fX6_147 (pc := 71) X hK hR k_isSo_23 dX6_write_71 ?_
              refine g_iload_n (pc := 74) X rfl 1 rfl dX6_write_74 ?_
              obtain ⟨h_75, h⟩ := h
              refine aX3_restsBefore (pc := 75) X hK hR k_isSo_23 h_75 dX6_write_75 ?_
              refine g_aload_n (pc := 76) X rfl 0 rfl dX6_write_76 ?_
              refine fX6_24 (pc := 77) X hK hR k_isTop_0 dX6_write_77 ?_
              refine g_aload_n (pc := 80) X rfl 0 rfl dX6_write_80 ?_
              refine fX6_41 (pc := 81) X hK hR k_isTop_0 dX6_write_81 ?_
              refine g_iload (pc := 84) X 4 rfl dX6_write_84 ?_
              refine g_cSPi (pc := 86) (As := [.int (ρ57 (23 + 2) (x1).toNatClampNeg), .ref (a 5), .ref (a 26), .int y5_57]) X hK hR mi_X6_noteBehind (c_X6_noteBehind (ρ57 (23 + 2) (x1).toNatClampNeg) (k1 := 5) k_isCh_5 (k2 := 26) k_isTr_26 y5_57 ρ57 _) kw2_100 ⟨rfl, rfl⟩ ⟨Nat.le_of_ble_eq_true rfl, Nat.le_of_ble_eq_true rfl⟩ rfl (Nat.le_of_ble_eq_true rfl) dX6_write_86 rfl h (fun r86 h => ?_)
              refine g_cVMv (pc := 89) (As := [.int y5_57, .int r86]) X hK hX hok hA mi_X2_put (c_X2_put (k0 := (33 + 2 * (x2).toNatClampNeg)) (shIn h_23) y5_57 r86 ρ57 _) (fun _ => ⟨_, wl_ate (oX2 (cI := cI) (cZ := cZ) (cS := cS) (a := a) (shIn h_23)).1 ((oX2 (cI := cI) (cZ := cZ) (cS := cS) (a := a) (shIn h_23)).2 _)⟩) rfl rfl kw3_60 ⟨rfl, rfl⟩ ⟨Nat.le_of_ble_eq_true rfl, Nat.le_of_ble_eq_true rfl⟩ rfl (Nat.le_of_ble_eq_true rfl) dX6_write_89 rfl h (fun τ89 h => ?_)
              refine g_iinc (pc := 92) (lv' := [(5, .int (y5_57 + (1 : Int32))), (0, .ref (a 0)), (1, .int x1), (3, .ref (a (33 + 2 * (x2).toNatClampNeg))), (4, .int m49)]) X 4 rfl rfl (by decide) rfl dX6_write_92 ?_
              refine g_goto (pc := 95) (tgt := 57) X (by decide) dX6_write_95 ?_
              exact g_lv (ih (y5_57 + (1 : Int32)) τ89 h) [1, 2, 3, 4, 0] rfl
        exact g_lv (L57 n57 (0 : Int32) σ h) [3, 4, 2, 1, 0] rfl
      · have h := ite_f c_29 h
        refine g_aload_n (pc := 32) X rfl 1 rfl dX6_write_32 ?_
        refine g_iconst (pc := 33) X ic_1 dX6_write_33 ?_
        refine g_cVMi (pc := 34) (As := [.int (1 : Int32)]) X hK hX hok hA mi_X6_find (c_X6_find (1 : Int32) σ _) (fun _ => ⟨_, wl_ate (oX6 (cI := cI) (cZ := cZ) (cS := cS) (a := a) k_isTop_0).1 ((oX6 (cI := cI) (cZ := cZ) (cS := cS) (a := a) k_isTop_0).2 _)⟩) rfl rfl kw2_220 ⟨rfl, rfl⟩ ⟨Nat.le_of_ble_eq_true rfl, Nat.le_of_ble_eq_true rfl⟩ rfl (Nat.le_of_ble_eq_true rfl) dX6_write_34 rfl h (fun r34 τ34 h => ?_)
        exact g_retMi (pc := 37) X hK hr hlk dX6_write_37 h
    · have h := ite_f c_12 h
      refine g_bipush (pc := 15) X bp_m2 dX6_write_15 ?_
      exact g_retMi (pc := 17) X hK hr hlk dX6_write_17 h
set_option maxRecDepth 20000 in
theorem c_X0_howManySilent {k0 : Nat} (hk0 : isCh k0) (σ : Sg) (K : Int32 → Prop) : Met l yX0_howManySilent (.code yX0_howManySilent cX0_howManySilent 3 (some .int) :: AW) ({ frames := 0, cells := 0, slots := 0, locals := 0 } : Room) (pvP D (tyC cI cZ cS) (wC cI cZ cS a σ) (w_X0_howManySilent k0 σ K) [.ref (a k0)]) (vp_Si K) 0 0 (fun _ => False) := by
  refine met_Pi (own := "TrainNote$Choir") (lv := [(0, .ref (a k0))]) (by decide +kernel) rfl (Nat.le_of_ble_eq_true rfl) rfl ?_
  intro p e s m args below meth c X hK hr hlk h
  have hR : ∀ σ H locs, hpP D (wC cI cZ cS a) s σ H locs → va_P D vwCl ((wC cI cZ cS a σ)) H := fun _ _ _ h => h.1
  refine g_iconst (pc := 0) X ic_0 dX0_howManySilent_0 ?_
  refine g_istore_n (pc := 1) (lv' := [(1, .int (0 : Int32)), (0, .ref (a k0))]) X rfl (by decide) rfl dX0_howManySilent_1 ?_
  refine g_iconst (pc := 2) X ic_0 dX0_howManySilent_2 ?_
  refine g_istore_n (pc := 3) (lv' := [(2, .int (0 : Int32)), (1, .int (0 : Int32)), (0, .ref (a k0))]) X rfl (by decide) rfl dX0_howManySilent_3 ?_
  obtain ⟨n4, h⟩ := h
  have X36 : ∀ (u1_36 : Int32), E_X0_howManySilent_4 K u1_36 → GPi p l e ({ frames := 0, cells := 0, slots := 0, locals := 0 } : Room) s m args below meth c K 3 D (wC cI cZ cS a) 36 [(1, .int u1_36)] [] σ := by
    intro u1_36 h
    refine g_iload_n (pc := 36) X rfl 0 rfl dX0_howManySilent_36 ?_
    exact g_retPi (pc := 37) X hr hlk dX0_howManySilent_37 h
  have L4 : ∀ (n : Nat) (y1_4 : Int32) (y2_4 : Int32), lq2 (F_X0_howManySilent_4 σ k0 (E_X0_howManySilent_4 K)) n y1_4 y2_4 → GPi p l e ({ frames := 0, cells := 0, slots := 0, locals := 0 } : Room) s m args below meth c K 3 D (wC cI cZ cS a) 4 [(0, .ref (a k0)), (1, .int y1_4), (2, .int y2_4)] [] σ := by
    intro n
    induction n with
    | zero =>
      intro y1_4 y2_4 h
      exact h.elim
    | succ n ih =>
      intro y1_4 y2_4 h
      have h : F_X0_howManySilent_4 σ k0 (E_X0_howManySilent_4 K) (lq2 (F_X0_howManySilent_4 σ k0 (E_X0_howManySilent_4 K)) n) y1_4 y2_4 := h
      refine g_iload_n (pc := 4) X rfl 2 rfl dX0_howManySilent_4 ?_
      refine g_aload_n (pc := 5) X rfl 0 rfl dX0_howManySilent_5 ?_
      refine fX0_9 (pc := 6) X hK hR hk0 dX0_howManySilent_6 ?_
      refine g_icmp_ge (pc := 9) (tgt := 36) X (by decide) dX0_howManySilent_9 (fun c_9 => ?_) (fun c_9 => ?_)
      · have h := ite_t c_9 h
        exact g_lv (X36 y1_4 h) [1] rfl
      · have h := ite_f c_9 h
        refine g_iload_n (pc := 12) X rfl 1 rfl dX0_howManySilent_12 ?_
        refine g_aload_n (pc := 13) X rfl 0 rfl dX0_howManySilent_13 ?_
        refine fX0_29 (pc := 14) X hK hR hk0 dX0_howManySilent_14 ?_
        refine g_iload_n (pc := 17) X rfl 2 rfl dX0_howManySilent_17 ?_
        obtain ⟨h_18, h⟩ := h
        refine aX0_source (pc := 18) X hK hR hk0 h_18 dX0_howManySilent_18 ?_
        refine g_iconst (pc := 19) X ic_m1 dX0_howManySilent_19 ?_
        refine g_icmp_ne (pc := 20) (tgt := 27) X (by decide) dX0_howManySilent_20 (fun c_20 => ?_) (fun c_20 => ?_)
        · have h := ite_f c_20 h
          refine g_iconst (pc := 27) X ic_0 dX0_howManySilent_27 ?_
          refine g_iadd (pc := 28) X dX0_howManySilent_28 ?_
          refine g_istore_n (pc := 29) (lv' := [(1, .int (y1_4 + (0 : Int32))), (0, .ref (a k0)), (2, .int y2_4)]) X rfl (by decide) rfl dX0_howManySilent_29 ?_
          refine g_iinc (pc := 30) (lv' := [(2, .int (y2_4 + (1 : Int32))), (1, .int (y1_4 + (0 : Int32))), (0, .ref (a k0))]) X 2 rfl rfl (by decide) rfl dX0_howManySilent_30 ?_
          refine g_goto (pc := 33) (tgt := 4) X (by decide) dX0_howManySilent_33 ?_
          exact g_lv (ih (y1_4 + (0 : Int32)) (y2_4 + (1 : Int32)) h) [2, 1, 0] rfl
        · have h := ite_t c_20 h
          refine g_iconst (pc := 23) X ic_1 dX0_howManySilent_23 ?_
          refine g_goto (pc := 24) (tgt := 28) X (by decide) dX0_howManySilent_24 ?_
          refine g_iadd (pc := 28) X dX0_howManySilent_28 ?_
          refine g_istore_n (pc := 29) (lv' := [(1, .int (y1_4 + (1 : Int32))), (0, .ref (a k0)), (2, .int y2_4)]) X rfl (by decide) rfl dX0_howManySilent_29 ?_
          refine g_iinc (pc := 30) (lv' := [(2, .int (y2_4 + (1 : Int32))), (1, .int (y1_4 + (1 : Int32))), (0, .ref (a k0))]) X 2 rfl rfl (by decide) rfl dX0_howManySilent_30 ?_
          refine g_goto (pc := 33) (tgt := 4) X (by decide) dX0_howManySilent_33 ?_
          exact g_lv (ih (y1_4 + (1 : Int32)) (y2_4 + (1 : Int32)) h) [2, 1, 0] rfl
  exact g_lv (L4 n4 (0 : Int32) (0 : Int32) h) [2, 1, 0] rfl
set_option maxRecDepth 20000 in
theorem c_X3_howManyRests {k0 : Nat} (hk0 : isSo k0) (σ : Sg) (K : Int32 → Prop) : Met l yX3_howManyRests (.code yX3_howManyRests cX3_howManyRests 3 (some .int) :: AW) ({ frames := 0, cells := 0, slots := 0, locals := 0 } : Room) (pvP D (tyC cI cZ cS) (wC cI cZ cS a σ) (w_X3_howManyRests k0 σ K) [.ref (a k0)]) (vp_Si K) 0 0 (fun _ => False) := by
  refine met_Pi (own := "TrainNote$Song") (lv := [(0, .ref (a k0))]) (by decide +kernel) rfl (Nat.le_of_ble_eq_true rfl) rfl ?_
  intro p e s m args below meth c X hK hr hlk h
  have hR : ∀ σ H locs, hpP D (wC cI cZ cS a) s σ H locs → va_P D vwCl ((wC cI cZ cS a σ)) H := fun _ _ _ h => h.1
  refine g_iconst (pc := 0) X ic_0 dX3_howManyRests_0 ?_
  refine g_istore_n (pc := 1) (lv' := [(1, .int (0 : Int32)), (0, .ref (a k0))]) X rfl (by decide) rfl dX3_howManyRests_1 ?_
  refine g_iconst (pc := 2) X ic_0 dX3_howManyRests_2 ?_
  refine g_istore_n (pc := 3) (lv' := [(2, .int (0 : Int32)), (1, .int (0 : Int32)), (0, .ref (a k0))]) X rfl (by decide) rfl dX3_howManyRests_3 ?_
  obtain ⟨n4, h⟩ := h
  have X36 : ∀ (u1_36 : Int32), E_X3_howManyRests_4 K u1_36 → GPi p l e ({ frames := 0, cells := 0, slots := 0, locals := 0 } : Room) s m args below meth c K 3 D (wC cI cZ cS a) 36 [(1, .int u1_36)] [] σ := by
    intro u1_36 h
    refine g_iload_n (pc := 36) X rfl 0 rfl dX3_howManyRests_36 ?_
    exact g_retPi (pc := 37) X hr hlk dX3_howManyRests_37 h
  have L4 : ∀ (n : Nat) (y1_4 : Int32) (y2_4 : Int32), lq2 (F_X3_howManyRests_4 σ k0 (E_X3_howManyRests_4 K)) n y1_4 y2_4 → GPi p l e ({ frames := 0, cells := 0, slots := 0, locals := 0 } : Room) s m args below meth c K 3 D (wC cI cZ cS a) 4 [(0, .ref (a k0)), (1, .int y1_4), (2, .int y2_4)] [] σ := by
    intro n
    induction n with
    | zero =>
      intro y1_4 y2_4 h
      exact h.elim
    | succ n ih =>
      intro y1_4 y2_4 h
      have h : F_X3_howManyRests_4 σ k0 (E_X3_howManyRests_4 K) (lq2 (F_X3_howManyRests_4 σ k0 (E_X3_howManyRests_4 K)) n) y1_4 y2_4 := h
      refine g_iload_n (pc := 4) X rfl 2 rfl dX3_howManyRests_4 ?_
      refine g_aload_n (pc := 5) X rfl 0 rfl dX3_howManyRests_5 ?_
      refine fX3_9 (pc := 6) X hK hR hk0 dX3_howManyRests_6 ?_
      refine g_icmp_ge (pc := 9) (tgt := 36) X (by decide) dX3_howManyRests_9 (fun c_9 => ?_) (fun c_9 => ?_)
      · have h := ite_t c_9 h
        exact g_lv (X36 y1_4 h) [1] rfl
      · have h := ite_f c_9 h
        refine g_iload_n (pc := 12) X rfl 1 rfl dX3_howManyRests_12 ?_
        refine g_aload_n (pc := 13) X rfl 0 rfl dX3_howManyRests_13 ?_
        refine fX3_15 (pc := 14) X hK hR hk0 dX3_howManyRests_14 ?_
        refine g_iload_n (pc := 17) X rfl 2 rfl dX3_howManyRests_17 ?_
        obtain ⟨h_18, h⟩ := h
        refine aX3_kind (pc := 18) X hK hR hk0 h_18 dX3_howManyRests_18 ?_
        refine g_iconst (pc := 19) X ic_1 dX3_howManyRests_19 ?_
        refine g_icmp_ne (pc := 20) (tgt := 27) X (by decide) dX3_howManyRests_20 (fun c_20 => ?_) (fun c_20 => ?_)
        · have h := ite_f c_20 h
          refine g_iconst (pc := 27) X ic_0 dX3_howManyRests_27 ?_
          refine g_iadd (pc := 28) X dX3_howManyRests_28 ?_
          refine g_istore_n (pc := 29) (lv' := [(1, .int (y1_4 + (0 : Int32))), (0, .ref (a k0)), (2, .int y2_4)]) X rfl (by decide) rfl dX3_howManyRests_29 ?_
          refine g_iinc (pc := 30) (lv' := [(2, .int (y2_4 + (1 : Int32))), (1, .int (y1_4 + (0 : Int32))), (0, .ref (a k0))]) X 2 rfl rfl (by decide) rfl dX3_howManyRests_30 ?_
          refine g_goto (pc := 33) (tgt := 4) X (by decide) dX3_howManyRests_33 ?_
          exact g_lv (ih (y1_4 + (0 : Int32)) (y2_4 + (1 : Int32)) h) [2, 1, 0] rfl
        · have h := ite_t c_20 h
          refine g_iconst (pc := 23) X ic_1 dX3_howManyRests_23 ?_
          refine g_goto (pc := 24) (tgt := 28) X (by decide) dX3_howManyRests_24 ?_
          refine g_iadd (pc := 28) X dX3_howManyRests_28 ?_
          refine g_istore_n (pc := 29) (lv' := [(1, .int (y1_4 + (1 : Int32))), (0, .ref (a k0)), (2, .int y2_4)]) X rfl (by decide) rfl dX3_howManyRests_29 ?_
          refine g_iinc (pc := 30) (lv' := [(2, .int (y2_4 + (1 : Int32))), (1, .int (y1_4 + (1 : Int32))), (0, .ref (a k0))]) X 2 rfl rfl (by decide) rfl dX3_howManyRests_30 ?_
          refine g_goto (pc := 33) (tgt := 4) X (by decide) dX3_howManyRests_33 ?_
          exact g_lv (ih (y1_4 + (1 : Int32)) (y2_4 + (1 : Int32)) h) [2, 1, 0] rfl
  exact g_lv (L4 n4 (0 : Int32) (0 : Int32) h) [2, 1, 0] rfl
set_option maxRecDepth 20000 in
theorem c_X6_count (x1 : Int32) (σ : Sg) (K : Int32 → Prop) : Met l yX6_count (.code yX6_count cX6_count 2 (some .int) :: AW) ({ frames := 1, cells := 0, slots := 0, locals := 22 } : Room) (pvP D (tyC cI cZ cS) (wC cI cZ cS a σ) (w_X6_count x1 σ K) [.ref (a 0), .int x1]) (vp_Si K) 0 0 (fun _ => False) := by
  refine met_Pi (own := "TrainNote") (lv := [(0, .ref (a 0)), (1, .int x1)]) (by decide +kernel) rfl (Nat.le_of_ble_eq_true rfl) rfl ?_
  intro p e s m args below meth c X hK hr hlk h
  have hR : ∀ σ H locs, hpP D (wC cI cZ cS a) s σ H locs → va_P D vwCl ((wC cI cZ cS a σ)) H := fun _ _ _ h => h.1
  refine g_iload_n (pc := 0) X rfl 1 rfl dX6_count_0 ?_
  by_cases c_1_0 : x1 = (0 : Int32)
  · have h := ite_t c_1_0 h
    refine g_tabI (pc := 1) (tgt := 52) (off := 51) X (by rw [c_1_0]; decide) (by rw [c_1_0]; decide) (by rw [c_1_0] <;> rfl) (by decide) dX6_count_1 ?_
    refine g_aload_n (pc := 52) X rfl 0 rfl dX6_count_52 ?_
    refine fX6_24 (pc := 53) X hK hR k_isTop_0 dX6_count_53 ?_
    refine fX6_165 (pc := 56) X hK hR k_isCh_5 dX6_count_56 ?_
    exact g_retPi (pc := 59) X hr hlk dX6_count_59 h
  · have h := ite_f c_1_0 h
    by_cases c_1_1 : x1 = (1 : Int32)
    · have h := ite_t c_1_1 h
      refine g_tabI (pc := 1) (tgt := 60) (off := 59) X (by rw [c_1_1]; decide) (by rw [c_1_1]; decide) (by rw [c_1_1] <;> rfl) (by decide) dX6_count_1 ?_
      refine g_aload_n (pc := 60) X rfl 0 rfl dX6_count_60 ?_
      refine fX6_34 (pc := 61) X hK hR k_isTop_0 dX6_count_61 ?_
      refine fX6_120 (pc := 64) X hK hR k_isSo_23 dX6_count_64 ?_
      exact g_retPi (pc := 67) X hr hlk dX6_count_67 h
    · have h := ite_f c_1_1 h
      by_cases c_1_2 : x1 = (2 : Int32)
      · have h := ite_t c_1_2 h
        refine g_tabI (pc := 1) (tgt := 68) (off := 67) X (by rw [c_1_2]; decide) (by rw [c_1_2]; decide) (by rw [c_1_2] <;> rfl) (by decide) dX6_count_1 ?_
        refine g_aload_n (pc := 68) X rfl 0 rfl dX6_count_68 ?_
        refine fX6_14 (pc := 69) X hK hR k_isTop_0 dX6_count_69 ?_
        refine fX6_91 (pc := 72) X hK hR k_isTx_1 dX6_count_72 ?_
        exact g_retPi (pc := 75) X hr hlk dX6_count_75 h
      · have h := ite_f c_1_2 h
        by_cases c_1_3 : x1 = (3 : Int32)
        · have h := ite_t c_1_3 h
          refine g_tabI (pc := 1) (tgt := 76) (off := 75) X (by rw [c_1_3]; decide) (by rw [c_1_3]; decide) (by rw [c_1_3] <;> rfl) (by decide) dX6_count_1 ?_
          refine g_aload_n (pc := 76) X rfl 0 rfl dX6_count_76 ?_
          refine fX6_18 (pc := 77) X hK hR k_isTop_0 dX6_count_77 ?_
          refine fX6_91 (pc := 80) X hK hR k_isTx_3 dX6_count_80 ?_
          exact g_retPi (pc := 83) X hr hlk dX6_count_83 h
        · have h := ite_f c_1_3 h
          by_cases c_1_4 : x1 = (4 : Int32)
          · have h := ite_t c_1_4 h
            refine g_tabI (pc := 1) (tgt := 84) (off := 83) X (by rw [c_1_4]; decide) (by rw [c_1_4]; decide) (by rw [c_1_4] <;> rfl) (by decide) dX6_count_1 ?_
            refine g_aload_n (pc := 84) X rfl 0 rfl dX6_count_84 ?_
            refine fX6_24 (pc := 85) X hK hR k_isTop_0 dX6_count_85 ?_
            refine g_cVPi (pc := 88) (As := []) X hK hR mi_X0_howManySilent (c_X0_howManySilent (k0 := 5) k_isCh_5 σ _) (wl_ate (oX0 (cI := cI) (cZ := cZ) (cS := cS) (a := a) k_isCh_5).1 ((oX0 (cI := cI) (cZ := cZ) (cS := cS) (a := a) k_isCh_5).2 _)) rfl rfl kw3_87 ⟨rfl, rfl⟩ ⟨Nat.le_of_ble_eq_true rfl, Nat.le_of_ble_eq_true rfl⟩ rfl (Nat.le_of_ble_eq_true rfl) dX6_count_88 rfl h (fun r88 h => ?_)
            exact g_retPi (pc := 91) X hr hlk dX6_count_91 h
          · have h := ite_f c_1_4 h
            by_cases c_1_5 : x1 = (5 : Int32)
            · have h := ite_t c_1_5 h
              refine g_tabI (pc := 1) (tgt := 92) (off := 91) X (by rw [c_1_5]; decide) (by rw [c_1_5]; decide) (by rw [c_1_5] <;> rfl) (by decide) dX6_count_1 ?_
              refine g_aload_n (pc := 92) X rfl 0 rfl dX6_count_92 ?_
              refine fX6_34 (pc := 93) X hK hR k_isTop_0 dX6_count_93 ?_
              refine g_cVPi (pc := 96) (As := []) X hK hR mi_X3_howManyRests (c_X3_howManyRests (k0 := 23) k_isSo_23 σ _) (wl_ate (oX3 (cI := cI) (cZ := cZ) (cS := cS) (a := a) k_isSo_23).1 ((oX3 (cI := cI) (cZ := cZ) (cS := cS) (a := a) k_isSo_23).2 _)) rfl rfl kw3_91 ⟨rfl, rfl⟩ ⟨Nat.le_of_ble_eq_true rfl, Nat.le_of_ble_eq_true rfl⟩ rfl (Nat.le_of_ble_eq_true rfl) dX6_count_96 rfl h (fun r96 h => ?_)
              exact g_retPi (pc := 99) X hr hlk dX6_count_99 h
            · have h := ite_f c_1_5 h
              by_cases c_1_6 : x1 = (6 : Int32)
              · have h := ite_t c_1_6 h
                refine g_tabI (pc := 1) (tgt := 100) (off := 99) X (by rw [c_1_6]; decide) (by rw [c_1_6]; decide) (by rw [c_1_6] <;> rfl) (by decide) dX6_count_1 ?_
                refine g_aload_n (pc := 100) X rfl 0 rfl dX6_count_100 ?_
                refine fX6_41 (pc := 101) X hK hR k_isTop_0 dX6_count_101 ?_
                refine fX6_198 (pc := 104) X hK hR k_isTr_26 dX6_count_104 ?_
                exact g_retPi (pc := 107) X hr hlk dX6_count_107 h
              · have h := ite_f c_1_6 h
                by_cases c_1_7 : x1 = (7 : Int32)
                · have h := ite_t c_1_7 h
                  refine g_tabI (pc := 1) (tgt := 108) (off := 107) X (by rw [c_1_7]; decide) (by rw [c_1_7]; decide) (by rw [c_1_7] <;> rfl) (by decide) dX6_count_1 ?_
                  refine g_aload_n (pc := 108) X rfl 0 rfl dX6_count_108 ?_
                  refine fX6_51 (pc := 109) X hK hR k_isTop_0 dX6_count_109 ?_
                  refine fX6_210 (pc := 112) X hK hR k_isMe_28 dX6_count_112 ?_
                  exact g_retPi (pc := 115) X hr hlk dX6_count_115 h
                · have h := ite_f c_1_7 h
                  by_cases c_1_8 : x1 = (8 : Int32)
                  · have h := ite_t c_1_8 h
                    refine g_tabI (pc := 1) (tgt := 116) (off := 115) X (by rw [c_1_8]; decide) (by rw [c_1_8]; decide) (by rw [c_1_8] <;> rfl) (by decide) dX6_count_1 ?_
                    refine g_aload_n (pc := 116) X rfl 0 rfl dX6_count_116 ?_
                    refine fX6_69 (pc := 117) X hK hR k_isTop_0 dX6_count_117 ?_
                    exact g_retPi (pc := 120) X hr hlk dX6_count_120 h
                  · have h := ite_f c_1_8 h
                    refine g_tabO (pc := 1) (tgt := 121) X (tabOut (fun z z1 z2 => ?_)) (by decide) dX6_count_1 ?_
                    · rcases (show z = 0 ∨ z = 1 ∨ z = 2 ∨ z = 3 ∨ z = 4 ∨ z = 5 ∨ z = 6 ∨ z = 7 ∨ z = 8 by omega) with rfl | rfl | rfl | rfl | rfl | rfl | rfl | rfl | rfl
                      · exact lv_neT c_1_0 (by decide)
                      · exact lv_neT c_1_1 (by decide)
                      · exact lv_neT c_1_2 (by decide)
                      · exact lv_neT c_1_3 (by decide)
                      · exact lv_neT c_1_4 (by decide)
                      · exact lv_neT c_1_5 (by decide)
                      · exact lv_neT c_1_6 (by decide)
                      · exact lv_neT c_1_7 (by decide)
                      · exact lv_neT c_1_8 (by decide)
                    · refine g_bipush (pc := 121) X bp_m2 dX6_count_121 ?_
                      exact g_retPi (pc := 123) X hr hlk dX6_count_123 h
set_option maxRecDepth 20000 in
theorem c_X6_mix (x0 : Int64) (x2 : Int64) (K : Int64 → Prop) : Met l yX6_mix (.code yX6_mix cX6_mix 4 (some .long) :: AW) ({ frames := 0, cells := 0, slots := 0, locals := 0 } : Room) (pv0 (w_X6_mix x0 x2 K) [.long x0, .long x2]) (vp_Sl K) 0 0 (fun _ => False) := by
  refine met_0l (own := "TrainNote") (lv := [(0, .long x0), (2, .long x2)]) (fun _ _ => 0) (by decide +kernel) rfl (Nat.le_of_ble_eq_true rfl) rfl ?_
  intro p e s m args below meth c X hr hlk h
  refine g_ldc2 (pc := 0) X kw3_104 dX6_mix_0 ?_
  refine g_lload_n (pc := 3) X rfl 0 rfl dX6_mix_3 ?_
  refine g_lmul (pc := 4) X dX6_mix_4 ?_
  refine g_lload_n (pc := 5) X rfl 1 rfl dX6_mix_5 ?_
  refine g_ladd (pc := 6) X dX6_mix_6 ?_
  exact g_ret0l (pc := 7) X hr hlk dX6_mix_7 h
set_option maxRecDepth 20000 in
theorem c_X6_mixSingers (x1 : Int64) (σ : Sg) (K : Int64 → Prop) : Met l yX6_mixSingers (.code yX6_mixSingers cX6_mixSingers 7 (some .long) :: AW) ({ frames := 2, cells := 0, slots := 0, locals := 43 } : Room) (pvP D (tyC cI cZ cS) (wC cI cZ cS a σ) (w_X6_mixSingers x1 σ K) [.ref (a 0), .long x1]) (vp_Sl K) 0 0 (fun _ => False) := by
  refine met_Pl (own := "TrainNote") (lv := [(0, .ref (a 0)), (1, .long x1)]) (by decide +kernel) rfl (Nat.le_of_ble_eq_true rfl) rfl ?_
  intro p e s m args below meth c X hK hr hlk h
  have hR : ∀ σ H locs, hpP D (wC cI cZ cS a) s σ H locs → va_P D vwCl ((wC cI cZ cS a σ)) H := fun _ _ _ h => h.1
  refine g_lload_n (pc := 0) X rfl 1 rfl dX6_mixSingers_0 ?_
  refine g_lstore_n (pc := 1) (lv' := [(3, .long x1), (0, .ref (a 0)), (1, .long x1)]) X rfl (by decide) rfl dX6_mixSingers_1 ?_
  refine g_iconst (pc := 2) X ic_0 dX6_mixSingers_2 ?_
  refine g_istore (pc := 3) (lv' := [(5, .int (0 : Int32)), (3, .long x1), (0, .ref (a 0)), (1, .long x1)]) X (by decide) rfl dX6_mixSingers_3 ?_
  obtain ⟨n5, h⟩ := h
  have X78 : ∀ (u3_78 : Int64), E_X6_mixSingers_5 K u3_78 → GPl p l e ({ frames := 2, cells := 0, slots := 0, locals := 43 } : Room) s m args below meth c K 7 D (wC cI cZ cS a) 78 [(3, .long u3_78)] [] σ := by
    intro u3_78 h
    refine g_lload_n (pc := 78) X rfl 0 rfl dX6_mixSingers_78 ?_
    exact g_retPl (pc := 79) X hr hlk dX6_mixSingers_79 h
  have L5 : ∀ (n : Nat) (y3_5 : Int64) (y5_5 : Int32), lq2 (F_X6_mixSingers_5 σ (E_X6_mixSingers_5 K)) n y3_5 y5_5 → GPl p l e ({ frames := 2, cells := 0, slots := 0, locals := 43 } : Room) s m args below meth c K 7 D (wC cI cZ cS a) 5 [(0, .ref (a 0)), (3, .long y3_5), (5, .int y5_5)] [] σ := by
    intro n
    induction n with
    | zero =>
      intro y3_5 y5_5 h
      exact h.elim
    | succ n ih =>
      intro y3_5 y5_5 h
      have h : F_X6_mixSingers_5 σ (E_X6_mixSingers_5 K) (lq2 (F_X6_mixSingers_5 σ (E_X6_mixSingers_5 K)) n) y3_5 y5_5 := h
      generalize lq2 (F_X6_mixSingers_5 σ (E_X6_mixSingers_5 K)) n = rec5 at h ih
      refine g_iload (pc := 5) X 2 rfl dX6_mixSingers_5 ?_
      refine g_aload_n (pc := 7) X rfl 0 rfl dX6_mixSingers_7 ?_
      refine fX6_24 (pc := 8) X hK hR k_isTop_0 dX6_mixSingers_8 ?_
      refine fX6_165 (pc := 11) X hK hR k_isCh_5 dX6_mixSingers_11 ?_
      refine g_icmp_ge (pc := 14) (tgt := 78) X (by decide) dX6_mixSingers_14 (fun c_14 => ?_) (fun c_14 => ?_)
      · have h := ite_t c_14 h
        exact g_lv (X78 y3_5 h) [1] rfl
      · have h := ite_f c_14 h
        refine g_iconst (pc := 17) X ic_0 dX6_mixSingers_17 ?_
        refine g_istore (pc := 18) (lv' := [(6, .int (0 : Int32)), (0, .ref (a 0)), (3, .long y3_5), (5, .int y5_5)]) X (by decide) rfl dX6_mixSingers_18 ?_
        obtain ⟨n20, h⟩ := h
        have X46 : ∀ (u3_46 : Int64), E_X6_mixSingers_20 y5_5 σ rec5 u3_46 → GPl p l e ({ frames := 2, cells := 0, slots := 0, locals := 43 } : Room) s m args below meth c K 7 D (wC cI cZ cS a) 46 [(0, .ref (a 0)), (3, .long u3_46), (5, .int y5_5)] [] σ := by
          intro u3_46 h
          refine g_lload_n (pc := 46) X rfl 1 rfl dX6_mixSingers_46 ?_
          refine g_aload_n (pc := 47) X rfl 0 rfl dX6_mixSingers_47 ?_
          refine g_iload (pc := 48) X 2 rfl dX6_mixSingers_48 ?_
          refine g_iconst (pc := 50) X ic_0 dX6_mixSingers_50 ?_
          refine g_cVPi (pc := 51) (As := [.int y5_5, .int (0 : Int32)]) X hK hR mi_X6_ear (c_X6_ear y5_5 (0 : Int32) σ _) (wl_ate (oX6 (cI := cI) (cZ := cZ) (cS := cS) (a := a) k_isTop_0).1 ((oX6 (cI := cI) (cZ := cZ) (cS := cS) (a := a) k_isTop_0).2 _)) rfl rfl kw3_111 ⟨rfl, rfl⟩ ⟨Nat.le_of_ble_eq_true rfl, Nat.le_of_ble_eq_true rfl⟩ rfl (Nat.le_of_ble_eq_true rfl) dX6_mixSingers_51 rfl h (fun r51 h => ?_)
          refine g_i2l (pc := 54) X dX6_mixSingers_54 ?_
          refine g_cS0l (pc := 55) (As := [.long u3_46, .long (r51).toInt64]) X mi_X6_mix (c_X6_mix u3_46 (r51).toInt64 _) kw3_101 ⟨rfl, rfl⟩ ⟨Nat.le_of_ble_eq_true rfl, Nat.le_of_ble_eq_true rfl⟩ rfl (Nat.le_of_ble_eq_true rfl) dX6_mixSingers_55 rfl h (fun r55 h => ?_)
          refine g_lstore_n (pc := 58) (lv' := [(3, .long r55), (0, .ref (a 0)), (5, .int y5_5)]) X rfl (by decide) rfl dX6_mixSingers_58 ?_
          refine g_lload_n (pc := 59) X rfl 0 rfl dX6_mixSingers_59 ?_
          refine g_aload_n (pc := 60) X rfl 1 rfl dX6_mixSingers_60 ?_
          refine g_iload (pc := 61) X 2 rfl dX6_mixSingers_61 ?_
          refine g_iconst (pc := 63) X ic_1 dX6_mixSingers_63 ?_
          refine g_cVPi (pc := 64) (As := [.int y5_5, .int (1 : Int32)]) X hK hR mi_X6_ear (c_X6_ear y5_5 (1 : Int32) σ _) (wl_ate (oX6 (cI := cI) (cZ := cZ) (cS := cS) (a := a) k_isTop_0).1 ((oX6 (cI := cI) (cZ := cZ) (cS := cS) (a := a) k_isTop_0).2 _)) rfl rfl kw3_111 ⟨rfl, rfl⟩ ⟨Nat.le_of_ble_eq_true rfl, Nat.le_of_ble_eq_true rfl⟩ rfl (Nat.le_of_ble_eq_true rfl) dX6_mixSingers_64 rfl h (fun r64 h => ?_)
          refine g_i2l (pc := 67) X dX6_mixSingers_67 ?_
          refine g_cS0l (pc := 68) (As := [.long r55, .long (r64).toInt64]) X mi_X6_mix (c_X6_mix r55 (r64).toInt64 _) kw3_101 ⟨rfl, rfl⟩ ⟨Nat.le_of_ble_eq_true rfl, Nat.le_of_ble_eq_true rfl⟩ rfl (Nat.le_of_ble_eq_true rfl) dX6_mixSingers_68 rfl h (fun r68 h => ?_)
          refine g_lstore_n (pc := 71) (lv' := [(3, .long r68), (0, .ref (a 0)), (5, .int y5_5)]) X rfl (by decide) rfl dX6_mixSingers_71 ?_
          refine g_iinc (pc := 72) (lv' := [(5, .int (y5_5 + (1 : Int32))), (3, .long r68), (0, .ref (a 0))]) X 2 rfl rfl (by decide) rfl dX6_mixSingers_72 ?_
          refine g_goto (pc := 75) (tgt := 5) X (by decide) dX6_mixSingers_75 ?_
          exact g_lv (ih r68 (y5_5 + (1 : Int32)) h) [2, 1, 0] rfl
        have L20 : ∀ (n : Nat) (y3_20 : Int64) (y6_20 : Int32), lq2 (F_X6_mixSingers_20 y5_5 σ (E_X6_mixSingers_20 y5_5 σ rec5)) n y3_20 y6_20 → GPl p l e ({ frames := 2, cells := 0, slots := 0, locals := 43 } : Room) s m args below meth c K 7 D (wC cI cZ cS a) 20 [(0, .ref (a 0)), (3, .long y3_20), (5, .int y5_5), (6, .int y6_20)] [] σ := by
          intro n
          induction n with
          | zero =>
            intro y3_20 y6_20 h
            exact h.elim
          | succ n ih =>
            intro y3_20 y6_20 h
            have h : F_X6_mixSingers_20 y5_5 σ (E_X6_mixSingers_20 y5_5 σ rec5) (lq2 (F_X6_mixSingers_20 y5_5 σ (E_X6_mixSingers_20 y5_5 σ rec5)) n) y3_20 y6_20 := h
            refine g_iload (pc := 20) X 3 rfl dX6_mixSingers_20 ?_
            refine g_iconst (pc := 22) X ic_3 dX6_mixSingers_22 ?_
            refine g_icmp_gt (pc := 23) (tgt := 46) X (by decide) dX6_mixSingers_23 (fun c_23 => ?_) (fun c_23 => ?_)
            · have h := ite_t c_23 h
              exact g_lv (X46 y3_20 h) [0, 1, 2] rfl
            · have h := ite_f c_23 h
              refine g_lload_n (pc := 26) X rfl 1 rfl dX6_mixSingers_26 ?_
              refine g_aload_n (pc := 27) X rfl 0 rfl dX6_mixSingers_27 ?_
              refine g_iload (pc := 28) X 2 rfl dX6_mixSingers_28 ?_
              refine g_iload (pc := 30) X 3 rfl dX6_mixSingers_30 ?_
              refine g_cVPi (pc := 32) (As := [.int y5_5, .int y6_20]) X hK hR mi_X6_singer (c_X6_singer y5_5 y6_20 σ _) (wl_ate (oX6 (cI := cI) (cZ := cZ) (cS := cS) (a := a) k_isTop_0).1 ((oX6 (cI := cI) (cZ := cZ) (cS := cS) (a := a) k_isTop_0).2 _)) rfl rfl kw3_110 ⟨rfl, rfl⟩ ⟨Nat.le_of_ble_eq_true rfl, Nat.le_of_ble_eq_true rfl⟩ rfl (Nat.le_of_ble_eq_true rfl) dX6_mixSingers_32 rfl h (fun r32 h => ?_)
              refine g_i2l (pc := 35) X dX6_mixSingers_35 ?_
              refine g_cS0l (pc := 36) (As := [.long y3_20, .long (r32).toInt64]) X mi_X6_mix (c_X6_mix y3_20 (r32).toInt64 _) kw3_101 ⟨rfl, rfl⟩ ⟨Nat.le_of_ble_eq_true rfl, Nat.le_of_ble_eq_true rfl⟩ rfl (Nat.le_of_ble_eq_true rfl) dX6_mixSingers_36 rfl h (fun r36 h => ?_)
              refine g_lstore_n (pc := 39) (lv' := [(3, .long r36), (0, .ref (a 0)), (5, .int y5_5), (6, .int y6_20)]) X rfl (by decide) rfl dX6_mixSingers_39 ?_
              refine g_iinc (pc := 40) (lv' := [(6, .int (y6_20 + (1 : Int32))), (3, .long r36), (0, .ref (a 0)), (5, .int y5_5)]) X 3 rfl rfl (by decide) rfl dX6_mixSingers_40 ?_
              refine g_goto (pc := 43) (tgt := 20) X (by decide) dX6_mixSingers_43 ?_
              exact g_lv (ih r36 (y6_20 + (1 : Int32)) h) [2, 1, 3, 0] rfl
        exact g_lv (L20 n20 y3_5 (0 : Int32) h) [1, 2, 3, 0] rfl
  exact g_lv (L5 n5 x1 (0 : Int32) h) [2, 1, 0] rfl
set_option maxRecDepth 20000 in
theorem c_X6_mixBars (x1 : Int64) (σ : Sg) (K : Int64 → Prop) : Met l yX6_mixBars (.code yX6_mixBars cX6_mixBars 7 (some .long) :: AW) ({ frames := 5, cells := 0, slots := 0, locals := 117 } : Room) (pvP D (tyC cI cZ cS) (wC cI cZ cS a σ) (w_X6_mixBars x1 σ K) [.ref (a 0), .long x1]) (vp_Sl K) 0 0 (fun _ => False) := by
  refine met_Pl (own := "TrainNote") (lv := [(0, .ref (a 0)), (1, .long x1)]) (by decide +kernel) rfl (Nat.le_of_ble_eq_true rfl) rfl ?_
  intro p e s m args below meth c X hK hr hlk h
  have hR : ∀ σ H locs, hpP D (wC cI cZ cS a) s σ H locs → va_P D vwCl ((wC cI cZ cS a σ)) H := fun _ _ _ h => h.1
  refine g_lload_n (pc := 0) X rfl 1 rfl dX6_mixBars_0 ?_
  refine g_lstore_n (pc := 1) (lv' := [(3, .long x1), (0, .ref (a 0)), (1, .long x1)]) X rfl (by decide) rfl dX6_mixBars_1 ?_
  refine g_iconst (pc := 2) X ic_0 dX6_mixBars_2 ?_
  refine g_istore (pc := 3) (lv' := [(5, .int (0 : Int32)), (3, .long x1), (0, .ref (a 0)), (1, .long x1)]) X (by decide) rfl dX6_mixBars_3 ?_
  obtain ⟨n5, h⟩ := h
  have X70 : ∀ (u3_70 : Int64), E_X6_mixBars_5 σ K u3_70 → GPl p l e ({ frames := 5, cells := 0, slots := 0, locals := 117 } : Room) s m args below meth c K 7 D (wC cI cZ cS a) 70 [(0, .ref (a 0)), (3, .long u3_70)] [] σ := by
    intro u3_70 h
    refine g_iconst (pc := 70) X ic_0 dX6_mixBars_70 ?_
    refine g_istore (pc := 71) (lv' := [(5, .int (0 : Int32)), (0, .ref (a 0)), (3, .long u3_70)]) X (by decide) rfl dX6_mixBars_71 ?_
    obtain ⟨n73, h⟩ := h
    have X120 : ∀ (u3_120 : Int64), E_X6_mixBars_73 K u3_120 → GPl p l e ({ frames := 5, cells := 0, slots := 0, locals := 117 } : Room) s m args below meth c K 7 D (wC cI cZ cS a) 120 [(3, .long u3_120)] [] σ := by
      intro u3_120 h
      refine g_lload_n (pc := 120) X rfl 0 rfl dX6_mixBars_120 ?_
      exact g_retPl (pc := 121) X hr hlk dX6_mixBars_121 h
    have L73 : ∀ (n : Nat) (y3_73 : Int64) (y5_73 : Int32), lq2 (F_X6_mixBars_73 σ (E_X6_mixBars_73 K)) n y3_73 y5_73 → GPl p l e ({ frames := 5, cells := 0, slots := 0, locals := 117 } : Room) s m args below meth c K 7 D (wC cI cZ cS a) 73 [(0, .ref (a 0)), (3, .long y3_73), (5, .int y5_73)] [] σ := by
      intro n
      induction n with
      | zero =>
        intro y3_73 y5_73 h
        exact h.elim
      | succ n ih =>
        intro y3_73 y5_73 h
        have h : F_X6_mixBars_73 σ (E_X6_mixBars_73 K) (lq2 (F_X6_mixBars_73 σ (E_X6_mixBars_73 K)) n) y3_73 y5_73 := h
        generalize lq2 (F_X6_mixBars_73 σ (E_X6_mixBars_73 K)) n = rec73 at h ih
        refine g_iload (pc := 73) X 2 rfl dX6_mixBars_73 ?_
        refine g_aload_n (pc := 75) X rfl 0 rfl dX6_mixBars_75 ?_
        refine fX6_34 (pc := 76) X hK hR k_isTop_0 dX6_mixBars_76 ?_
        refine fX6_120 (pc := 79) X hK hR k_isSo_23 dX6_mixBars_79 ?_
        refine g_icmp_ge (pc := 82) (tgt := 120) X (by decide) dX6_mixBars_82 (fun c_82 => ?_) (fun c_82 => ?_)
        · have h := ite_t c_82 h
          exact g_lv (X120 y3_73 h) [1] rfl
        · have h := ite_f c_82 h
          refine g_iconst (pc := 85) X ic_0 dX6_mixBars_85 ?_
          refine g_istore (pc := 86) (lv' := [(6, .int (0 : Int32)), (0, .ref (a 0)), (3, .long y3_73), (5, .int y5_73)]) X (by decide) rfl dX6_mixBars_86 ?_
          obtain ⟨n88, h⟩ := h
          have X114 : ∀ (u3_114 : Int64), E_X6_mixBars_88 rec73 y5_73 u3_114 → GPl p l e ({ frames := 5, cells := 0, slots := 0, locals := 117 } : Room) s m args below meth c K 7 D (wC cI cZ cS a) 114 [(0, .ref (a 0)), (3, .long u3_114), (5, .int y5_73)] [] σ := by
            intro u3_114 h
            refine g_iinc (pc := 114) (lv' := [(5, .int (y5_73 + (1 : Int32))), (0, .ref (a 0)), (3, .long u3_114)]) X 2 rfl rfl (by decide) rfl dX6_mixBars_114 ?_
            refine g_goto (pc := 117) (tgt := 73) X (by decide) dX6_mixBars_117 ?_
            exact g_lv (ih u3_114 (y5_73 + (1 : Int32)) h) [1, 2, 0] rfl
          have L88 : ∀ (n : Nat) (y3_88 : Int64) (y6_88 : Int32), lq2 (F_X6_mixBars_88 y5_73 σ (E_X6_mixBars_88 rec73 y5_73)) n y3_88 y6_88 → GPl p l e ({ frames := 5, cells := 0, slots := 0, locals := 117 } : Room) s m args below meth c K 7 D (wC cI cZ cS a) 88 [(0, .ref (a 0)), (3, .long y3_88), (5, .int y5_73), (6, .int y6_88)] [] σ := by
            intro n
            induction n with
            | zero =>
              intro y3_88 y6_88 h
              exact h.elim
            | succ n ih =>
              intro y3_88 y6_88 h
              have h : F_X6_mixBars_88 y5_73 σ (E_X6_mixBars_88 rec73 y5_73) (lq2 (F_X6_mixBars_88 y5_73 σ (E_X6_mixBars_88 rec73 y5_73)) n) y3_88 y6_88 := h
              refine g_iload (pc := 88) X 3 rfl dX6_mixBars_88 ?_
              refine g_iconst (pc := 90) X ic_2 dX6_mixBars_90 ?_
              refine g_icmp_gt (pc := 91) (tgt := 114) X (by decide) dX6_mixBars_91 (fun c_91 => ?_) (fun c_91 => ?_)
              · have h := ite_t c_91 h
                exact g_lv (X114 y3_88 h) [0, 1, 2] rfl
              · have h := ite_f c_91 h
                refine g_lload_n (pc := 94) X rfl 1 rfl dX6_mixBars_94 ?_
                refine g_aload_n (pc := 95) X rfl 0 rfl dX6_mixBars_95 ?_
                refine g_iload (pc := 96) X 2 rfl dX6_mixBars_96 ?_
                refine g_iload (pc := 98) X 3 rfl dX6_mixBars_98 ?_
                refine g_cVPi (pc := 100) (As := [.int y5_73, .int y6_88]) X hK hR mi_X6_chord (c_X6_chord y5_73 y6_88 σ _) (wl_ate (oX6 (cI := cI) (cZ := cZ) (cS := cS) (a := a) k_isTop_0).1 ((oX6 (cI := cI) (cZ := cZ) (cS := cS) (a := a) k_isTop_0).2 _)) rfl rfl kw3_118 ⟨rfl, rfl⟩ ⟨Nat.le_of_ble_eq_true rfl, Nat.le_of_ble_eq_true rfl⟩ rfl (Nat.le_of_ble_eq_true rfl) dX6_mixBars_100 rfl h (fun r100 h => ?_)
                refine g_i2l (pc := 103) X dX6_mixBars_103 ?_
                refine g_cS0l (pc := 104) (As := [.long y3_88, .long (r100).toInt64]) X mi_X6_mix (c_X6_mix y3_88 (r100).toInt64 _) kw3_101 ⟨rfl, rfl⟩ ⟨Nat.le_of_ble_eq_true rfl, Nat.le_of_ble_eq_true rfl⟩ rfl (Nat.le_of_ble_eq_true rfl) dX6_mixBars_104 rfl h (fun r104 h => ?_)
                refine g_lstore_n (pc := 107) (lv' := [(3, .long r104), (0, .ref (a 0)), (5, .int y5_73), (6, .int y6_88)]) X rfl (by decide) rfl dX6_mixBars_107 ?_
                refine g_iinc (pc := 108) (lv' := [(6, .int (y6_88 + (1 : Int32))), (3, .long r104), (0, .ref (a 0)), (5, .int y5_73)]) X 3 rfl rfl (by decide) rfl dX6_mixBars_108 ?_
                refine g_goto (pc := 111) (tgt := 88) X (by decide) dX6_mixBars_111 ?_
                exact g_lv (ih r104 (y6_88 + (1 : Int32)) h) [2, 1, 3, 0] rfl
          exact g_lv (L88 n88 y3_73 (0 : Int32) h) [1, 2, 3, 0] rfl
    exact g_lv (L73 n73 u3_70 (0 : Int32) h) [1, 2, 0] rfl
  have L5 : ∀ (n : Nat) (y3_5 : Int64) (y5_5 : Int32), lq2 (F_X6_mixBars_5 σ (E_X6_mixBars_5 σ K)) n y3_5 y5_5 → GPl p l e ({ frames := 5, cells := 0, slots := 0, locals := 117 } : Room) s m args below meth c K 7 D (wC cI cZ cS a) 5 [(0, .ref (a 0)), (3, .long y3_5), (5, .int y5_5)] [] σ := by
    intro n
    induction n with
    | zero =>
      intro y3_5 y5_5 h
      exact h.elim
    | succ n ih =>
      intro y3_5 y5_5 h
      have h : F_X6_mixBars_5 σ (E_X6_mixBars_5 σ K) (lq2 (F_X6_mixBars_5 σ (E_X6_mixBars_5 σ K)) n) y3_5 y5_5 := h
      generalize lq2 (F_X6_mixBars_5 σ (E_X6_mixBars_5 σ K)) n = rec5 at h ih
      refine g_iload (pc := 5) X 2 rfl dX6_mixBars_5 ?_
      refine g_aload_n (pc := 7) X rfl 0 rfl dX6_mixBars_7 ?_
      refine fX6_34 (pc := 8) X hK hR k_isTop_0 dX6_mixBars_8 ?_
      refine fX6_120 (pc := 11) X hK hR k_isSo_23 dX6_mixBars_11 ?_
      refine g_icmp_ge (pc := 14) (tgt := 70) X (by decide) dX6_mixBars_14 (fun c_14 => ?_) (fun c_14 => ?_)
      · have h := ite_t c_14 h
        exact g_lv (X70 y3_5 h) [0, 1] rfl
      · have h := ite_f c_14 h
        refine g_lload_n (pc := 17) X rfl 1 rfl dX6_mixBars_17 ?_
        refine g_aload_n (pc := 18) X rfl 0 rfl dX6_mixBars_18 ?_
        refine g_iload (pc := 19) X 2 rfl dX6_mixBars_19 ?_
        refine g_cVPi (pc := 21) (As := [.int y5_5]) X hK hR mi_X6_bar (c_X6_bar y5_5 σ _) (wl_ate (oX6 (cI := cI) (cZ := cZ) (cS := cS) (a := a) k_isTop_0).1 ((oX6 (cI := cI) (cZ := cZ) (cS := cS) (a := a) k_isTop_0).2 _)) rfl rfl kw3_116 ⟨rfl, rfl⟩ ⟨Nat.le_of_ble_eq_true rfl, Nat.le_of_ble_eq_true rfl⟩ rfl (Nat.le_of_ble_eq_true rfl) dX6_mixBars_21 rfl h (fun r21 h => ?_)
        refine g_i2l (pc := 24) X dX6_mixBars_24 ?_
        refine g_cS0l (pc := 25) (As := [.long y3_5, .long (r21).toInt64]) X mi_X6_mix (c_X6_mix y3_5 (r21).toInt64 _) kw3_101 ⟨rfl, rfl⟩ ⟨Nat.le_of_ble_eq_true rfl, Nat.le_of_ble_eq_true rfl⟩ rfl (Nat.le_of_ble_eq_true rfl) dX6_mixBars_25 rfl h (fun r25 h => ?_)
        refine g_lstore_n (pc := 28) (lv' := [(3, .long r25), (0, .ref (a 0)), (5, .int y5_5)]) X rfl (by decide) rfl dX6_mixBars_28 ?_
        refine g_iconst (pc := 29) X ic_0 dX6_mixBars_29 ?_
        refine g_istore (pc := 30) (lv' := [(6, .int (0 : Int32)), (3, .long r25), (0, .ref (a 0)), (5, .int y5_5)]) X (by decide) rfl dX6_mixBars_30 ?_
        obtain ⟨n32, h⟩ := h
        have X64 : ∀ (u3_64 : Int64), E_X6_mixBars_32 rec5 y5_5 u3_64 → GPl p l e ({ frames := 5, cells := 0, slots := 0, locals := 117 } : Room) s m args below meth c K 7 D (wC cI cZ cS a) 64 [(0, .ref (a 0)), (3, .long u3_64), (5, .int y5_5)] [] σ := by
          intro u3_64 h
          refine g_iinc (pc := 64) (lv' := [(5, .int (y5_5 + (1 : Int32))), (0, .ref (a 0)), (3, .long u3_64)]) X 2 rfl rfl (by decide) rfl dX6_mixBars_64 ?_
          refine g_goto (pc := 67) (tgt := 5) X (by decide) dX6_mixBars_67 ?_
          exact g_lv (ih u3_64 (y5_5 + (1 : Int32)) h) [1, 2, 0] rfl
        have L32 : ∀ (n : Nat) (y3_32 : Int64) (y6_32 : Int32), lq2 (F_X6_mixBars_32 σ y5_5 (E_X6_mixBars_32 rec5 y5_5)) n y3_32 y6_32 → GPl p l e ({ frames := 5, cells := 0, slots := 0, locals := 117 } : Room) s m args below meth c K 7 D (wC cI cZ cS a) 32 [(0, .ref (a 0)), (3, .long y3_32), (5, .int y5_5), (6, .int y6_32)] [] σ := by
          intro n
          induction n with
          | zero =>
            intro y3_32 y6_32 h
            exact h.elim
          | succ n ih =>
            intro y3_32 y6_32 h
            have h : F_X6_mixBars_32 σ y5_5 (E_X6_mixBars_32 rec5 y5_5) (lq2 (F_X6_mixBars_32 σ y5_5 (E_X6_mixBars_32 rec5 y5_5)) n) y3_32 y6_32 := h
            refine g_iload (pc := 32) X 3 rfl dX6_mixBars_32 ?_
            refine g_aload_n (pc := 34) X rfl 0 rfl dX6_mixBars_34 ?_
            refine fX6_24 (pc := 35) X hK hR k_isTop_0 dX6_mixBars_35 ?_
            refine fX6_165 (pc := 38) X hK hR k_isCh_5 dX6_mixBars_38 ?_
            refine g_icmp_ge (pc := 41) (tgt := 64) X (by decide) dX6_mixBars_41 (fun c_41 => ?_) (fun c_41 => ?_)
            · have h := ite_t c_41 h
              exact g_lv (X64 y3_32 h) [0, 1, 2] rfl
            · have h := ite_f c_41 h
              refine g_lload_n (pc := 44) X rfl 1 rfl dX6_mixBars_44 ?_
              refine g_aload_n (pc := 45) X rfl 0 rfl dX6_mixBars_45 ?_
              refine g_iload (pc := 46) X 3 rfl dX6_mixBars_46 ?_
              refine g_iload (pc := 48) X 2 rfl dX6_mixBars_48 ?_
              refine g_cVPi (pc := 50) (As := [.int y6_32, .int y5_5]) X hK hR mi_X6_note (c_X6_note y6_32 y5_5 σ _) (wl_ate (oX6 (cI := cI) (cZ := cZ) (cS := cS) (a := a) k_isTop_0).1 ((oX6 (cI := cI) (cZ := cZ) (cS := cS) (a := a) k_isTop_0).2 _)) rfl rfl kw3_117 ⟨rfl, rfl⟩ ⟨Nat.le_of_ble_eq_true rfl, Nat.le_of_ble_eq_true rfl⟩ rfl (Nat.le_of_ble_eq_true rfl) dX6_mixBars_50 rfl h (fun r50 h => ?_)
              refine g_i2l (pc := 53) X dX6_mixBars_53 ?_
              refine g_cS0l (pc := 54) (As := [.long y3_32, .long (r50).toInt64]) X mi_X6_mix (c_X6_mix y3_32 (r50).toInt64 _) kw3_101 ⟨rfl, rfl⟩ ⟨Nat.le_of_ble_eq_true rfl, Nat.le_of_ble_eq_true rfl⟩ rfl (Nat.le_of_ble_eq_true rfl) dX6_mixBars_54 rfl h (fun r54 h => ?_)
              refine g_lstore_n (pc := 57) (lv' := [(3, .long r54), (0, .ref (a 0)), (5, .int y5_5), (6, .int y6_32)]) X rfl (by decide) rfl dX6_mixBars_57 ?_
              refine g_iinc (pc := 58) (lv' := [(6, .int (y6_32 + (1 : Int32))), (3, .long r54), (0, .ref (a 0)), (5, .int y5_5)]) X 3 rfl rfl (by decide) rfl dX6_mixBars_58 ?_
              refine g_goto (pc := 61) (tgt := 32) X (by decide) dX6_mixBars_61 ?_
              exact g_lv (ih r54 (y6_32 + (1 : Int32)) h) [2, 1, 3, 0] rfl
        exact g_lv (L32 n32 r25 (0 : Int32) h) [2, 1, 3, 0] rfl
  exact g_lv (L5 n5 x1 (0 : Int32) h) [2, 1, 0] rfl
set_option maxRecDepth 20000 in
theorem c_X6_digest (σ : Sg) (K : Int64 → Sg → Prop) : ∀ sz, Met l yX6_digest (.code yX6_digest cX6_digest 4 (some .long) :: AW) ({ frames := 6, cells := 0, slots := 0, locals := 152 } : Room) (pvM D (tyC cI cZ cS) (SXC tS tF) (wC cI cZ cS a σ) sz (w_X6_digest σ K) [.ref (a 0)]) (va_Ql K (atM D (tyC cI cZ cS) (wC cI cZ cS a) (va_A (wC cI cZ cS a σ) sz)) (va_A (wC cI cZ cS a σ) sz)) 0 0 (va_A (wC cI cZ cS a σ) sz) := by
  intro sz
  refine met_Ml (own := "TrainNote") (lv := [(0, .ref (a 0))]) (by decide +kernel) rfl (Nat.le_of_ble_eq_true rfl) rfl ?_
  intro p e s m args below meth c A X hK hX hA hr hlk h
  have hR : ∀ σ H locs, hpM D (wC cI cZ cS a) A s σ H locs → va_P D vwCl ((wC cI cZ cS a σ)) H := fun _ _ _ h => h.1
  have hok := SXC_ok tS tF
  refine g_ldc2 (pc := 0) X kw3_99 dX6_digest_0 ?_
  refine g_lstore_n (pc := 3) (lv' := [(1, .long (17 : Int64)), (0, .ref (a 0))]) X rfl (by decide) rfl dX6_digest_3 ?_
  refine g_iconst (pc := 4) X ic_0 dX6_digest_4 ?_
  refine g_istore_n (pc := 5) (lv' := [(3, .int (0 : Int32)), (1, .long (17 : Int64)), (0, .ref (a 0))]) X rfl (by decide) rfl dX6_digest_5 ?_
  obtain ⟨n6, h⟩ := h
  have X29 : ∀ (u1_29 : Int64), E_X6_digest_6 σ K u1_29 → GMl p l e ({ frames := 6, cells := 0, slots := 0, locals := 152 } : Room) s m args below meth c K 4 D (tyC cI cZ cS) (wC cI cZ cS a) A 29 [(0, .ref (a 0)), (1, .long u1_29)] [] σ := by
    intro u1_29 h
    refine g_lload_n (pc := 29) X rfl 1 rfl dX6_digest_29 ?_
    refine g_aload_n (pc := 30) X rfl 0 rfl dX6_digest_30 ?_
    refine g_iconst (pc := 31) X ic_0 dX6_digest_31 ?_
    refine g_cVPi (pc := 32) (As := [.int (0 : Int32)]) X hK hR mi_X6_fault (c_X6_fault (0 : Int32) σ _) (wl_ate (oX6 (cI := cI) (cZ := cZ) (cS := cS) (a := a) k_isTop_0).1 ((oX6 (cI := cI) (cZ := cZ) (cS := cS) (a := a) k_isTop_0).2 _)) rfl rfl kw3_105 ⟨rfl, rfl⟩ ⟨Nat.le_of_ble_eq_true rfl, Nat.le_of_ble_eq_true rfl⟩ rfl (Nat.le_of_ble_eq_true rfl) dX6_digest_32 rfl h (fun r32 h => ?_)
    refine g_i2l (pc := 35) X dX6_digest_35 ?_
    refine g_cS0l (pc := 36) (As := [.long u1_29, .long (r32).toInt64]) X mi_X6_mix (c_X6_mix u1_29 (r32).toInt64 _) kw3_101 ⟨rfl, rfl⟩ ⟨Nat.le_of_ble_eq_true rfl, Nat.le_of_ble_eq_true rfl⟩ rfl (Nat.le_of_ble_eq_true rfl) dX6_digest_36 rfl h (fun r36 h => ?_)
    refine g_lstore_n (pc := 39) (lv' := [(1, .long r36), (0, .ref (a 0))]) X rfl (by decide) rfl dX6_digest_39 ?_
    refine g_lload_n (pc := 40) X rfl 0 rfl dX6_digest_40 ?_
    refine g_aload_n (pc := 41) X rfl 1 rfl dX6_digest_41 ?_
    refine g_iconst (pc := 42) X ic_1 dX6_digest_42 ?_
    refine g_cVPi (pc := 43) (As := [.int (1 : Int32)]) X hK hR mi_X6_fault (c_X6_fault (1 : Int32) σ _) (wl_ate (oX6 (cI := cI) (cZ := cZ) (cS := cS) (a := a) k_isTop_0).1 ((oX6 (cI := cI) (cZ := cZ) (cS := cS) (a := a) k_isTop_0).2 _)) rfl rfl kw3_105 ⟨rfl, rfl⟩ ⟨Nat.le_of_ble_eq_true rfl, Nat.le_of_ble_eq_true rfl⟩ rfl (Nat.le_of_ble_eq_true rfl) dX6_digest_43 rfl h (fun r43 h => ?_)
    refine g_i2l (pc := 46) X dX6_digest_46 ?_
    refine g_cS0l (pc := 47) (As := [.long r36, .long (r43).toInt64]) X mi_X6_mix (c_X6_mix r36 (r43).toInt64 _) kw3_101 ⟨rfl, rfl⟩ ⟨Nat.le_of_ble_eq_true rfl, Nat.le_of_ble_eq_true rfl⟩ rfl (Nat.le_of_ble_eq_true rfl) dX6_digest_47 rfl h (fun r47 h => ?_)
    refine g_lstore_n (pc := 50) (lv' := [(1, .long r47), (0, .ref (a 0))]) X rfl (by decide) rfl dX6_digest_50 ?_
    refine g_aload_n (pc := 51) X rfl 1 rfl dX6_digest_51 ?_
    refine g_lload_n (pc := 52) X rfl 0 rfl dX6_digest_52 ?_
    refine g_cVPl (pc := 53) (As := [.long r47]) X hK hR mi_X6_mixSingers (c_X6_mixSingers r47 σ _) (wl_ate (oX6 (cI := cI) (cZ := cZ) (cS := cS) (a := a) k_isTop_0).1 ((oX6 (cI := cI) (cZ := cZ) (cS := cS) (a := a) k_isTop_0).2 _)) rfl rfl kw3_106 ⟨rfl, rfl⟩ ⟨Nat.le_of_ble_eq_true rfl, Nat.le_of_ble_eq_true rfl⟩ rfl (Nat.le_of_ble_eq_true rfl) dX6_digest_53 rfl h (fun r53 h => ?_)
    refine g_lstore_n (pc := 56) (lv' := [(1, .long r53), (0, .ref (a 0))]) X rfl (by decide) rfl dX6_digest_56 ?_
    refine g_aload_n (pc := 57) X rfl 1 rfl dX6_digest_57 ?_
    refine g_lload_n (pc := 58) X rfl 0 rfl dX6_digest_58 ?_
    refine g_cVPl (pc := 59) (As := [.long r53]) X hK hR mi_X6_mixBars (c_X6_mixBars r53 σ _) (wl_ate (oX6 (cI := cI) (cZ := cZ) (cS := cS) (a := a) k_isTop_0).1 ((oX6 (cI := cI) (cZ := cZ) (cS := cS) (a := a) k_isTop_0).2 _)) rfl rfl kw3_112 ⟨rfl, rfl⟩ ⟨Nat.le_of_ble_eq_true rfl, Nat.le_of_ble_eq_true rfl⟩ rfl (Nat.le_of_ble_eq_true rfl) dX6_digest_59 rfl h (fun r59 h => ?_)
    refine g_lstore_n (pc := 62) (lv' := [(1, .long r59), (0, .ref (a 0))]) X rfl (by decide) rfl dX6_digest_62 ?_
    refine g_lload_n (pc := 63) X rfl 0 rfl dX6_digest_63 ?_
    refine g_aload_n (pc := 64) X rfl 1 rfl dX6_digest_64 ?_
    refine g_iconst (pc := 65) X ic_0 dX6_digest_65 ?_
    refine g_cVPi (pc := 66) (As := [.int (0 : Int32)]) X hK hR mi_X6_whistle (c_X6_whistle (0 : Int32) σ _) (wl_ate (oX6 (cI := cI) (cZ := cZ) (cS := cS) (a := a) k_isTop_0).1 ((oX6 (cI := cI) (cZ := cZ) (cS := cS) (a := a) k_isTop_0).2 _)) rfl rfl kw3_119 ⟨rfl, rfl⟩ ⟨Nat.le_of_ble_eq_true rfl, Nat.le_of_ble_eq_true rfl⟩ rfl (Nat.le_of_ble_eq_true rfl) dX6_digest_66 rfl h (fun r66 h => ?_)
    refine g_i2l (pc := 69) X dX6_digest_69 ?_
    refine g_cS0l (pc := 70) (As := [.long r59, .long (r66).toInt64]) X mi_X6_mix (c_X6_mix r59 (r66).toInt64 _) kw3_101 ⟨rfl, rfl⟩ ⟨Nat.le_of_ble_eq_true rfl, Nat.le_of_ble_eq_true rfl⟩ rfl (Nat.le_of_ble_eq_true rfl) dX6_digest_70 rfl h (fun r70 h => ?_)
    refine g_lstore_n (pc := 73) (lv' := [(1, .long r70), (0, .ref (a 0))]) X rfl (by decide) rfl dX6_digest_73 ?_
    refine g_lload_n (pc := 74) X rfl 0 rfl dX6_digest_74 ?_
    refine g_aload_n (pc := 75) X rfl 1 rfl dX6_digest_75 ?_
    refine g_bipush (pc := 76) X bp_9 dX6_digest_76 ?_
    refine g_cVPi (pc := 78) (As := [.int (9 : Int32)]) X hK hR mi_X6_whistle (c_X6_whistle (9 : Int32) σ _) (wl_ate (oX6 (cI := cI) (cZ := cZ) (cS := cS) (a := a) k_isTop_0).1 ((oX6 (cI := cI) (cZ := cZ) (cS := cS) (a := a) k_isTop_0).2 _)) rfl rfl kw3_119 ⟨rfl, rfl⟩ ⟨Nat.le_of_ble_eq_true rfl, Nat.le_of_ble_eq_true rfl⟩ rfl (Nat.le_of_ble_eq_true rfl) dX6_digest_78 rfl h (fun r78 h => ?_)
    refine g_i2l (pc := 81) X dX6_digest_81 ?_
    refine g_cS0l (pc := 82) (As := [.long r70, .long (r78).toInt64]) X mi_X6_mix (c_X6_mix r70 (r78).toInt64 _) kw3_101 ⟨rfl, rfl⟩ ⟨Nat.le_of_ble_eq_true rfl, Nat.le_of_ble_eq_true rfl⟩ rfl (Nat.le_of_ble_eq_true rfl) dX6_digest_82 rfl h (fun r82 h => ?_)
    refine g_lstore_n (pc := 85) (lv' := [(1, .long r82), (0, .ref (a 0))]) X rfl (by decide) rfl dX6_digest_85 ?_
    refine g_lload_n (pc := 86) X rfl 0 rfl dX6_digest_86 ?_
    refine g_aload_n (pc := 87) X rfl 1 rfl dX6_digest_87 ?_
    refine g_iconst (pc := 88) X ic_0 dX6_digest_88 ?_
    refine g_cVPi (pc := 89) (As := [.int (0 : Int32)]) X hK hR mi_X6_open (c_X6_open (0 : Int32) σ _) (wl_ate (oX6 (cI := cI) (cZ := cZ) (cS := cS) (a := a) k_isTop_0).1 ((oX6 (cI := cI) (cZ := cZ) (cS := cS) (a := a) k_isTop_0).2 _)) rfl rfl kw3_120 ⟨rfl, rfl⟩ ⟨Nat.le_of_ble_eq_true rfl, Nat.le_of_ble_eq_true rfl⟩ rfl (Nat.le_of_ble_eq_true rfl) dX6_digest_89 rfl h (fun r89 h => ?_)
    refine g_i2l (pc := 92) X dX6_digest_92 ?_
    refine g_cS0l (pc := 93) (As := [.long r82, .long (r89).toInt64]) X mi_X6_mix (c_X6_mix r82 (r89).toInt64 _) kw3_101 ⟨rfl, rfl⟩ ⟨Nat.le_of_ble_eq_true rfl, Nat.le_of_ble_eq_true rfl⟩ rfl (Nat.le_of_ble_eq_true rfl) dX6_digest_93 rfl h (fun r93 h => ?_)
    refine g_lstore_n (pc := 96) (lv' := [(1, .long r93), (0, .ref (a 0))]) X rfl (by decide) rfl dX6_digest_96 ?_
    refine g_lload_n (pc := 97) X rfl 0 rfl dX6_digest_97 ?_
    refine g_aload_n (pc := 98) X rfl 1 rfl dX6_digest_98 ?_
    refine g_iconst (pc := 99) X ic_1 dX6_digest_99 ?_
    refine g_cVPi (pc := 100) (As := [.int (1 : Int32)]) X hK hR mi_X6_open (c_X6_open (1 : Int32) σ _) (wl_ate (oX6 (cI := cI) (cZ := cZ) (cS := cS) (a := a) k_isTop_0).1 ((oX6 (cI := cI) (cZ := cZ) (cS := cS) (a := a) k_isTop_0).2 _)) rfl rfl kw3_120 ⟨rfl, rfl⟩ ⟨Nat.le_of_ble_eq_true rfl, Nat.le_of_ble_eq_true rfl⟩ rfl (Nat.le_of_ble_eq_true rfl) dX6_digest_100 rfl h (fun r100 h => ?_)
    refine g_i2l (pc := 103) X dX6_digest_103 ?_
    refine g_cS0l (pc := 104) (As := [.long r93, .long (r100).toInt64]) X mi_X6_mix (c_X6_mix r93 (r100).toInt64 _) kw3_101 ⟨rfl, rfl⟩ ⟨Nat.le_of_ble_eq_true rfl, Nat.le_of_ble_eq_true rfl⟩ rfl (Nat.le_of_ble_eq_true rfl) dX6_digest_104 rfl h (fun r104 h => ?_)
    refine g_lstore_n (pc := 107) (lv' := [(1, .long r104), (0, .ref (a 0))]) X rfl (by decide) rfl dX6_digest_107 ?_
    refine g_lload_n (pc := 108) X rfl 0 rfl dX6_digest_108 ?_
    refine g_aload_n (pc := 109) X rfl 1 rfl dX6_digest_109 ?_
    refine g_iconst (pc := 110) X ic_0 dX6_digest_110 ?_
    refine g_iconst (pc := 111) X ic_m1 dX6_digest_111 ?_
    refine g_cVMi (pc := 112) (As := [.int (0 : Int32), .int (-1 : Int32)]) X hK hX hok hA mi_X6_stand (c_X6_stand (0 : Int32) (-1 : Int32) σ _) (fun _ => ⟨_, wl_ate (oX6 (cI := cI) (cZ := cZ) (cS := cS) (a := a) k_isTop_0).1 ((oX6 (cI := cI) (cZ := cZ) (cS := cS) (a := a) k_isTop_0).2 _)⟩) rfl rfl kw3_121 ⟨rfl, rfl⟩ ⟨Nat.le_of_ble_eq_true rfl, Nat.le_of_ble_eq_true rfl⟩ rfl (Nat.le_of_ble_eq_true rfl) dX6_digest_112 rfl h (fun r112 τ112 h => ?_)
    refine g_i2l (pc := 115) X dX6_digest_115 ?_
    refine g_cS0l (pc := 116) (As := [.long r104, .long (r112).toInt64]) X mi_X6_mix (c_X6_mix r104 (r112).toInt64 _) kw3_101 ⟨rfl, rfl⟩ ⟨Nat.le_of_ble_eq_true rfl, Nat.le_of_ble_eq_true rfl⟩ rfl (Nat.le_of_ble_eq_true rfl) dX6_digest_116 rfl h (fun r116 h => ?_)
    refine g_lstore_n (pc := 119) (lv' := [(1, .long r116), (0, .ref (a 0))]) X rfl (by decide) rfl dX6_digest_119 ?_
    refine g_lload_n (pc := 120) X rfl 0 rfl dX6_digest_120 ?_
    refine g_aload_n (pc := 121) X rfl 1 rfl dX6_digest_121 ?_
    refine g_iconst (pc := 122) X ic_0 dX6_digest_122 ?_
    refine g_iconst (pc := 123) X ic_0 dX6_digest_123 ?_
    refine g_cVMi (pc := 124) (As := [.int (0 : Int32), .int (0 : Int32)]) X hK hX hok hA mi_X6_stand (c_X6_stand (0 : Int32) (0 : Int32) τ112 _) (fun _ => ⟨_, wl_ate (oX6 (cI := cI) (cZ := cZ) (cS := cS) (a := a) k_isTop_0).1 ((oX6 (cI := cI) (cZ := cZ) (cS := cS) (a := a) k_isTop_0).2 _)⟩) rfl rfl kw3_121 ⟨rfl, rfl⟩ ⟨Nat.le_of_ble_eq_true rfl, Nat.le_of_ble_eq_true rfl⟩ rfl (Nat.le_of_ble_eq_true rfl) dX6_digest_124 rfl h (fun r124 τ124 h => ?_)
    refine g_i2l (pc := 127) X dX6_digest_127 ?_
    refine g_cS0l (pc := 128) (As := [.long r116, .long (r124).toInt64]) X mi_X6_mix (c_X6_mix r116 (r124).toInt64 _) kw3_101 ⟨rfl, rfl⟩ ⟨Nat.le_of_ble_eq_true rfl, Nat.le_of_ble_eq_true rfl⟩ rfl (Nat.le_of_ble_eq_true rfl) dX6_digest_128 rfl h (fun r128 h => ?_)
    refine g_lstore_n (pc := 131) (lv' := [(1, .long r128), (0, .ref (a 0))]) X rfl (by decide) rfl dX6_digest_131 ?_
    refine g_lload_n (pc := 132) X rfl 0 rfl dX6_digest_132 ?_
    refine g_aload_n (pc := 133) X rfl 1 rfl dX6_digest_133 ?_
    refine g_iconst (pc := 134) X ic_0 dX6_digest_134 ?_
    refine g_iconst (pc := 135) X ic_0 dX6_digest_135 ?_
    refine g_cVPi (pc := 136) (As := [.int (0 : Int32), .int (0 : Int32)]) X hK hR mi_X6_hush (c_X6_hush (0 : Int32) (0 : Int32) τ124 _) (wl_ate (oX6 (cI := cI) (cZ := cZ) (cS := cS) (a := a) k_isTop_0).1 ((oX6 (cI := cI) (cZ := cZ) (cS := cS) (a := a) k_isTop_0).2 _)) rfl rfl kw3_122 ⟨rfl, rfl⟩ ⟨Nat.le_of_ble_eq_true rfl, Nat.le_of_ble_eq_true rfl⟩ rfl (Nat.le_of_ble_eq_true rfl) dX6_digest_136 rfl h (fun r136 h => ?_)
    refine g_i2l (pc := 139) X dX6_digest_139 ?_
    refine g_cS0l (pc := 140) (As := [.long r128, .long (r136).toInt64]) X mi_X6_mix (c_X6_mix r128 (r136).toInt64 _) kw3_101 ⟨rfl, rfl⟩ ⟨Nat.le_of_ble_eq_true rfl, Nat.le_of_ble_eq_true rfl⟩ rfl (Nat.le_of_ble_eq_true rfl) dX6_digest_140 rfl h (fun r140 h => ?_)
    refine g_lstore_n (pc := 143) (lv' := [(1, .long r140), (0, .ref (a 0))]) X rfl (by decide) rfl dX6_digest_143 ?_
    refine g_lload_n (pc := 144) X rfl 0 rfl dX6_digest_144 ?_
    refine g_aload_n (pc := 145) X rfl 1 rfl dX6_digest_145 ?_
    refine g_iconst (pc := 146) X ic_0 dX6_digest_146 ?_
    refine g_iconst (pc := 147) X ic_1 dX6_digest_147 ?_
    refine g_cVPi (pc := 148) (As := [.int (0 : Int32), .int (1 : Int32)]) X hK hR mi_X6_hush (c_X6_hush (0 : Int32) (1 : Int32) τ124 _) (wl_ate (oX6 (cI := cI) (cZ := cZ) (cS := cS) (a := a) k_isTop_0).1 ((oX6 (cI := cI) (cZ := cZ) (cS := cS) (a := a) k_isTop_0).2 _)) rfl rfl kw3_122 ⟨rfl, rfl⟩ ⟨Nat.le_of_ble_eq_true rfl, Nat.le_of_ble_eq_true rfl⟩ rfl (Nat.le_of_ble_eq_true rfl) dX6_digest_148 rfl h (fun r148 h => ?_)
    refine g_i2l (pc := 151) X dX6_digest_151 ?_
    refine g_cS0l (pc := 152) (As := [.long r140, .long (r148).toInt64]) X mi_X6_mix (c_X6_mix r140 (r148).toInt64 _) kw3_101 ⟨rfl, rfl⟩ ⟨Nat.le_of_ble_eq_true rfl, Nat.le_of_ble_eq_true rfl⟩ rfl (Nat.le_of_ble_eq_true rfl) dX6_digest_152 rfl h (fun r152 h => ?_)
    refine g_lstore_n (pc := 155) (lv' := [(1, .long r152), (0, .ref (a 0))]) X rfl (by decide) rfl dX6_digest_155 ?_
    refine g_lload_n (pc := 156) X rfl 0 rfl dX6_digest_156 ?_
    refine g_aload_n (pc := 157) X rfl 1 rfl dX6_digest_157 ?_
    refine g_iconst (pc := 158) X ic_0 dX6_digest_158 ?_
    refine g_iconst (pc := 159) X ic_0 dX6_digest_159 ?_
    refine g_cVMi (pc := 160) (As := [.int (0 : Int32), .int (0 : Int32)]) X hK hX hok hA mi_X6_drive (c_X6_drive (0 : Int32) (0 : Int32) τ124 _) (fun _ => ⟨_, wl_ate (oX6 (cI := cI) (cZ := cZ) (cS := cS) (a := a) k_isTop_0).1 ((oX6 (cI := cI) (cZ := cZ) (cS := cS) (a := a) k_isTop_0).2 _)⟩) rfl rfl kw3_123 ⟨rfl, rfl⟩ ⟨Nat.le_of_ble_eq_true rfl, Nat.le_of_ble_eq_true rfl⟩ rfl (Nat.le_of_ble_eq_true rfl) dX6_digest_160 rfl h (fun r160 τ160 h => ?_)
    refine g_i2l (pc := 163) X dX6_digest_163 ?_
    refine g_cS0l (pc := 164) (As := [.long r152, .long (r160).toInt64]) X mi_X6_mix (c_X6_mix r152 (r160).toInt64 _) kw3_101 ⟨rfl, rfl⟩ ⟨Nat.le_of_ble_eq_true rfl, Nat.le_of_ble_eq_true rfl⟩ rfl (Nat.le_of_ble_eq_true rfl) dX6_digest_164 rfl h (fun r164 h => ?_)
    refine g_lstore_n (pc := 167) (lv' := [(1, .long r164), (0, .ref (a 0))]) X rfl (by decide) rfl dX6_digest_167 ?_
    refine g_lload_n (pc := 168) X rfl 0 rfl dX6_digest_168 ?_
    refine g_aload_n (pc := 169) X rfl 1 rfl dX6_digest_169 ?_
    refine g_iconst (pc := 170) X ic_0 dX6_digest_170 ?_
    refine g_iconst (pc := 171) X ic_1 dX6_digest_171 ?_
    refine g_cVMi (pc := 172) (As := [.int (0 : Int32), .int (1 : Int32)]) X hK hX hok hA mi_X6_drive (c_X6_drive (0 : Int32) (1 : Int32) τ160 _) (fun _ => ⟨_, wl_ate (oX6 (cI := cI) (cZ := cZ) (cS := cS) (a := a) k_isTop_0).1 ((oX6 (cI := cI) (cZ := cZ) (cS := cS) (a := a) k_isTop_0).2 _)⟩) rfl rfl kw3_123 ⟨rfl, rfl⟩ ⟨Nat.le_of_ble_eq_true rfl, Nat.le_of_ble_eq_true rfl⟩ rfl (Nat.le_of_ble_eq_true rfl) dX6_digest_172 rfl h (fun r172 τ172 h => ?_)
    refine g_i2l (pc := 175) X dX6_digest_175 ?_
    refine g_cS0l (pc := 176) (As := [.long r164, .long (r172).toInt64]) X mi_X6_mix (c_X6_mix r164 (r172).toInt64 _) kw3_101 ⟨rfl, rfl⟩ ⟨Nat.le_of_ble_eq_true rfl, Nat.le_of_ble_eq_true rfl⟩ rfl (Nat.le_of_ble_eq_true rfl) dX6_digest_176 rfl h (fun r176 h => ?_)
    refine g_lstore_n (pc := 179) (lv' := [(1, .long r176), (0, .ref (a 0))]) X rfl (by decide) rfl dX6_digest_179 ?_
    refine g_lload_n (pc := 180) X rfl 0 rfl dX6_digest_180 ?_
    refine g_aload_n (pc := 181) X rfl 1 rfl dX6_digest_181 ?_
    refine g_iconst (pc := 182) X ic_3 dX6_digest_182 ?_
    refine g_iconst (pc := 183) X ic_5 dX6_digest_183 ?_
    refine g_iconst (pc := 184) X ic_0 dX6_digest_184 ?_
    refine g_iconst (pc := 185) X ic_0 dX6_digest_185 ?_
    refine g_cVMl (pc := 186) (As := [.int (3 : Int32), .int (5 : Int32), .int (0 : Int32), .int (0 : Int32)]) X hK hX hok hA mi_X6_herd (c_X6_herd (3 : Int32) (5 : Int32) (0 : Int32) (0 : Int32) τ172 _) (fun _ => ⟨_, wl_ate (oX6 (cI := cI) (cZ := cZ) (cS := cS) (a := a) k_isTop_0).1 ((oX6 (cI := cI) (cZ := cZ) (cS := cS) (a := a) k_isTop_0).2 _)⟩) rfl rfl kw3_124 ⟨rfl, rfl⟩ ⟨Nat.le_of_ble_eq_true rfl, Nat.le_of_ble_eq_true rfl⟩ rfl (Nat.le_of_ble_eq_true rfl) dX6_digest_186 rfl h (fun r186 τ186 h => ?_)
    refine g_cS0l (pc := 189) (As := [.long r176, .long r186]) X mi_X6_mix (c_X6_mix r176 r186 _) kw3_101 ⟨rfl, rfl⟩ ⟨Nat.le_of_ble_eq_true rfl, Nat.le_of_ble_eq_true rfl⟩ rfl (Nat.le_of_ble_eq_true rfl) dX6_digest_189 rfl h (fun r189 h => ?_)
    refine g_lstore_n (pc := 192) (lv' := [(1, .long r189), (0, .ref (a 0))]) X rfl (by decide) rfl dX6_digest_192 ?_
    refine g_lload_n (pc := 193) X rfl 0 rfl dX6_digest_193 ?_
    refine g_aload_n (pc := 194) X rfl 1 rfl dX6_digest_194 ?_
    refine g_iconst (pc := 195) X ic_3 dX6_digest_195 ?_
    refine g_iconst (pc := 196) X ic_5 dX6_digest_196 ?_
    refine g_iconst (pc := 197) X ic_0 dX6_digest_197 ?_
    refine g_iconst (pc := 198) X ic_1 dX6_digest_198 ?_
    refine g_cVMl (pc := 199) (As := [.int (3 : Int32), .int (5 : Int32), .int (0 : Int32), .int (1 : Int32)]) X hK hX hok hA mi_X6_herd (c_X6_herd (3 : Int32) (5 : Int32) (0 : Int32) (1 : Int32) τ186 _) (fun _ => ⟨_, wl_ate (oX6 (cI := cI) (cZ := cZ) (cS := cS) (a := a) k_isTop_0).1 ((oX6 (cI := cI) (cZ := cZ) (cS := cS) (a := a) k_isTop_0).2 _)⟩) rfl rfl kw3_124 ⟨rfl, rfl⟩ ⟨Nat.le_of_ble_eq_true rfl, Nat.le_of_ble_eq_true rfl⟩ rfl (Nat.le_of_ble_eq_true rfl) dX6_digest_199 rfl h (fun r199 τ199 h => ?_)
    refine g_cS0l (pc := 202) (As := [.long r189, .long r199]) X mi_X6_mix (c_X6_mix r189 r199 _) kw3_101 ⟨rfl, rfl⟩ ⟨Nat.le_of_ble_eq_true rfl, Nat.le_of_ble_eq_true rfl⟩ rfl (Nat.le_of_ble_eq_true rfl) dX6_digest_202 rfl h (fun r202 h => ?_)
    refine g_lstore_n (pc := 205) (lv' := [(1, .long r202), (0, .ref (a 0))]) X rfl (by decide) rfl dX6_digest_205 ?_
    refine g_lload_n (pc := 206) X rfl 0 rfl dX6_digest_206 ?_
    refine g_aload_n (pc := 207) X rfl 1 rfl dX6_digest_207 ?_
    refine g_bipush (pc := 208) X bp_7 dX6_digest_208 ?_
    refine g_bipush (pc := 210) X bp_20 dX6_digest_210 ?_
    refine g_iconst (pc := 212) X ic_0 dX6_digest_212 ?_
    refine g_cVMi (pc := 213) (As := [.int (7 : Int32), .int (20 : Int32), .int (0 : Int32)]) X hK hX hok hA mi_X6_times (c_X6_times (7 : Int32) (20 : Int32) (0 : Int32) τ199 _) (fun _ => ⟨_, wl_ate (oX6 (cI := cI) (cZ := cZ) (cS := cS) (a := a) k_isTop_0).1 ((oX6 (cI := cI) (cZ := cZ) (cS := cS) (a := a) k_isTop_0).2 _)⟩) rfl rfl kw3_125 ⟨rfl, rfl⟩ ⟨Nat.le_of_ble_eq_true rfl, Nat.le_of_ble_eq_true rfl⟩ rfl (Nat.le_of_ble_eq_true rfl) dX6_digest_213 rfl h (fun r213 τ213 h => ?_)
    refine g_i2l (pc := 216) X dX6_digest_216 ?_
    refine g_cS0l (pc := 217) (As := [.long r202, .long (r213).toInt64]) X mi_X6_mix (c_X6_mix r202 (r213).toInt64 _) kw3_101 ⟨rfl, rfl⟩ ⟨Nat.le_of_ble_eq_true rfl, Nat.le_of_ble_eq_true rfl⟩ rfl (Nat.le_of_ble_eq_true rfl) dX6_digest_217 rfl h (fun r217 h => ?_)
    refine g_lstore_n (pc := 220) (lv' := [(1, .long r217), (0, .ref (a 0))]) X rfl (by decide) rfl dX6_digest_220 ?_
    refine g_lload_n (pc := 221) X rfl 0 rfl dX6_digest_221 ?_
    refine g_aload_n (pc := 222) X rfl 1 rfl dX6_digest_222 ?_
    refine g_iconst (pc := 223) X ic_m1 dX6_digest_223 ?_
    refine g_cVMi (pc := 224) (As := [.int (-1 : Int32)]) X hK hX hok hA mi_X6_speeds (c_X6_speeds (-1 : Int32) τ213 _) (fun _ => ⟨_, wl_ate (oX6 (cI := cI) (cZ := cZ) (cS := cS) (a := a) k_isTop_0).1 ((oX6 (cI := cI) (cZ := cZ) (cS := cS) (a := a) k_isTop_0).2 _)⟩) rfl rfl kw3_126 ⟨rfl, rfl⟩ ⟨Nat.le_of_ble_eq_true rfl, Nat.le_of_ble_eq_true rfl⟩ rfl (Nat.le_of_ble_eq_true rfl) dX6_digest_224 rfl h (fun r224 τ224 h => ?_)
    refine g_i2l (pc := 227) X dX6_digest_227 ?_
    refine g_cS0l (pc := 228) (As := [.long r217, .long (r224).toInt64]) X mi_X6_mix (c_X6_mix r217 (r224).toInt64 _) kw3_101 ⟨rfl, rfl⟩ ⟨Nat.le_of_ble_eq_true rfl, Nat.le_of_ble_eq_true rfl⟩ rfl (Nat.le_of_ble_eq_true rfl) dX6_digest_228 rfl h (fun r228 h => ?_)
    refine g_lstore_n (pc := 231) (lv' := [(1, .long r228), (0, .ref (a 0))]) X rfl (by decide) rfl dX6_digest_231 ?_
    refine g_lload_n (pc := 232) X rfl 0 rfl dX6_digest_232 ?_
    refine g_aload_n (pc := 233) X rfl 1 rfl dX6_digest_233 ?_
    refine g_iconst (pc := 234) X ic_0 dX6_digest_234 ?_
    refine g_cVMi (pc := 235) (As := [.int (0 : Int32)]) X hK hX hok hA mi_X6_speeds (c_X6_speeds (0 : Int32) τ224 _) (fun _ => ⟨_, wl_ate (oX6 (cI := cI) (cZ := cZ) (cS := cS) (a := a) k_isTop_0).1 ((oX6 (cI := cI) (cZ := cZ) (cS := cS) (a := a) k_isTop_0).2 _)⟩) rfl rfl kw3_126 ⟨rfl, rfl⟩ ⟨Nat.le_of_ble_eq_true rfl, Nat.le_of_ble_eq_true rfl⟩ rfl (Nat.le_of_ble_eq_true rfl) dX6_digest_235 rfl h (fun r235 τ235 h => ?_)
    refine g_i2l (pc := 238) X dX6_digest_238 ?_
    refine g_cS0l (pc := 239) (As := [.long r228, .long (r235).toInt64]) X mi_X6_mix (c_X6_mix r228 (r235).toInt64 _) kw3_101 ⟨rfl, rfl⟩ ⟨Nat.le_of_ble_eq_true rfl, Nat.le_of_ble_eq_true rfl⟩ rfl (Nat.le_of_ble_eq_true rfl) dX6_digest_239 rfl h (fun r239 h => ?_)
    refine g_lstore_n (pc := 242) (lv' := [(1, .long r239), (0, .ref (a 0))]) X rfl (by decide) rfl dX6_digest_242 ?_
    refine g_lload_n (pc := 243) X rfl 0 rfl dX6_digest_243 ?_
    refine g_aload_n (pc := 244) X rfl 1 rfl dX6_digest_244 ?_
    refine g_cVMi (pc := 245) (As := []) X hK hX hok hA mi_X6_cows (c_X6_cows  τ235 _) (fun _ => ⟨_, wl_ate (oX6 (cI := cI) (cZ := cZ) (cS := cS) (a := a) k_isTop_0).1 ((oX6 (cI := cI) (cZ := cZ) (cS := cS) (a := a) k_isTop_0).2 _)⟩) rfl rfl kw3_127 ⟨rfl, rfl⟩ ⟨Nat.le_of_ble_eq_true rfl, Nat.le_of_ble_eq_true rfl⟩ rfl (Nat.le_of_ble_eq_true rfl) dX6_digest_245 rfl h (fun r245 τ245 h => ?_)
    refine g_i2l (pc := 248) X dX6_digest_248 ?_
    refine g_cS0l (pc := 249) (As := [.long r239, .long (r245).toInt64]) X mi_X6_mix (c_X6_mix r239 (r245).toInt64 _) kw3_101 ⟨rfl, rfl⟩ ⟨Nat.le_of_ble_eq_true rfl, Nat.le_of_ble_eq_true rfl⟩ rfl (Nat.le_of_ble_eq_true rfl) dX6_digest_249 rfl h (fun r249 h => ?_)
    refine g_lstore_n (pc := 252) (lv' := [(1, .long r249), (0, .ref (a 0))]) X rfl (by decide) rfl dX6_digest_252 ?_
    refine g_lload_n (pc := 253) X rfl 0 rfl dX6_digest_253 ?_
    refine g_aload_n (pc := 254) X rfl 1 rfl dX6_digest_254 ?_
    refine g_cVMi (pc := 255) (As := []) X hK hX hok hA mi_X6_ask (c_X6_ask  τ245 _) (fun _ => ⟨_, wl_ate (oX6 (cI := cI) (cZ := cZ) (cS := cS) (a := a) k_isTop_0).1 ((oX6 (cI := cI) (cZ := cZ) (cS := cS) (a := a) k_isTop_0).2 _)⟩) rfl rfl kw3_128 ⟨rfl, rfl⟩ ⟨Nat.le_of_ble_eq_true rfl, Nat.le_of_ble_eq_true rfl⟩ rfl (Nat.le_of_ble_eq_true rfl) dX6_digest_255 rfl h (fun r255 τ255 h => ?_)
    refine g_i2l (pc := 258) X dX6_digest_258 ?_
    refine g_cS0l (pc := 259) (As := [.long r249, .long (r255).toInt64]) X mi_X6_mix (c_X6_mix r249 (r255).toInt64 _) kw3_101 ⟨rfl, rfl⟩ ⟨Nat.le_of_ble_eq_true rfl, Nat.le_of_ble_eq_true rfl⟩ rfl (Nat.le_of_ble_eq_true rfl) dX6_digest_259 rfl h (fun r259 h => ?_)
    exact g_retMl (pc := 262) X hK hr hlk dX6_digest_262 h
  have L6 : ∀ (n : Nat) (y1_6 : Int64) (y3_6 : Int32), lq2 (F_X6_digest_6 σ (E_X6_digest_6 σ K)) n y1_6 y3_6 → GMl p l e ({ frames := 6, cells := 0, slots := 0, locals := 152 } : Room) s m args below meth c K 4 D (tyC cI cZ cS) (wC cI cZ cS a) A 6 [(0, .ref (a 0)), (1, .long y1_6), (3, .int y3_6)] [] σ := by
    intro n
    induction n with
    | zero =>
      intro y1_6 y3_6 h
      exact h.elim
    | succ n ih =>
      intro y1_6 y3_6 h
      have h : F_X6_digest_6 σ (E_X6_digest_6 σ K) (lq2 (F_X6_digest_6 σ (E_X6_digest_6 σ K)) n) y1_6 y3_6 := h
      refine g_iload_n (pc := 6) X rfl 2 rfl dX6_digest_6 ?_
      refine g_bipush (pc := 7) X bp_7 dX6_digest_7 ?_
      refine g_icmp_gt (pc := 9) (tgt := 29) X (by decide) dX6_digest_9 (fun c_9 => ?_) (fun c_9 => ?_)
      · have h := ite_t c_9 h
        exact g_lv (X29 y1_6 h) [0, 1] rfl
      · have h := ite_f c_9 h
        refine g_lload_n (pc := 12) X rfl 1 rfl dX6_digest_12 ?_
        refine g_aload_n (pc := 13) X rfl 0 rfl dX6_digest_13 ?_
        refine g_iload_n (pc := 14) X rfl 2 rfl dX6_digest_14 ?_
        refine g_cVPi (pc := 15) (As := [.int y3_6]) X hK hR mi_X6_count (c_X6_count y3_6 σ _) (wl_ate (oX6 (cI := cI) (cZ := cZ) (cS := cS) (a := a) k_isTop_0).1 ((oX6 (cI := cI) (cZ := cZ) (cS := cS) (a := a) k_isTop_0).2 _)) rfl rfl kw3_100 ⟨rfl, rfl⟩ ⟨Nat.le_of_ble_eq_true rfl, Nat.le_of_ble_eq_true rfl⟩ rfl (Nat.le_of_ble_eq_true rfl) dX6_digest_15 rfl h (fun r15 h => ?_)
        refine g_i2l (pc := 18) X dX6_digest_18 ?_
        refine g_cS0l (pc := 19) (As := [.long y1_6, .long (r15).toInt64]) X mi_X6_mix (c_X6_mix y1_6 (r15).toInt64 _) kw3_101 ⟨rfl, rfl⟩ ⟨Nat.le_of_ble_eq_true rfl, Nat.le_of_ble_eq_true rfl⟩ rfl (Nat.le_of_ble_eq_true rfl) dX6_digest_19 rfl h (fun r19 h => ?_)
        refine g_lstore_n (pc := 22) (lv' := [(1, .long r19), (0, .ref (a 0)), (3, .int y3_6)]) X rfl (by decide) rfl dX6_digest_22 ?_
        refine g_iinc (pc := 23) (lv' := [(3, .int (y3_6 + (1 : Int32))), (1, .long r19), (0, .ref (a 0))]) X 2 rfl rfl (by decide) rfl dX6_digest_23 ?_
        refine g_goto (pc := 26) (tgt := 6) X (by decide) dX6_digest_26 ?_
        exact g_lv (ih r19 (y3_6 + (1 : Int32)) h) [2, 1, 0] rfl
  exact g_lv (L6 n6 (17 : Int64) (0 : Int32) h) [2, 1, 0] rfl
end
