section
variable {l : Launch} {D : va_G} {cI cZ cS : ClassId} {a : Nat → Nat} {tS tF : Nat}
set_option maxRecDepth 20000 in
theorem c_X6_note (x1 : Int32) (x2 : Int32) (σ : Sg) (K : Int32 → Prop) : Met l yX6_note (.code yX6_note cX6_note 3 (some .int) :: AW) ({ frames := 2, cells := 0, slots := 0, locals := 45 } : Room) (pvP D (tyC cI cZ cS) (wC cI cZ cS a σ) (w_X6_note x1 x2 σ K) [.ref (a 0), .int x1, .int x2]) (vp_Si K) 0 0 (fun _ => False) := by
  refine met_Pi (own := "TrainNote") (lv := [(0, .ref (a 0)), (1, .int x1), (2, .int x2)]) (by decide +kernel) rfl (Nat.le_of_ble_eq_true rfl) rfl ?_
  intro p e s m args below meth c X hK hr hlk h
  have hR : ∀ σ H locs, hpP D (wC cI cZ cS a) s σ H locs → va_P D vwCl ((wC cI cZ cS a σ)) H := fun _ _ _ h => h.1
  refine g_aload_n (pc := 0) X rfl 0 rfl dX6_note_0 ?_
  refine g_iload_n (pc := 1) X rfl 1 rfl dX6_note_1 ?_
  refine g_cVPi (pc := 2) (As := [.int x1]) X hK hR mi_X6_isNoSinger (c_X6_isNoSinger x1 σ _) (wl_ate (oX6 (cI := cI) (cZ := cZ) (cS := cS) (a := a) k_isTop_0).1 ((oX6 (cI := cI) (cZ := cZ) (cS := cS) (a := a) k_isTop_0).2 _)) rfl rfl kw2_59 ⟨rfl, rfl⟩ ⟨Nat.le_of_ble_eq_true rfl, Nat.le_of_ble_eq_true rfl⟩ rfl (Nat.le_of_ble_eq_true rfl) dX6_note_2 rfl h (fun r2 h => ?_)
  refine g_if_ne (pc := 5) (tgt := 16) X (by decide) dX6_note_5 (fun c_5 => ?_) (fun c_5 => ?_)
  · have h := ite_f c_5 h
    refine g_sipush (pc := 16) X sp_m10002 dX6_note_16 ?_
    exact g_retPi (pc := 19) X hr hlk dX6_note_19 h
  · have h := ite_t c_5 h
    refine g_aload_n (pc := 8) X rfl 0 rfl dX6_note_8 ?_
    refine g_iload_n (pc := 9) X rfl 2 rfl dX6_note_9 ?_
    refine g_cVPi (pc := 10) (As := [.int x2]) X hK hR mi_X6_isNoBar (c_X6_isNoBar x2 σ _) (wl_ate (oX6 (cI := cI) (cZ := cZ) (cS := cS) (a := a) k_isTop_0).1 ((oX6 (cI := cI) (cZ := cZ) (cS := cS) (a := a) k_isTop_0).2 _)) rfl rfl kw2_96 ⟨rfl, rfl⟩ ⟨Nat.le_of_ble_eq_true rfl, Nat.le_of_ble_eq_true rfl⟩ rfl (Nat.le_of_ble_eq_true rfl) dX6_note_10 rfl h (fun r10 h => ?_)
    refine g_if_eq (pc := 13) (tgt := 20) X (by decide) dX6_note_13 (fun c_13 => ?_) (fun c_13 => ?_)
    · have h := ite_t c_13 h
      refine g_aload_n (pc := 20) X rfl 0 rfl dX6_note_20 ?_
      refine fX6_34 (pc := 21) X hK hR k_isTop_0 dX6_note_21 ?_
      refine fX6_147 (pc := 24) X hK hR k_isSo_23 dX6_note_24 ?_
      refine g_iload_n (pc := 27) X rfl 2 rfl dX6_note_27 ?_
      obtain ⟨h_28, h⟩ := h
      refine aX3_restsBefore (pc := 28) X hK hR k_isSo_23 h_28 dX6_note_28 ?_
      refine g_aload_n (pc := 29) X rfl 0 rfl dX6_note_29 ?_
      refine fX6_24 (pc := 30) X hK hR k_isTop_0 dX6_note_30 ?_
      refine g_aload_n (pc := 33) X rfl 0 rfl dX6_note_33 ?_
      refine fX6_41 (pc := 34) X hK hR k_isTop_0 dX6_note_34 ?_
      refine g_iload_n (pc := 37) X rfl 1 rfl dX6_note_37 ?_
      refine g_cSPi (pc := 38) (As := [.int (σ (23 + 2) (x2).toNatClampNeg), .ref (a 5), .ref (a 26), .int x1]) X hK hR mi_X6_noteBehind (c_X6_noteBehind (σ (23 + 2) (x2).toNatClampNeg) (k1 := 5) k_isCh_5 (k2 := 26) k_isTr_26 x1 σ _) kw2_100 ⟨rfl, rfl⟩ ⟨Nat.le_of_ble_eq_true rfl, Nat.le_of_ble_eq_true rfl⟩ rfl (Nat.le_of_ble_eq_true rfl) dX6_note_38 rfl h (fun r38 h => ?_)
      exact g_retPi (pc := 41) X hr hlk dX6_note_41 h
    · have h := ite_f c_13 h
      refine g_sipush (pc := 16) X sp_m10002 dX6_note_16 ?_
      exact g_retPi (pc := 19) X hr hlk dX6_note_19 h
set_option maxRecDepth 20000 in
theorem c_X6_away (x1 : Int32) (x2 : Int32) (σ : Sg) (K : Int32 → Prop) : Met l yX6_away (.code yX6_away cX6_away 4 (some .int) :: AW) ({ frames := 2, cells := 0, slots := 0, locals := 45 } : Room) (pvP D (tyC cI cZ cS) (wC cI cZ cS a σ) (w_X6_away x1 x2 σ K) [.ref (a 0), .int x1, .int x2]) (vp_Si K) 0 0 (fun _ => False) := by
  refine met_Pi (own := "TrainNote") (lv := [(0, .ref (a 0)), (1, .int x1), (2, .int x2)]) (by decide +kernel) rfl (Nat.le_of_ble_eq_true rfl) rfl ?_
  intro p e s m args below meth c X hK hr hlk h
  have hR : ∀ σ H locs, hpP D (wC cI cZ cS a) s σ H locs → va_P D vwCl ((wC cI cZ cS a σ)) H := fun _ _ _ h => h.1
  refine g_aload_n (pc := 0) X rfl 0 rfl dX6_away_0 ?_
  refine g_iload_n (pc := 1) X rfl 1 rfl dX6_away_1 ?_
  refine g_cVPi (pc := 2) (As := [.int x1]) X hK hR mi_X6_isNoSinger (c_X6_isNoSinger x1 σ _) (wl_ate (oX6 (cI := cI) (cZ := cZ) (cS := cS) (a := a) k_isTop_0).1 ((oX6 (cI := cI) (cZ := cZ) (cS := cS) (a := a) k_isTop_0).2 _)) rfl rfl kw2_59 ⟨rfl, rfl⟩ ⟨Nat.le_of_ble_eq_true rfl, Nat.le_of_ble_eq_true rfl⟩ rfl (Nat.le_of_ble_eq_true rfl) dX6_away_2 rfl h (fun r2 h => ?_)
  refine g_if_ne (pc := 5) (tgt := 16) X (by decide) dX6_away_5 (fun c_5 => ?_) (fun c_5 => ?_)
  · have h := ite_f c_5 h
    refine g_sipush (pc := 16) X sp_m10002 dX6_away_16 ?_
    exact g_retPi (pc := 19) X hr hlk dX6_away_19 h
  · have h := ite_t c_5 h
    refine g_aload_n (pc := 8) X rfl 0 rfl dX6_away_8 ?_
    refine g_iload_n (pc := 9) X rfl 2 rfl dX6_away_9 ?_
    refine g_cVPi (pc := 10) (As := [.int x2]) X hK hR mi_X6_isNoBar (c_X6_isNoBar x2 σ _) (wl_ate (oX6 (cI := cI) (cZ := cZ) (cS := cS) (a := a) k_isTop_0).1 ((oX6 (cI := cI) (cZ := cZ) (cS := cS) (a := a) k_isTop_0).2 _)) rfl rfl kw2_96 ⟨rfl, rfl⟩ ⟨Nat.le_of_ble_eq_true rfl, Nat.le_of_ble_eq_true rfl⟩ rfl (Nat.le_of_ble_eq_true rfl) dX6_away_10 rfl h (fun r10 h => ?_)
    refine g_if_eq (pc := 13) (tgt := 20) X (by decide) dX6_away_13 (fun c_13 => ?_) (fun c_13 => ?_)
    · have h := ite_t c_13 h
      refine g_aload_n (pc := 20) X rfl 0 rfl dX6_away_20 ?_
      refine fX6_34 (pc := 21) X hK hR k_isTop_0 dX6_away_21 ?_
      refine fX6_147 (pc := 24) X hK hR k_isSo_23 dX6_away_24 ?_
      refine g_iload_n (pc := 27) X rfl 2 rfl dX6_away_27 ?_
      obtain ⟨h_28, h⟩ := h
      refine aX3_restsBefore (pc := 28) X hK hR k_isSo_23 h_28 dX6_away_28 ?_
      refine g_aload_n (pc := 29) X rfl 0 rfl dX6_away_29 ?_
      refine fX6_24 (pc := 30) X hK hR k_isTop_0 dX6_away_30 ?_
      refine g_aload_n (pc := 33) X rfl 0 rfl dX6_away_33 ?_
      refine fX6_41 (pc := 34) X hK hR k_isTop_0 dX6_away_34 ?_
      refine g_iload_n (pc := 37) X rfl 1 rfl dX6_away_37 ?_
      refine g_cSPi (pc := 38) (As := [.int (σ (23 + 2) (x2).toNatClampNeg), .ref (a 5), .ref (a 26), .int x1]) X hK hR mi_X6_noteBehind (c_X6_noteBehind (σ (23 + 2) (x2).toNatClampNeg) (k1 := 5) k_isCh_5 (k2 := 26) k_isTr_26 x1 σ _) kw2_100 ⟨rfl, rfl⟩ ⟨Nat.le_of_ble_eq_true rfl, Nat.le_of_ble_eq_true rfl⟩ rfl (Nat.le_of_ble_eq_true rfl) dX6_away_38 rfl h (fun r38 h => ?_)
      refine g_istore_n (pc := 41) (lv' := [(3, .int r38), (0, .ref (a 0)), (1, .int x1), (2, .int x2)]) X rfl (by decide) rfl dX6_away_41 ?_
      refine g_iload_n (pc := 42) X rfl 0 rfl dX6_away_42 ?_
      refine g_sipush (pc := 43) X sp_m10000 dX6_away_43 ?_
      refine g_icmp_ne (pc := 46) (tgt := 55) X (by decide) dX6_away_46 (fun c_46 => ?_) (fun c_46 => ?_)
      · have h := ite_f c_46 h
        refine g_iload_n (pc := 55) X rfl 0 rfl dX6_away_55 ?_
        refine g_sipush (pc := 56) X sp_1000 dX6_away_56 ?_
        refine g_isub (pc := 59) X dX6_away_59 ?_
        exact g_retPi (pc := 60) X hr hlk dX6_away_60 h
      · have h := ite_t c_46 h
        refine g_sipush (pc := 49) X sp_m10000 dX6_away_49 ?_
        refine g_goto (pc := 52) (tgt := 60) X (by decide) dX6_away_52 ?_
        exact g_retPi (pc := 60) X hr hlk dX6_away_60 h
    · have h := ite_f c_13 h
      refine g_sipush (pc := 16) X sp_m10002 dX6_away_16 ?_
      exact g_retPi (pc := 19) X hr hlk dX6_away_19 h
set_option maxRecDepth 20000 in
theorem c_X6_spreadOf {k1 : Nat} (hk1 : isCh k1) {k2 : Nat} (hk2 : isTr k2) (x3 : Int32) (σ : Sg) (K : Int32 → Prop) : Met l yX6_spreadOf (.code yX6_spreadOf cX6_spreadOf 9 (some .int) :: AW) ({ frames := 2, cells := 0, slots := 0, locals := 45 } : Room) (pvP D (tyC cI cZ cS) (wC cI cZ cS a σ) (w_X6_spreadOf k1 k2 x3 σ K) [.ref (a 0), .ref (a k1), .ref (a k2), .int x3]) (vp_Si K) 0 0 (fun _ => False) := by
  refine met_Pi (own := "TrainNote") (lv := [(0, .ref (a 0)), (1, .ref (a k1)), (2, .ref (a k2)), (3, .int x3)]) (by decide +kernel) rfl (Nat.le_of_ble_eq_true rfl) rfl ?_
  intro p e s m args below meth c X hK hr hlk h
  have hR : ∀ σ H locs, hpP D (wC cI cZ cS a) s σ H locs → va_P D vwCl ((wC cI cZ cS a σ)) H := fun _ _ _ h => h.1
  refine g_aload_n (pc := 0) X rfl 0 rfl dX6_spreadOf_0 ?_
  refine fX6_34 (pc := 1) X hK hR k_isTop_0 dX6_spreadOf_1 ?_
  refine fX6_147 (pc := 4) X hK hR k_isSo_23 dX6_spreadOf_4 ?_
  refine g_iload_n (pc := 7) X rfl 3 rfl dX6_spreadOf_7 ?_
  obtain ⟨h_8, h⟩ := h
  refine aX3_restsBefore (pc := 8) X hK hR k_isSo_23 h_8 dX6_spreadOf_8 ?_
  refine g_topi (fun x4_9 ex4_9 => ?_)
  have h := h x4_9 ex4_9
  refine g_istore (pc := 9) (lv' := [(4, .int x4_9), (0, .ref (a 0)), (1, .ref (a k1)), (2, .ref (a k2)), (3, .int x3)]) X (by decide) rfl dX6_spreadOf_9 ?_
  refine g_sipush (pc := 11) X sp_m10000 dX6_spreadOf_11 ?_
  refine g_istore (pc := 14) (lv' := [(5, .int (-10000 : Int32)), (4, .int x4_9), (0, .ref (a 0)), (1, .ref (a k1)), (2, .ref (a k2)), (3, .int x3)]) X (by decide) rfl dX6_spreadOf_14 ?_
  refine g_sipush (pc := 16) X sp_m10000 dX6_spreadOf_16 ?_
  refine g_istore (pc := 19) (lv' := [(6, .int (-10000 : Int32)), (5, .int (-10000 : Int32)), (4, .int x4_9), (0, .ref (a 0)), (1, .ref (a k1)), (2, .ref (a k2)), (3, .int x3)]) X (by decide) rfl dX6_spreadOf_19 ?_
  refine g_iconst (pc := 21) X ic_0 dX6_spreadOf_21 ?_
  refine g_istore (pc := 22) (lv' := [(7, .int (0 : Int32)), (6, .int (-10000 : Int32)), (5, .int (-10000 : Int32)), (4, .int x4_9), (0, .ref (a 0)), (1, .ref (a k1)), (2, .ref (a k2)), (3, .int x3)]) X (by decide) rfl dX6_spreadOf_22 ?_
  obtain ⟨n24, h⟩ := h
  have X89 : ∀ (u5_89 : Int32) (u6_89 : Int32), E_X6_spreadOf_24 K u5_89 u6_89 → GPi p l e ({ frames := 2, cells := 0, slots := 0, locals := 45 } : Room) s m args below meth c K 9 D (wC cI cZ cS a) 89 [(5, .int u5_89), (6, .int u6_89)] [] σ := by
    intro u5_89 u6_89 h
    refine g_iload (pc := 89) X 1 rfl dX6_spreadOf_89 ?_
    refine g_iload (pc := 91) X 0 rfl dX6_spreadOf_91 ?_
    refine g_isub (pc := 93) X dX6_spreadOf_93 ?_
    exact g_retPi (pc := 94) X hr hlk dX6_spreadOf_94 h
  have L24 : ∀ (n : Nat) (y5_24 : Int32) (y6_24 : Int32) (y7_24 : Int32), lq3 (F_X6_spreadOf_24 σ k1 x4_9 k2 (E_X6_spreadOf_24 K)) n y5_24 y6_24 y7_24 → GPi p l e ({ frames := 2, cells := 0, slots := 0, locals := 45 } : Room) s m args below meth c K 9 D (wC cI cZ cS a) 24 [(1, .ref (a k1)), (2, .ref (a k2)), (4, .int x4_9), (5, .int y5_24), (6, .int y6_24), (7, .int y7_24)] [] σ := by
    intro n
    induction n with
    | zero =>
      intro y5_24 y6_24 y7_24 h
      exact h.elim
    | succ n ih =>
      intro y5_24 y6_24 y7_24 h
      have h : F_X6_spreadOf_24 σ k1 x4_9 k2 (E_X6_spreadOf_24 K) (lq3 (F_X6_spreadOf_24 σ k1 x4_9 k2 (E_X6_spreadOf_24 K)) n) y5_24 y6_24 y7_24 := h
      generalize lq3 (F_X6_spreadOf_24 σ k1 x4_9 k2 (E_X6_spreadOf_24 K)) n = rec24 at h ih
      refine g_iload (pc := 24) X 5 rfl dX6_spreadOf_24 ?_
      refine g_aload_n (pc := 26) X rfl 0 rfl dX6_spreadOf_26 ?_
      refine fX6_165 (pc := 27) X hK hR hk1 dX6_spreadOf_27 ?_
      refine g_icmp_ge (pc := 30) (tgt := 89) X (by decide) dX6_spreadOf_30 (fun c_30 => ?_) (fun c_30 => ?_)
      · have h := ite_t c_30 h
        exact g_lv (X89 y5_24 y6_24 h) [3, 4] rfl
      · have h := ite_f c_30 h
        refine g_iload (pc := 33) X 2 rfl dX6_spreadOf_33 ?_
        refine g_aload_n (pc := 35) X rfl 0 rfl dX6_spreadOf_35 ?_
        refine g_aload_n (pc := 36) X rfl 1 rfl dX6_spreadOf_36 ?_
        refine g_iload (pc := 37) X 5 rfl dX6_spreadOf_37 ?_
        refine g_cSPi (pc := 39) (As := [.int x4_9, .ref (a k1), .ref (a k2), .int y7_24]) X hK hR mi_X6_noteBehind (c_X6_noteBehind x4_9 (k1 := k1) hk1 (k2 := k2) hk2 y7_24 σ _) kw2_100 ⟨rfl, rfl⟩ ⟨Nat.le_of_ble_eq_true rfl, Nat.le_of_ble_eq_true rfl⟩ rfl (Nat.le_of_ble_eq_true rfl) dX6_spreadOf_39 rfl h (fun r39 h => ?_)
        refine g_istore (pc := 42) (lv' := [(8, .int r39), (1, .ref (a k1)), (2, .ref (a k2)), (4, .int x4_9), (5, .int y5_24), (6, .int y6_24), (7, .int y7_24)]) X (by decide) rfl dX6_spreadOf_42 ?_
        refine g_iload (pc := 44) X 0 rfl dX6_spreadOf_44 ?_
        refine g_sipush (pc := 46) X sp_m10000 dX6_spreadOf_46 ?_
        refine g_icmp_eq (pc := 49) (tgt := 83) X (by decide) dX6_spreadOf_49 (fun c_49 => ?_) (fun c_49 => ?_)
        · have h := ite_t c_49 h
          refine g_iinc (pc := 83) (lv' := [(7, .int (y7_24 + (1 : Int32))), (8, .int r39), (1, .ref (a k1)), (2, .ref (a k2)), (4, .int x4_9), (5, .int y5_24), (6, .int y6_24)]) X 6 rfl rfl (by decide) rfl dX6_spreadOf_83 ?_
          refine g_goto (pc := 86) (tgt := 24) X (by decide) dX6_spreadOf_86 ?_
          exact g_lv (ih y5_24 y6_24 (y7_24 + (1 : Int32)) h) [2, 3, 4, 5, 6, 0] rfl
        · have h := ite_f c_49 h
          refine g_iload (pc := 52) X 4 rfl dX6_spreadOf_52 ?_
          refine g_sipush (pc := 54) X sp_m10000 dX6_spreadOf_54 ?_
          have J72 : ∀ (v0_72 : Int32), J_X6_spreadOf_72 y6_24 r39 rec24 y7_24 v0_72 → GPi p l e ({ frames := 2, cells := 0, slots := 0, locals := 45 } : Room) s m args below meth c K 9 D (wC cI cZ cS a) 72 [(1, .ref (a k1)), (2, .ref (a k2)), (4, .int x4_9), (6, .int y6_24), (7, .int y7_24), (8, .int r39)] [.int v0_72] σ := by
            intro v0_72 h
            refine g_istore (pc := 72) (lv' := [(5, .int v0_72), (1, .ref (a k1)), (2, .ref (a k2)), (4, .int x4_9), (6, .int y6_24), (7, .int y7_24), (8, .int r39)]) X (by decide) rfl dX6_spreadOf_72 ?_
            refine g_iload (pc := 74) X 4 rfl dX6_spreadOf_74 ?_
            refine g_iload (pc := 76) X 6 rfl dX6_spreadOf_76 ?_
            refine g_mmax (pc := 78) X kw2_116 kw2_43 kw1_3 kw2_44 (Nat.le_of_ble_eq_true rfl) (Nat.le_of_ble_eq_true rfl) dX6_spreadOf_78 ?_
            refine g_topi (fun m78 em78 => ?_)
            have h := h m78 em78
            refine g_istore (pc := 81) (lv' := [(6, .int m78), (5, .int v0_72), (1, .ref (a k1)), (2, .ref (a k2)), (4, .int x4_9), (7, .int y7_24), (8, .int r39)]) X (by decide) rfl dX6_spreadOf_81 ?_
            refine g_iinc (pc := 83) (lv' := [(7, .int (y7_24 + (1 : Int32))), (6, .int m78), (5, .int v0_72), (1, .ref (a k1)), (2, .ref (a k2)), (4, .int x4_9), (8, .int r39)]) X 5 rfl rfl (by decide) rfl dX6_spreadOf_83 ?_
            refine g_goto (pc := 86) (tgt := 24) X (by decide) dX6_spreadOf_86 ?_
            exact g_lv (ih v0_72 m78 (y7_24 + (1 : Int32)) h) [3, 4, 5, 2, 1, 0] rfl
          refine g_icmp_ne (pc := 57) (tgt := 65) X (by decide) dX6_spreadOf_57 (fun c_57 => ?_) (fun c_57 => ?_)
          · have h := ite_f c_57 h
            refine g_iload (pc := 65) X 4 rfl dX6_spreadOf_65 ?_
            refine g_iload (pc := 67) X 0 rfl dX6_spreadOf_67 ?_
            refine g_mmin (pc := 69) X kw2_115 kw1_28 kw1_3 kw1_29 (Nat.le_of_ble_eq_true rfl) (Nat.le_of_ble_eq_true rfl) dX6_spreadOf_69 ?_
            refine g_topi (fun m69 em69 => ?_)
            have h := h m69 em69
            exact g_lv (J72 m69 h) [1, 2, 3, 5, 6, 0] rfl
          · have h := ite_t c_57 h
            refine g_iload (pc := 60) X 0 rfl dX6_spreadOf_60 ?_
            refine g_goto (pc := 62) (tgt := 72) X (by decide) dX6_spreadOf_62 ?_
            exact g_lv (J72 r39 h) [1, 2, 3, 5, 6, 0] rfl
  exact g_lv (L24 n24 (-10000 : Int32) (-10000 : Int32) (0 : Int32) h) [5, 6, 3, 2, 1, 0] rfl
set_option maxRecDepth 20000 in
theorem c_X6_isSung (x1 : Int32) (σ : Sg) (K : Int32 → Prop) : Met l yX6_isSung (.code yX6_isSung cX6_isSung 2 (some .boolean) :: AW) ({ frames := 1, cells := 0, slots := 0, locals := 21 } : Room) (pvP D (tyC cI cZ cS) (wC cI cZ cS a σ) (w_X6_isSung x1 σ K) [.ref (a 0), .int x1]) (vp_Si K) 0 0 (fun _ => False) := by
  refine met_Pi (own := "TrainNote") (lv := [(0, .ref (a 0)), (1, .int x1)]) (by decide +kernel) rfl (Nat.le_of_ble_eq_true rfl) rfl ?_
  intro p e s m args below meth c X hK hr hlk h
  have hR : ∀ σ H locs, hpP D (wC cI cZ cS a) s σ H locs → va_P D vwCl ((wC cI cZ cS a σ)) H := fun _ _ _ h => h.1
  refine g_aload_n (pc := 0) X rfl 0 rfl dX6_isSung_0 ?_
  refine g_iload_n (pc := 1) X rfl 1 rfl dX6_isSung_1 ?_
  refine g_cVPi (pc := 2) (As := [.int x1]) X hK hR mi_X6_isNoBar (c_X6_isNoBar x1 σ _) (wl_ate (oX6 (cI := cI) (cZ := cZ) (cS := cS) (a := a) k_isTop_0).1 ((oX6 (cI := cI) (cZ := cZ) (cS := cS) (a := a) k_isTop_0).2 _)) rfl rfl kw2_96 ⟨rfl, rfl⟩ ⟨Nat.le_of_ble_eq_true rfl, Nat.le_of_ble_eq_true rfl⟩ rfl (Nat.le_of_ble_eq_true rfl) dX6_isSung_2 rfl h (fun r2 h => ?_)
  refine g_if_ne (pc := 5) (tgt := 25) X (by decide) dX6_isSung_5 (fun c_5 => ?_) (fun c_5 => ?_)
  · have h := ite_f c_5 h
    refine g_iconst (pc := 25) X ic_0 dX6_isSung_25 ?_
    exact g_retPz (pc := 26) X hr hlk dX6_isSung_26 (Or.inl rfl) h
  · have h := ite_t c_5 h
    refine g_aload_n (pc := 8) X rfl 0 rfl dX6_isSung_8 ?_
    refine fX6_34 (pc := 9) X hK hR k_isTop_0 dX6_isSung_9 ?_
    refine fX6_121 (pc := 12) X hK hR k_isSo_23 dX6_isSung_12 ?_
    refine g_iload_n (pc := 15) X rfl 1 rfl dX6_isSung_15 ?_
    obtain ⟨h_16, h⟩ := h
    refine aX3_kind (pc := 16) X hK hR k_isSo_23 h_16 dX6_isSung_16 ?_
    refine g_iconst (pc := 17) X ic_1 dX6_isSung_17 ?_
    refine g_icmp_eq (pc := 18) (tgt := 25) X (by decide) dX6_isSung_18 (fun c_18 => ?_) (fun c_18 => ?_)
    · have h := ite_t c_18 h
      refine g_iconst (pc := 25) X ic_0 dX6_isSung_25 ?_
      exact g_retPz (pc := 26) X hr hlk dX6_isSung_26 (Or.inl rfl) h
    · have h := ite_f c_18 h
      refine g_iconst (pc := 21) X ic_1 dX6_isSung_21 ?_
      refine g_goto (pc := 22) (tgt := 26) X (by decide) dX6_isSung_22 ?_
      exact g_retPz (pc := 26) X hr hlk dX6_isSung_26 (Or.inr rfl) h
set_option maxRecDepth 20000 in
theorem c_X6_closes {k1 : Nat} (hk1 : isTr k1) (x2 : Int32) (σ : Sg) (K : Int32 → Prop) : Met l yX6_closes (.code yX6_closes cX6_closes 3 (some .boolean) :: AW) ({ frames := 3, cells := 0, slots := 0, locals := 73 } : Room) (pvP D (tyC cI cZ cS) (wC cI cZ cS a σ) (w_X6_closes k1 x2 σ K) [.ref (a 0), .ref (a k1), .int x2]) (vp_Si K) 0 0 (fun _ => False) := by
  refine met_Pi (own := "TrainNote") (lv := [(0, .ref (a 0)), (1, .ref (a k1)), (2, .int x2)]) (by decide +kernel) rfl (Nat.le_of_ble_eq_true rfl) rfl ?_
  intro p e s m args below meth c X hK hr hlk h
  have hR : ∀ σ H locs, hpP D (wC cI cZ cS a) s σ H locs → va_P D vwCl ((wC cI cZ cS a σ)) H := fun _ _ _ h => h.1
  refine g_aload_n (pc := 0) X rfl 0 rfl dX6_closes_0 ?_
  refine g_iload_n (pc := 1) X rfl 2 rfl dX6_closes_1 ?_
  refine g_cVPi (pc := 2) (As := [.int x2]) X hK hR mi_X6_isSung (c_X6_isSung x2 σ _) (wl_ate (oX6 (cI := cI) (cZ := cZ) (cS := cS) (a := a) k_isTop_0).1 ((oX6 (cI := cI) (cZ := cZ) (cS := cS) (a := a) k_isTop_0).2 _)) rfl rfl kw2_121 ⟨rfl, rfl⟩ ⟨Nat.le_of_ble_eq_true rfl, Nat.le_of_ble_eq_true rfl⟩ rfl (Nat.le_of_ble_eq_true rfl) dX6_closes_2 rfl h (fun r2 h => ?_)
  refine g_if_eq (pc := 5) (tgt := 29) X (by decide) dX6_closes_5 (fun c_5 => ?_) (fun c_5 => ?_)
  · have h := ite_t c_5 h
    refine g_iconst (pc := 29) X ic_0 dX6_closes_29 ?_
    exact g_retPz (pc := 30) X hr hlk dX6_closes_30 (Or.inl rfl) h
  · have h := ite_f c_5 h
    refine g_aload_n (pc := 8) X rfl 0 rfl dX6_closes_8 ?_
    refine g_aload_n (pc := 9) X rfl 0 rfl dX6_closes_9 ?_
    refine fX6_24 (pc := 10) X hK hR k_isTop_0 dX6_closes_10 ?_
    refine g_aload_n (pc := 13) X rfl 1 rfl dX6_closes_13 ?_
    refine g_iload_n (pc := 14) X rfl 2 rfl dX6_closes_14 ?_
    refine g_cVPi (pc := 15) (As := [.ref (a 5), .ref (a k1), .int x2]) X hK hR mi_X6_spreadOf (c_X6_spreadOf (k1 := 5) k_isCh_5 (k2 := k1) hk1 x2 σ _) (wl_ate (oX6 (cI := cI) (cZ := cZ) (cS := cS) (a := a) k_isTop_0).1 ((oX6 (cI := cI) (cZ := cZ) (cS := cS) (a := a) k_isTop_0).2 _)) rfl rfl kw2_111 ⟨rfl, rfl⟩ ⟨Nat.le_of_ble_eq_true rfl, Nat.le_of_ble_eq_true rfl⟩ rfl (Nat.le_of_ble_eq_true rfl) dX6_closes_15 rfl h (fun r15 h => ?_)
    refine g_aload_n (pc := 18) X rfl 1 rfl dX6_closes_18 ?_
    refine fX6_375 (pc := 19) X hK hR hk1 dX6_closes_19 ?_
    refine g_icmp_gt (pc := 22) (tgt := 29) X (by decide) dX6_closes_22 (fun c_22 => ?_) (fun c_22 => ?_)
    · have h := ite_t c_22 h
      refine g_iconst (pc := 29) X ic_0 dX6_closes_29 ?_
      exact g_retPz (pc := 30) X hr hlk dX6_closes_30 (Or.inl rfl) h
    · have h := ite_f c_22 h
      refine g_iconst (pc := 25) X ic_1 dX6_closes_25 ?_
      refine g_goto (pc := 26) (tgt := 30) X (by decide) dX6_closes_26 ?_
      exact g_retPz (pc := 30) X hr hlk dX6_closes_30 (Or.inr rfl) h
set_option maxRecDepth 20000 in
theorem c_X6_flattestIn (x1 : Int32) (σ : Sg) (K : Int32 → Prop) : Met l yX6_flattestIn (.code yX6_flattestIn cX6_flattestIn 7 (some .int) :: AW) ({ frames := 2, cells := 0, slots := 0, locals := 45 } : Room) (pvP D (tyC cI cZ cS) (wC cI cZ cS a σ) (w_X6_flattestIn x1 σ K) [.ref (a 0), .int x1]) (vp_Si K) 0 0 (fun _ => False) := by
  refine met_Pi (own := "TrainNote") (lv := [(0, .ref (a 0)), (1, .int x1)]) (by decide +kernel) rfl (Nat.le_of_ble_eq_true rfl) rfl ?_
  intro p e s m args below meth c X hK hr hlk h
  have hR : ∀ σ H locs, hpP D (wC cI cZ cS a) s σ H locs → va_P D vwCl ((wC cI cZ cS a σ)) H := fun _ _ _ h => h.1
  refine g_aload_n (pc := 0) X rfl 0 rfl dX6_flattestIn_0 ?_
  refine fX6_34 (pc := 1) X hK hR k_isTop_0 dX6_flattestIn_1 ?_
  refine fX6_147 (pc := 4) X hK hR k_isSo_23 dX6_flattestIn_4 ?_
  refine g_iload_n (pc := 7) X rfl 1 rfl dX6_flattestIn_7 ?_
  obtain ⟨h_8, h⟩ := h
  refine aX3_restsBefore (pc := 8) X hK hR k_isSo_23 h_8 dX6_flattestIn_8 ?_
  refine g_topi (fun x2_9 ex2_9 => ?_)
  have h := h x2_9 ex2_9
  refine g_istore_n (pc := 9) (lv' := [(2, .int x2_9), (0, .ref (a 0)), (1, .int x1)]) X rfl (by decide) rfl dX6_flattestIn_9 ?_
  refine g_iconst (pc := 10) X ic_m1 dX6_flattestIn_10 ?_
  refine g_istore_n (pc := 11) (lv' := [(3, .int (-1 : Int32)), (2, .int x2_9), (0, .ref (a 0)), (1, .int x1)]) X rfl (by decide) rfl dX6_flattestIn_11 ?_
  refine g_sipush (pc := 12) X sp_m10000 dX6_flattestIn_12 ?_
  refine g_istore (pc := 15) (lv' := [(4, .int (-10000 : Int32)), (3, .int (-1 : Int32)), (2, .int x2_9), (0, .ref (a 0)), (1, .int x1)]) X (by decide) rfl dX6_flattestIn_15 ?_
  refine g_iconst (pc := 17) X ic_0 dX6_flattestIn_17 ?_
  refine g_istore (pc := 18) (lv' := [(5, .int (0 : Int32)), (4, .int (-10000 : Int32)), (3, .int (-1 : Int32)), (2, .int x2_9), (0, .ref (a 0)), (1, .int x1)]) X (by decide) rfl dX6_flattestIn_18 ?_
  obtain ⟨n20, h⟩ := h
  have X81 : ∀ (u3_81 : Int32), E_X6_flattestIn_20 K u3_81 → GPi p l e ({ frames := 2, cells := 0, slots := 0, locals := 45 } : Room) s m args below meth c K 7 D (wC cI cZ cS a) 81 [(3, .int u3_81)] [] σ := by
    intro u3_81 h
    refine g_iload_n (pc := 81) X rfl 0 rfl dX6_flattestIn_81 ?_
    exact g_retPi (pc := 82) X hr hlk dX6_flattestIn_82 h
  have L20 : ∀ (n : Nat) (y3_20 : Int32) (y4_20 : Int32) (y5_20 : Int32), lq3 (F_X6_flattestIn_20 σ x2_9 (E_X6_flattestIn_20 K)) n y3_20 y4_20 y5_20 → GPi p l e ({ frames := 2, cells := 0, slots := 0, locals := 45 } : Room) s m args below meth c K 7 D (wC cI cZ cS a) 20 [(0, .ref (a 0)), (2, .int x2_9), (3, .int y3_20), (4, .int y4_20), (5, .int y5_20)] [] σ := by
    intro n
    induction n with
    | zero =>
      intro y3_20 y4_20 y5_20 h
      exact h.elim
    | succ n ih =>
      intro y3_20 y4_20 y5_20 h
      have h : F_X6_flattestIn_20 σ x2_9 (E_X6_flattestIn_20 K) (lq3 (F_X6_flattestIn_20 σ x2_9 (E_X6_flattestIn_20 K)) n) y3_20 y4_20 y5_20 := h
      generalize lq3 (F_X6_flattestIn_20 σ x2_9 (E_X6_flattestIn_20 K)) n = rec20 at h ih
      refine g_iload (pc := 20) X 4 rfl dX6_flattestIn_20 ?_
      refine g_aload_n (pc := 22) X rfl 0 rfl dX6_flattestIn_22 ?_
      refine fX6_24 (pc := 23) X hK hR k_isTop_0 dX6_flattestIn_23 ?_
      refine fX6_165 (pc := 26) X hK hR k_isCh_5 dX6_flattestIn_26 ?_
      refine g_icmp_ge (pc := 29) (tgt := 81) X (by decide) dX6_flattestIn_29 (fun c_29 => ?_) (fun c_29 => ?_)
      · have h := ite_t c_29 h
        exact g_lv (X81 y3_20 h) [2] rfl
      · have h := ite_f c_29 h
        refine g_iload_n (pc := 32) X rfl 1 rfl dX6_flattestIn_32 ?_
        refine g_aload_n (pc := 33) X rfl 0 rfl dX6_flattestIn_33 ?_
        refine fX6_24 (pc := 34) X hK hR k_isTop_0 dX6_flattestIn_34 ?_
        refine g_aload_n (pc := 37) X rfl 0 rfl dX6_flattestIn_37 ?_
        refine fX6_41 (pc := 38) X hK hR k_isTop_0 dX6_flattestIn_38 ?_
        refine g_iload (pc := 41) X 4 rfl dX6_flattestIn_41 ?_
        refine g_cSPi (pc := 43) (As := [.int x2_9, .ref (a 5), .ref (a 26), .int y5_20]) X hK hR mi_X6_noteBehind (c_X6_noteBehind x2_9 (k1 := 5) k_isCh_5 (k2 := 26) k_isTr_26 y5_20 σ _) kw2_100 ⟨rfl, rfl⟩ ⟨Nat.le_of_ble_eq_true rfl, Nat.le_of_ble_eq_true rfl⟩ rfl (Nat.le_of_ble_eq_true rfl) dX6_flattestIn_43 rfl h (fun r43 h => ?_)
        refine g_istore (pc := 46) (lv' := [(6, .int r43), (0, .ref (a 0)), (2, .int x2_9), (3, .int y3_20), (4, .int y4_20), (5, .int y5_20)]) X (by decide) rfl dX6_flattestIn_46 ?_
        refine g_iload (pc := 48) X 0 rfl dX6_flattestIn_48 ?_
        refine g_sipush (pc := 50) X sp_m10000 dX6_flattestIn_50 ?_
        refine g_icmp_eq (pc := 53) (tgt := 75) X (by decide) dX6_flattestIn_53 (fun c_53 => ?_) (fun c_53 => ?_)
        · have h := ite_t c_53 h
          refine g_iinc (pc := 75) (lv' := [(5, .int (y5_20 + (1 : Int32))), (6, .int r43), (0, .ref (a 0)), (2, .int x2_9), (3, .int y3_20), (4, .int y4_20)]) X 5 rfl rfl (by decide) rfl dX6_flattestIn_75 ?_
          refine g_goto (pc := 78) (tgt := 20) X (by decide) dX6_flattestIn_78 ?_
          exact g_lv (ih y3_20 y4_20 (y5_20 + (1 : Int32)) h) [2, 3, 4, 5, 0] rfl
        · have h := ite_f c_53 h
          refine g_iload_n (pc := 56) X rfl 3 rfl dX6_flattestIn_56 ?_
          refine g_iconst (pc := 57) X ic_m1 dX6_flattestIn_57 ?_
          have J68 : ∀ (_ : Unit), J_X6_flattestIn_68 rec20 y5_20 r43 → GPi p l e ({ frames := 2, cells := 0, slots := 0, locals := 45 } : Room) s m args below meth c K 7 D (wC cI cZ cS a) 68 [(0, .ref (a 0)), (2, .int x2_9), (5, .int y5_20), (6, .int r43)] [] σ := by
            intro _ h
            refine g_iload (pc := 68) X 2 rfl dX6_flattestIn_68 ?_
            refine g_istore_n (pc := 70) (lv' := [(3, .int y5_20), (0, .ref (a 0)), (2, .int x2_9), (5, .int y5_20), (6, .int r43)]) X rfl (by decide) rfl dX6_flattestIn_70 ?_
            refine g_iload (pc := 71) X 4 rfl dX6_flattestIn_71 ?_
            refine g_istore (pc := 73) (lv' := [(4, .int r43), (3, .int y5_20), (0, .ref (a 0)), (2, .int x2_9), (5, .int y5_20), (6, .int r43)]) X (by decide) rfl dX6_flattestIn_73 ?_
            refine g_iinc (pc := 75) (lv' := [(5, .int (y5_20 + (1 : Int32))), (4, .int r43), (3, .int y5_20), (0, .ref (a 0)), (2, .int x2_9), (6, .int r43)]) X 4 rfl rfl (by decide) rfl dX6_flattestIn_75 ?_
            refine g_goto (pc := 78) (tgt := 20) X (by decide) dX6_flattestIn_78 ?_
            exact g_lv (ih y5_20 r43 (y5_20 + (1 : Int32)) h) [3, 4, 2, 1, 0] rfl
          refine g_icmp_eq (pc := 58) (tgt := 68) X (by decide) dX6_flattestIn_58 (fun c_58 => ?_) (fun c_58 => ?_)
          · have h := ite_t c_58 h
            exact g_lv (J68 () h) [1, 2, 5, 0] rfl
          · have h := ite_f c_58 h
            refine g_iload (pc := 61) X 0 rfl dX6_flattestIn_61 ?_
            refine g_iload (pc := 63) X 4 rfl dX6_flattestIn_63 ?_
            refine g_icmp_ge (pc := 65) (tgt := 75) X (by decide) dX6_flattestIn_65 (fun c_65 => ?_) (fun c_65 => ?_)
            · have h := ite_t c_65 h
              refine g_iinc (pc := 75) (lv' := [(5, .int (y5_20 + (1 : Int32))), (6, .int r43), (0, .ref (a 0)), (2, .int x2_9), (3, .int y3_20), (4, .int y4_20)]) X 5 rfl rfl (by decide) rfl dX6_flattestIn_75 ?_
              refine g_goto (pc := 78) (tgt := 20) X (by decide) dX6_flattestIn_78 ?_
              exact g_lv (ih y3_20 y4_20 (y5_20 + (1 : Int32)) h) [2, 3, 4, 5, 0] rfl
            · have h := ite_f c_65 h
              exact g_lv (J68 () h) [1, 2, 5, 0] rfl
  exact g_lv (L20 n20 (-1 : Int32) (-10000 : Int32) (0 : Int32) h) [4, 3, 2, 1, 0] rfl
set_option maxRecDepth 20000 in
theorem c_X6_chord (x1 : Int32) (x2 : Int32) (σ : Sg) (K : Int32 → Prop) : Met l yX6_chord (.code yX6_chord cX6_chord 3 (some .int) :: AW) ({ frames := 4, cells := 0, slots := 0, locals := 95 } : Room) (pvP D (tyC cI cZ cS) (wC cI cZ cS a σ) (w_X6_chord x1 x2 σ K) [.ref (a 0), .int x1, .int x2]) (vp_Si K) 0 0 (fun _ => False) := by
  refine met_Pi (own := "TrainNote") (lv := [(0, .ref (a 0)), (1, .int x1), (2, .int x2)]) (by decide +kernel) rfl (Nat.le_of_ble_eq_true rfl) rfl ?_
  intro p e s m args below meth c X hK hr hlk h
  have hR : ∀ σ H locs, hpP D (wC cI cZ cS a) s σ H locs → va_P D vwCl ((wC cI cZ cS a σ)) H := fun _ _ _ h => h.1
  refine g_aload_n (pc := 0) X rfl 0 rfl dX6_chord_0 ?_
  refine g_iload_n (pc := 1) X rfl 1 rfl dX6_chord_1 ?_
  refine g_cVPi (pc := 2) (As := [.int x1]) X hK hR mi_X6_isNoBar (c_X6_isNoBar x1 σ _) (wl_ate (oX6 (cI := cI) (cZ := cZ) (cS := cS) (a := a) k_isTop_0).1 ((oX6 (cI := cI) (cZ := cZ) (cS := cS) (a := a) k_isTop_0).2 _)) rfl rfl kw2_96 ⟨rfl, rfl⟩ ⟨Nat.le_of_ble_eq_true rfl, Nat.le_of_ble_eq_true rfl⟩ rfl (Nat.le_of_ble_eq_true rfl) dX6_chord_2 rfl h (fun r2 h => ?_)
  refine g_if_eq (pc := 5) (tgt := 11) X (by decide) dX6_chord_5 (fun c_5 => ?_) (fun c_5 => ?_)
  · have h := ite_t c_5 h
    refine g_iload_n (pc := 11) X rfl 2 rfl dX6_chord_11 ?_
    by_cases c_12_0 : x2 = (0 : Int32)
    · have h := ite_t c_12_0 h
      refine g_tabI (pc := 12) (tgt := 40) (off := 28) X (by rw [c_12_0]; decide) (by rw [c_12_0]; decide) (by rw [c_12_0] <;> rfl) (by decide) dX6_chord_12 ?_
      refine g_aload_n (pc := 40) X rfl 0 rfl dX6_chord_40 ?_
      refine g_aload_n (pc := 41) X rfl 0 rfl dX6_chord_41 ?_
      refine fX6_24 (pc := 42) X hK hR k_isTop_0 dX6_chord_42 ?_
      refine g_aload_n (pc := 45) X rfl 0 rfl dX6_chord_45 ?_
      refine fX6_41 (pc := 46) X hK hR k_isTop_0 dX6_chord_46 ?_
      refine g_iload_n (pc := 49) X rfl 1 rfl dX6_chord_49 ?_
      refine g_cVPi (pc := 50) (As := [.ref (a 5), .ref (a 26), .int x1]) X hK hR mi_X6_spreadOf (c_X6_spreadOf (k1 := 5) k_isCh_5 (k2 := 26) k_isTr_26 x1 σ _) (wl_ate (oX6 (cI := cI) (cZ := cZ) (cS := cS) (a := a) k_isTop_0).1 ((oX6 (cI := cI) (cZ := cZ) (cS := cS) (a := a) k_isTop_0).2 _)) rfl rfl kw2_111 ⟨rfl, rfl⟩ ⟨Nat.le_of_ble_eq_true rfl, Nat.le_of_ble_eq_true rfl⟩ rfl (Nat.le_of_ble_eq_true rfl) dX6_chord_50 rfl h (fun r50 h => ?_)
      exact g_retPi (pc := 53) X hr hlk dX6_chord_53 h
    · have h := ite_f c_12_0 h
      by_cases c_12_1 : x2 = (1 : Int32)
      · have h := ite_t c_12_1 h
        refine g_tabI (pc := 12) (tgt := 54) (off := 42) X (by rw [c_12_1]; decide) (by rw [c_12_1]; decide) (by rw [c_12_1] <;> rfl) (by decide) dX6_chord_12 ?_
        refine g_aload_n (pc := 54) X rfl 0 rfl dX6_chord_54 ?_
        refine g_aload_n (pc := 55) X rfl 0 rfl dX6_chord_55 ?_
        refine fX6_41 (pc := 56) X hK hR k_isTop_0 dX6_chord_56 ?_
        refine g_iload_n (pc := 59) X rfl 1 rfl dX6_chord_59 ?_
        refine g_cVPi (pc := 60) (As := [.ref (a 26), .int x1]) X hK hR mi_X6_closes (c_X6_closes (k1 := 26) k_isTr_26 x1 σ _) (wl_ate (oX6 (cI := cI) (cZ := cZ) (cS := cS) (a := a) k_isTop_0).1 ((oX6 (cI := cI) (cZ := cZ) (cS := cS) (a := a) k_isTop_0).2 _)) rfl rfl kw2_117 ⟨rfl, rfl⟩ ⟨Nat.le_of_ble_eq_true rfl, Nat.le_of_ble_eq_true rfl⟩ rfl (Nat.le_of_ble_eq_true rfl) dX6_chord_60 rfl h (fun r60 h => ?_)
        refine g_if_eq (pc := 63) (tgt := 70) X (by decide) dX6_chord_63 (fun c_63 => ?_) (fun c_63 => ?_)
        · have h := ite_t c_63 h
          refine g_iconst (pc := 70) X ic_0 dX6_chord_70 ?_
          exact g_retPi (pc := 71) X hr hlk dX6_chord_71 h
        · have h := ite_f c_63 h
          refine g_iconst (pc := 66) X ic_1 dX6_chord_66 ?_
          refine g_goto (pc := 67) (tgt := 71) X (by decide) dX6_chord_67 ?_
          exact g_retPi (pc := 71) X hr hlk dX6_chord_71 h
      · have h := ite_f c_12_1 h
        by_cases c_12_2 : x2 = (2 : Int32)
        · have h := ite_t c_12_2 h
          refine g_tabI (pc := 12) (tgt := 72) (off := 60) X (by rw [c_12_2]; decide) (by rw [c_12_2]; decide) (by rw [c_12_2] <;> rfl) (by decide) dX6_chord_12 ?_
          refine g_aload_n (pc := 72) X rfl 0 rfl dX6_chord_72 ?_
          refine g_iload_n (pc := 73) X rfl 1 rfl dX6_chord_73 ?_
          refine g_cVPi (pc := 74) (As := [.int x1]) X hK hR mi_X6_flattestIn (c_X6_flattestIn x1 σ _) (wl_ate (oX6 (cI := cI) (cZ := cZ) (cS := cS) (a := a) k_isTop_0).1 ((oX6 (cI := cI) (cZ := cZ) (cS := cS) (a := a) k_isTop_0).2 _)) rfl rfl kw2_125 ⟨rfl, rfl⟩ ⟨Nat.le_of_ble_eq_true rfl, Nat.le_of_ble_eq_true rfl⟩ rfl (Nat.le_of_ble_eq_true rfl) dX6_chord_74 rfl h (fun r74 h => ?_)
          exact g_retPi (pc := 77) X hr hlk dX6_chord_77 h
        · have h := ite_f c_12_2 h
          refine g_tabO (pc := 12) (tgt := 78) X (tabOut (fun z z1 z2 => ?_)) (by decide) dX6_chord_12 ?_
          · rcases (show z = 0 ∨ z = 1 ∨ z = 2 by omega) with rfl | rfl | rfl
            · exact lv_neT c_12_0 (by decide)
            · exact lv_neT c_12_1 (by decide)
            · exact lv_neT c_12_2 (by decide)
          · refine g_bipush (pc := 78) X bp_m2 dX6_chord_78 ?_
            exact g_retPi (pc := 80) X hr hlk dX6_chord_80 h
  · have h := ite_f c_5 h
    refine g_bipush (pc := 8) X bp_m2 dX6_chord_8 ?_
    exact g_retPi (pc := 10) X hr hlk dX6_chord_10 h
set_option maxRecDepth 20000 in
theorem c_X6_open (x1 : Int32) (σ : Sg) (K : Int32 → Prop) : Met l yX6_open (.code yX6_open cX6_open 5 (some .int) :: AW) ({ frames := 4, cells := 0, slots := 0, locals := 95 } : Room) (pvP D (tyC cI cZ cS) (wC cI cZ cS a σ) (w_X6_open x1 σ K) [.ref (a 0), .int x1]) (vp_Si K) 0 0 (fun _ => False) := by
  refine met_Pi (own := "TrainNote") (lv := [(0, .ref (a 0)), (1, .int x1)]) (by decide +kernel) rfl (Nat.le_of_ble_eq_true rfl) rfl ?_
  intro p e s m args below meth c X hK hr hlk h
  have hR : ∀ σ H locs, hpP D (wC cI cZ cS a) s σ H locs → va_P D vwCl ((wC cI cZ cS a σ)) H := fun _ _ _ h => h.1
  refine g_iload_n (pc := 0) X rfl 1 rfl dX6_open_0 ?_
  refine g_cS0i (pc := 1) (As := [.int x1]) X mi_X6_isNoChoice (c_X6_isNoChoice x1 _) kw2_89 ⟨rfl, rfl⟩ ⟨Nat.le_of_ble_eq_true rfl, Nat.le_of_ble_eq_true rfl⟩ rfl (Nat.le_of_ble_eq_true rfl) dX6_open_1 rfl h (fun r1 h => ?_)
  refine g_if_eq (pc := 4) (tgt := 10) X (by decide) dX6_open_4 (fun c_4 => ?_) (fun c_4 => ?_)
  · have h := ite_t c_4 h
    refine g_iconst (pc := 10) X ic_m1 dX6_open_10 ?_
    refine g_istore_n (pc := 11) (lv' := [(2, .int (-1 : Int32)), (0, .ref (a 0)), (1, .int x1)]) X rfl (by decide) rfl dX6_open_11 ?_
    refine g_iconst (pc := 12) X ic_0 dX6_open_12 ?_
    refine g_istore_n (pc := 13) (lv' := [(3, .int (0 : Int32)), (2, .int (-1 : Int32)), (0, .ref (a 0)), (1, .int x1)]) X rfl (by decide) rfl dX6_open_13 ?_
    refine g_iconst (pc := 14) X ic_0 dX6_open_14 ?_
    refine g_istore (pc := 15) (lv' := [(4, .int (0 : Int32)), (3, .int (0 : Int32)), (2, .int (-1 : Int32)), (0, .ref (a 0)), (1, .int x1)]) X (by decide) rfl dX6_open_15 ?_
    obtain ⟨n17, h⟩ := h
    have X76 : ∀ (u2_76 : Int32) (u3_76 : Int32), E_X6_open_17 x1 K u2_76 u3_76 → GPi p l e ({ frames := 4, cells := 0, slots := 0, locals := 95 } : Room) s m args below meth c K 5 D (wC cI cZ cS a) 76 [(1, .int x1), (2, .int u2_76), (3, .int u3_76)] [] σ := by
      intro u2_76 u3_76 h
      refine g_iload_n (pc := 76) X rfl 0 rfl dX6_open_76 ?_
      refine g_if_ne (pc := 77) (tgt := 84) X (by decide) dX6_open_77 (fun c_77 => ?_) (fun c_77 => ?_)
      · have h := ite_f c_77 h
        refine g_iload_n (pc := 84) X rfl 2 rfl dX6_open_84 ?_
        exact g_retPi (pc := 85) X hr hlk dX6_open_85 h
      · have h := ite_t c_77 h
        refine g_iload_n (pc := 80) X rfl 1 rfl dX6_open_80 ?_
        refine g_goto (pc := 81) (tgt := 85) X (by decide) dX6_open_81 ?_
        exact g_retPi (pc := 85) X hr hlk dX6_open_85 h
    have L17 : ∀ (n : Nat) (y2_17 : Int32) (y3_17 : Int32) (y4_17 : Int32), lq3 (F_X6_open_17 σ (E_X6_open_17 x1 K)) n y2_17 y3_17 y4_17 → GPi p l e ({ frames := 4, cells := 0, slots := 0, locals := 95 } : Room) s m args below meth c K 5 D (wC cI cZ cS a) 17 [(0, .ref (a 0)), (1, .int x1), (2, .int y2_17), (3, .int y3_17), (4, .int y4_17)] [] σ := by
      intro n
      induction n with
      | zero =>
        intro y2_17 y3_17 y4_17 h
        exact h.elim
      | succ n ih =>
        intro y2_17 y3_17 y4_17 h
        have h : F_X6_open_17 σ (E_X6_open_17 x1 K) (lq3 (F_X6_open_17 σ (E_X6_open_17 x1 K)) n) y2_17 y3_17 y4_17 := h
        refine g_iload (pc := 17) X 4 rfl dX6_open_17 ?_
        refine g_aload_n (pc := 19) X rfl 0 rfl dX6_open_19 ?_
        refine fX6_34 (pc := 20) X hK hR k_isTop_0 dX6_open_20 ?_
        refine fX6_120 (pc := 23) X hK hR k_isSo_23 dX6_open_23 ?_
        refine g_icmp_ge (pc := 26) (tgt := 76) X (by decide) dX6_open_26 (fun c_26 => ?_) (fun c_26 => ?_)
        · have h := ite_t c_26 h
          exact g_lv (X76 y2_17 y3_17 h) [1, 2, 3] rfl
        · have h := ite_f c_26 h
          refine g_aload_n (pc := 29) X rfl 0 rfl dX6_open_29 ?_
          refine fX6_34 (pc := 30) X hK hR k_isTop_0 dX6_open_30 ?_
          refine fX6_121 (pc := 33) X hK hR k_isSo_23 dX6_open_33 ?_
          refine g_iload (pc := 36) X 4 rfl dX6_open_36 ?_
          obtain ⟨h_38, h⟩ := h
          refine aX3_kind (pc := 38) X hK hR k_isSo_23 h_38 dX6_open_38 ?_
          refine g_iconst (pc := 39) X ic_1 dX6_open_39 ?_
          refine g_icmp_eq (pc := 40) (tgt := 70) X (by decide) dX6_open_40 (fun c_40 => ?_) (fun c_40 => ?_)
          · have h := ite_t c_40 h
            refine g_iinc (pc := 70) (lv' := [(4, .int (y4_17 + (1 : Int32))), (0, .ref (a 0)), (1, .int x1), (2, .int y2_17), (3, .int y3_17)]) X 4 rfl rfl (by decide) rfl dX6_open_70 ?_
            refine g_goto (pc := 73) (tgt := 17) X (by decide) dX6_open_73 ?_
            exact g_lv (ih y2_17 y3_17 (y4_17 + (1 : Int32)) h) [1, 2, 3, 4, 0] rfl
          · have h := ite_f c_40 h
            refine g_aload_n (pc := 43) X rfl 0 rfl dX6_open_43 ?_
            refine g_aload_n (pc := 44) X rfl 0 rfl dX6_open_44 ?_
            refine fX6_41 (pc := 45) X hK hR k_isTop_0 dX6_open_45 ?_
            refine g_iload (pc := 48) X 4 rfl dX6_open_48 ?_
            refine g_cVPi (pc := 50) (As := [.ref (a 26), .int y4_17]) X hK hR mi_X6_closes (c_X6_closes (k1 := 26) k_isTr_26 y4_17 σ _) (wl_ate (oX6 (cI := cI) (cZ := cZ) (cS := cS) (a := a) k_isTop_0).1 ((oX6 (cI := cI) (cZ := cZ) (cS := cS) (a := a) k_isTop_0).2 _)) rfl rfl kw2_117 ⟨rfl, rfl⟩ ⟨Nat.le_of_ble_eq_true rfl, Nat.le_of_ble_eq_true rfl⟩ rfl (Nat.le_of_ble_eq_true rfl) dX6_open_50 rfl h (fun r50 h => ?_)
            refine g_if_ne (pc := 53) (tgt := 70) X (by decide) dX6_open_53 (fun c_53 => ?_) (fun c_53 => ?_)
            · have h := ite_f c_53 h
              refine g_iinc (pc := 70) (lv' := [(4, .int (y4_17 + (1 : Int32))), (0, .ref (a 0)), (1, .int x1), (2, .int y2_17), (3, .int y3_17)]) X 4 rfl rfl (by decide) rfl dX6_open_70 ?_
              refine g_goto (pc := 73) (tgt := 17) X (by decide) dX6_open_73 ?_
              exact g_lv (ih y2_17 y3_17 (y4_17 + (1 : Int32)) h) [1, 2, 3, 4, 0] rfl
            · have h := ite_t c_53 h
              refine g_iload_n (pc := 56) X rfl 3 rfl dX6_open_56 ?_
              refine g_if_ne (pc := 57) (tgt := 65) X (by decide) dX6_open_57 (fun c_57 => ?_) (fun c_57 => ?_)
              · have h := ite_f c_57 h
                refine g_iload_n (pc := 65) X rfl 2 rfl dX6_open_65 ?_
                refine g_istore_n (pc := 66) (lv' := [(2, .int y2_17), (0, .ref (a 0)), (1, .int x1), (3, .int y3_17), (4, .int y4_17)]) X rfl (by decide) rfl dX6_open_66 ?_
                refine g_iinc (pc := 67) (lv' := [(3, .int (y3_17 + (1 : Int32))), (2, .int y2_17), (0, .ref (a 0)), (1, .int x1), (4, .int y4_17)]) X 3 rfl rfl (by decide) rfl dX6_open_67 ?_
                refine g_iinc (pc := 70) (lv' := [(4, .int (y4_17 + (1 : Int32))), (3, .int (y3_17 + (1 : Int32))), (2, .int y2_17), (0, .ref (a 0)), (1, .int x1)]) X 4 rfl rfl (by decide) rfl dX6_open_70 ?_
                refine g_goto (pc := 73) (tgt := 17) X (by decide) dX6_open_73 ?_
                exact g_lv (ih y2_17 (y3_17 + (1 : Int32)) (y4_17 + (1 : Int32)) h) [3, 4, 2, 1, 0] rfl
              · have h := ite_t c_57 h
                refine g_iload (pc := 60) X 4 rfl dX6_open_60 ?_
                refine g_goto (pc := 62) (tgt := 66) X (by decide) dX6_open_62 ?_
                refine g_istore_n (pc := 66) (lv' := [(2, .int y4_17), (0, .ref (a 0)), (1, .int x1), (3, .int y3_17), (4, .int y4_17)]) X rfl (by decide) rfl dX6_open_66 ?_
                refine g_iinc (pc := 67) (lv' := [(3, .int (y3_17 + (1 : Int32))), (2, .int y4_17), (0, .ref (a 0)), (1, .int x1), (4, .int y4_17)]) X 3 rfl rfl (by decide) rfl dX6_open_67 ?_
                refine g_iinc (pc := 70) (lv' := [(4, .int (y4_17 + (1 : Int32))), (3, .int (y3_17 + (1 : Int32))), (2, .int y4_17), (0, .ref (a 0)), (1, .int x1)]) X 4 rfl rfl (by decide) rfl dX6_open_70 ?_
                refine g_goto (pc := 73) (tgt := 17) X (by decide) dX6_open_73 ?_
                exact g_lv (ih y4_17 (y3_17 + (1 : Int32)) (y4_17 + (1 : Int32)) h) [3, 4, 2, 1, 0] rfl
    exact g_lv (L17 n17 (-1 : Int32) (0 : Int32) (0 : Int32) h) [3, 4, 2, 1, 0] rfl
  · have h := ite_f c_4 h
    refine g_bipush (pc := 7) X bp_m2 dX6_open_7 ?_
    exact g_retPi (pc := 9) X hr hlk dX6_open_9 h
set_option maxRecDepth 20000 in
theorem c_X0_become {k0 : Nat} (hk0 : isCh k0) {k1 : Nat} (hk1 : isCh k1) (σ : Sg) (K : Sg → Prop) : ∀ sz, Met l yX0_become (.code yX0_become cX0_become 3 (none) :: AW) ({ frames := 0, cells := 0, slots := 0, locals := 0 } : Room) (pvM D (tyC cI cZ cS) (SXC tS tF) (wC cI cZ cS a σ) sz (w_X0_become k0 k1 σ K) [.ref (a k0), .ref (a k1)]) (va_Qv K (atM D (tyC cI cZ cS) (wC cI cZ cS a) (va_A (wC cI cZ cS a σ) sz)) (va_A (wC cI cZ cS a σ) sz)) 0 0 (va_A (wC cI cZ cS a σ) sz) := by
  intro sz
  refine met_Mv (own := "TrainNote$Choir") (lv := [(0, .ref (a k0)), (1, .ref (a k1))]) (by decide +kernel) rfl (Nat.le_of_ble_eq_true rfl) rfl ?_
  intro p e s m args below meth c A X hK hX hA hr hlk h
  have hR : ∀ σ H locs, hpM D (wC cI cZ cS a) A s σ H locs → va_P D vwCl ((wC cI cZ cS a σ)) H := fun _ _ _ h => h.1
  have hok := SXC_ok tS tF
  refine g_aload_n (pc := 0) X rfl 0 rfl dX0_become_0 ?_
  refine g_aload_n (pc := 1) X rfl 1 rfl dX0_become_1 ?_
  refine fX0_9 (pc := 2) X hK hR hk1 dX0_become_2 ?_
  refine pX0_9 (pc := 5) X hK hk0 dX0_become_5 (fun τ5 eτ5 => ?_)
  have h := h τ5 eτ5
  refine g_iconst (pc := 8) X ic_0 dX0_become_8 ?_
  refine g_istore_n (pc := 9) (lv' := [(2, .int (0 : Int32)), (0, .ref (a k0)), (1, .ref (a k1))]) X rfl (by decide) rfl dX0_become_9 ?_
  obtain ⟨n10, h⟩ := h
  have X72 : ∀ (ρe72 : Sg), E_X0_become_10 K ρe72 → GMv p l e ({ frames := 0, cells := 0, slots := 0, locals := 0 } : Room) s m args below meth c K 3 D (tyC cI cZ cS) (wC cI cZ cS a) A 72 [] [] ρe72 := by
    intro ρe72 h
    exact g_retMv (pc := 72) X hK hr hlk dX0_become_72 h
  have L10 : ∀ (n : Nat) (y2_10 : Int32) (ρ10 : Sg), lq2 (F_X0_become_10 k0 k1 (E_X0_become_10 K)) n y2_10 ρ10 → GMv p l e ({ frames := 0, cells := 0, slots := 0, locals := 0 } : Room) s m args below meth c K 3 D (tyC cI cZ cS) (wC cI cZ cS a) A 10 [(0, .ref (a k0)), (1, .ref (a k1)), (2, .int y2_10)] [] ρ10 := by
    intro n
    induction n with
    | zero =>
      intro y2_10 ρ10 h
      exact h.elim
    | succ n ih =>
      intro y2_10 ρ10 h
      have h : F_X0_become_10 k0 k1 (E_X0_become_10 K) (lq2 (F_X0_become_10 k0 k1 (E_X0_become_10 K)) n) y2_10 ρ10 := h
      refine g_iload_n (pc := 10) X rfl 2 rfl dX0_become_10 ?_
      refine g_aload_n (pc := 11) X rfl 0 rfl dX0_become_11 ?_
      refine fX0_9 (pc := 12) X hK hR hk0 dX0_become_12 ?_
      refine g_icmp_ge (pc := 15) (tgt := 72) X (by decide) dX0_become_15 (fun c_15 => ?_) (fun c_15 => ?_)
      · have h := ite_t c_15 h
        exact g_lv (X72 ρ10 h) [] rfl
      · have h := ite_f c_15 h
        refine g_aload_n (pc := 18) X rfl 0 rfl dX0_become_18 ?_
        refine fX0_15 (pc := 19) X hK hR hk0 dX0_become_19 ?_
        refine g_iload_n (pc := 22) X rfl 2 rfl dX0_become_22 ?_
        refine g_aload_n (pc := 23) X rfl 1 rfl dX0_become_23 ?_
        refine fX0_15 (pc := 24) X hK hR hk1 dX0_become_24 ?_
        refine g_iload_n (pc := 27) X rfl 2 rfl dX0_become_27 ?_
        obtain ⟨h_28, h⟩ := h
        refine aX0_place (pc := 28) X hK hR hk1 h_28 dX0_become_28 ?_
        obtain ⟨h_29, h⟩ := h
        refine tX0_place (pc := 29) X hK hk0 h_29 dX0_become_29 (fun τ29 eτ29 => ?_)
        have h := h τ29 eτ29
        refine g_aload_n (pc := 30) X rfl 0 rfl dX0_become_30 ?_
        refine fX0_19 (pc := 31) X hK hR hk0 dX0_become_31 ?_
        refine g_iload_n (pc := 34) X rfl 2 rfl dX0_become_34 ?_
        refine g_aload_n (pc := 35) X rfl 1 rfl dX0_become_35 ?_
        refine fX0_19 (pc := 36) X hK hR hk1 dX0_become_36 ?_
        refine g_iload_n (pc := 39) X rfl 2 rfl dX0_become_39 ?_
        obtain ⟨h_40, h⟩ := h
        refine aX0_wrong (pc := 40) X hK hR hk1 h_40 dX0_become_40 ?_
        obtain ⟨h_41, h⟩ := h
        refine tX0_wrong (pc := 41) X hK hk0 h_41 dX0_become_41 (fun τ41 eτ41 => ?_)
        have h := h τ41 eτ41
        refine g_aload_n (pc := 42) X rfl 0 rfl dX0_become_42 ?_
        refine fX0_22 (pc := 43) X hK hR hk0 dX0_become_43 ?_
        refine g_iload_n (pc := 46) X rfl 2 rfl dX0_become_46 ?_
        refine g_aload_n (pc := 47) X rfl 1 rfl dX0_become_47 ?_
        refine fX0_22 (pc := 48) X hK hR hk1 dX0_become_48 ?_
        refine g_iload_n (pc := 51) X rfl 2 rfl dX0_become_51 ?_
        obtain ⟨h_52, h⟩ := h
        refine aX0_sinks (pc := 52) X hK hR hk1 h_52 dX0_become_52 ?_
        obtain ⟨h_53, h⟩ := h
        refine tX0_sinks (pc := 53) X hK hk0 h_53 dX0_become_53 (fun τ53 eτ53 => ?_)
        have h := h τ53 eτ53
        refine g_aload_n (pc := 54) X rfl 0 rfl dX0_become_54 ?_
        refine fX0_25 (pc := 55) X hK hR hk0 dX0_become_55 ?_
        refine g_iload_n (pc := 58) X rfl 2 rfl dX0_become_58 ?_
        refine g_aload_n (pc := 59) X rfl 1 rfl dX0_become_59 ?_
        refine fX0_25 (pc := 60) X hK hR hk1 dX0_become_60 ?_
        refine g_iload_n (pc := 63) X rfl 2 rfl dX0_become_63 ?_
        obtain ⟨h_64, h⟩ := h
        refine aX0_hears (pc := 64) X hK hR hk1 h_64 dX0_become_64 ?_
        obtain ⟨h_65, h⟩ := h
        refine tX0_hears (pc := 65) X hK hk0 h_65 dX0_become_65 (fun τ65 eτ65 => ?_)
        have h := h τ65 eτ65
        refine g_iinc (pc := 66) (lv' := [(2, .int (y2_10 + (1 : Int32))), (0, .ref (a k0)), (1, .ref (a k1))]) X 2 rfl rfl (by decide) rfl dX0_become_66 ?_
        refine g_goto (pc := 69) (tgt := 10) X (by decide) dX0_become_69 ?_
        exact g_lv (ih (y2_10 + (1 : Int32)) τ65 h) [1, 2, 0] rfl
  exact g_lv (L10 n10 (0 : Int32) τ5 h) [1, 2, 0] rfl
set_option maxRecDepth 20000 in
theorem c_X6_unusedAt (x0 : Int32) (x1 : Int32) (x2 : Int32) (K : Int32 → Prop) : Met l yX6_unusedAt (.code yX6_unusedAt cX6_unusedAt 5 (some .int) :: AW) ({ frames := 0, cells := 0, slots := 0, locals := 0 } : Room) (pv0 (w_X6_unusedAt x0 x1 x2 K) [.int x0, .int x1, .int x2]) (vp_Si K) 0 0 (fun _ => False) := by
  refine met_0i (own := "TrainNote") (lv := [(0, .int x0), (1, .int x1), (2, .int x2)]) (fun _ _ => 0) (by decide +kernel) rfl (Nat.le_of_ble_eq_true rfl) rfl ?_
  intro p e s m args below meth c X hr hlk h
  refine g_iconst (pc := 0) X ic_0 dX6_unusedAt_0 ?_
  refine g_istore_n (pc := 1) (lv' := [(3, .int (0 : Int32)), (0, .int x0), (1, .int x1), (2, .int x2)]) X rfl (by decide) rfl dX6_unusedAt_1 ?_
  refine g_iconst (pc := 2) X ic_0 dX6_unusedAt_2 ?_
  refine g_istore (pc := 3) (lv' := [(4, .int (0 : Int32)), (3, .int (0 : Int32)), (0, .int x0), (1, .int x1), (2, .int x2)]) X (by decide) rfl dX6_unusedAt_3 ?_
  obtain ⟨n5, h⟩ := h
  have X37 : E_X6_unusedAt_5 K → G0i p l e ({ frames := 0, cells := 0, slots := 0, locals := 0 } : Room) s m args below meth c K 5 37 [] []  (fun _ _ => 0) := by
    intro  h
    refine g_iconst (pc := 37) X ic_0 dX6_unusedAt_37 ?_
    exact g_ret0i (pc := 38) X hr hlk dX6_unusedAt_38 h
  have L5 : ∀ (n : Nat) (y3_5 : Int32) (y4_5 : Int32), lq2 (F_X6_unusedAt_5 x2 x1 x0 K (E_X6_unusedAt_5 K)) n y3_5 y4_5 → G0i p l e ({ frames := 0, cells := 0, slots := 0, locals := 0 } : Room) s m args below meth c K 5 5 [(0, .int x0), (1, .int x1), (2, .int x2), (3, .int y3_5), (4, .int y4_5)] []  (fun _ _ => 0) := by
    intro n
    induction n with
    | zero =>
      intro y3_5 y4_5 h
      exact h.elim
    | succ n ih =>
      intro y3_5 y4_5 h
      have h : F_X6_unusedAt_5 x2 x1 x0 K (E_X6_unusedAt_5 K) (lq2 (F_X6_unusedAt_5 x2 x1 x0 K (E_X6_unusedAt_5 K)) n) y3_5 y4_5 := h
      refine g_iload (pc := 5) X 4 rfl dX6_unusedAt_5 ?_
      refine g_iload_n (pc := 7) X rfl 2 rfl dX6_unusedAt_7 ?_
      refine g_icmp_ge (pc := 8) (tgt := 37) X (by decide) dX6_unusedAt_8 (fun c_8 => ?_) (fun c_8 => ?_)
      · have h := ite_t c_8 h
        exact g_lv (X37  h) [] rfl
      · have h := ite_f c_8 h
        refine g_iload_n (pc := 11) X rfl 1 rfl dX6_unusedAt_11 ?_
        refine g_iconst (pc := 12) X ic_1 dX6_unusedAt_12 ?_
        refine g_iload (pc := 13) X 4 rfl dX6_unusedAt_13 ?_
        refine g_ishl (pc := 15) X dX6_unusedAt_15 ?_
        refine g_iand (pc := 16) X dX6_unusedAt_16 ?_
        refine g_if_ne (pc := 17) (tgt := 31) X (by decide) dX6_unusedAt_17 (fun c_17 => ?_) (fun c_17 => ?_)
        · have h := ite_f c_17 h
          refine g_iinc (pc := 31) (lv' := [(4, .int (y4_5 + (1 : Int32))), (0, .int x0), (1, .int x1), (2, .int x2), (3, .int y3_5)]) X 4 rfl rfl (by decide) rfl dX6_unusedAt_31 ?_
          refine g_goto (pc := 34) (tgt := 5) X (by decide) dX6_unusedAt_34 ?_
          exact g_lv (ih y3_5 (y4_5 + (1 : Int32)) h) [1, 2, 3, 4, 0] rfl
        · have h := ite_t c_17 h
          refine g_iload_n (pc := 20) X rfl 3 rfl dX6_unusedAt_20 ?_
          refine g_iload_n (pc := 21) X rfl 0 rfl dX6_unusedAt_21 ?_
          refine g_icmp_ne (pc := 22) (tgt := 28) X (by decide) dX6_unusedAt_22 (fun c_22 => ?_) (fun c_22 => ?_)
          · have h := ite_f c_22 h
            refine g_iinc (pc := 28) (lv' := [(3, .int (y3_5 + (1 : Int32))), (0, .int x0), (1, .int x1), (2, .int x2), (4, .int y4_5)]) X 3 rfl rfl (by decide) rfl dX6_unusedAt_28 ?_
            refine g_iinc (pc := 31) (lv' := [(4, .int (y4_5 + (1 : Int32))), (3, .int (y3_5 + (1 : Int32))), (0, .int x0), (1, .int x1), (2, .int x2)]) X 4 rfl rfl (by decide) rfl dX6_unusedAt_31 ?_
            refine g_goto (pc := 34) (tgt := 5) X (by decide) dX6_unusedAt_34 ?_
            exact g_lv (ih (y3_5 + (1 : Int32)) (y4_5 + (1 : Int32)) h) [2, 3, 4, 1, 0] rfl
          · have h := ite_t c_22 h
            refine g_iload (pc := 25) X 4 rfl dX6_unusedAt_25 ?_
            exact g_ret0i (pc := 27) X hr hlk dX6_unusedAt_27 h
  exact g_lv (L5 n5 (0 : Int32) (0 : Int32) h) [2, 3, 4, 1, 0] rfl
set_option maxRecDepth 20000 in
theorem c_X6_layOrder (x1 : Int32) (x2 : Int32) (σ : Sg) (K : Sg → Prop) : ∀ sz, Met l yX6_layOrder (.code yX6_layOrder cX6_layOrder 7 (none) :: AW) ({ frames := 1, cells := 0, slots := 0, locals := 24 } : Room) (pvM D (tyC cI cZ cS) (SXC tS tF) (wC cI cZ cS a σ) sz (w_X6_layOrder x1 x2 σ K) [.ref (a 0), .int x1, .int x2]) (va_Qv K (atM D (tyC cI cZ cS) (wC cI cZ cS a) (va_A (wC cI cZ cS a σ) sz)) (va_A (wC cI cZ cS a σ) sz)) 0 0 (va_A (wC cI cZ cS a σ) sz) := by
  intro sz
  refine met_Mv (own := "TrainNote") (lv := [(0, .ref (a 0)), (1, .int x1), (2, .int x2)]) (by decide +kernel) rfl (Nat.le_of_ble_eq_true rfl) rfl ?_
  intro p e s m args below meth c A X hK hX hA hr hlk h
  have hR : ∀ σ H locs, hpM D (wC cI cZ cS a) A s σ H locs → va_P D vwCl ((wC cI cZ cS a σ)) H := fun _ _ _ h => h.1
  have hok := SXC_ok tS tF
  refine g_iload_n (pc := 0) X rfl 1 rfl dX6_layOrder_0 ?_
  refine g_istore_n (pc := 1) (lv' := [(3, .int x1), (0, .ref (a 0)), (1, .int x1), (2, .int x2)]) X rfl (by decide) rfl dX6_layOrder_1 ?_
  refine g_iconst (pc := 2) X ic_0 dX6_layOrder_2 ?_
  refine g_istore (pc := 3) (lv' := [(4, .int (0 : Int32)), (3, .int x1), (0, .ref (a 0)), (1, .int x1), (2, .int x2)]) X (by decide) rfl dX6_layOrder_3 ?_
  refine g_iconst (pc := 5) X ic_0 dX6_layOrder_5 ?_
  refine g_istore (pc := 6) (lv' := [(5, .int (0 : Int32)), (4, .int (0 : Int32)), (3, .int x1), (0, .ref (a 0)), (1, .int x1), (2, .int x2)]) X (by decide) rfl dX6_layOrder_6 ?_
  obtain ⟨n8, h⟩ := h
  have X72 : ∀ (ρe72 : Sg), E_X6_layOrder_8 K ρe72 → GMv p l e ({ frames := 1, cells := 0, slots := 0, locals := 24 } : Room) s m args below meth c K 7 D (tyC cI cZ cS) (wC cI cZ cS a) A 72 [] [] ρe72 := by
    intro ρe72 h
    exact g_retMv (pc := 72) X hK hr hlk dX6_layOrder_72 h
  have L8 : ∀ (n : Nat) (y3_8 : Int32) (y4_8 : Int32) (y5_8 : Int32) (ρ8 : Sg), lq4 (F_X6_layOrder_8 x2 (E_X6_layOrder_8 K)) n y3_8 y4_8 y5_8 ρ8 → GMv p l e ({ frames := 1, cells := 0, slots := 0, locals := 24 } : Room) s m args below meth c K 7 D (tyC cI cZ cS) (wC cI cZ cS a) A 8 [(0, .ref (a 0)), (2, .int x2), (3, .int y3_8), (4, .int y4_8), (5, .int y5_8)] [] ρ8 := by
    intro n
    induction n with
    | zero =>
      intro y3_8 y4_8 y5_8 ρ8 h
      exact h.elim
    | succ n ih =>
      intro y3_8 y4_8 y5_8 ρ8 h
      have h : F_X6_layOrder_8 x2 (E_X6_layOrder_8 K) (lq4 (F_X6_layOrder_8 x2 (E_X6_layOrder_8 K)) n) y3_8 y4_8 y5_8 ρ8 := h
      refine g_iload (pc := 8) X 4 rfl dX6_layOrder_8 ?_
      refine g_iload_n (pc := 10) X rfl 1 rfl dX6_layOrder_10 ?_
      refine g_icmp_ge (pc := 11) (tgt := 72) X (by decide) dX6_layOrder_11 (fun c_11 => ?_) (fun c_11 => ?_)
      · have h := ite_t c_11 h
        exact g_lv (X72 ρ8 h) [] rfl
      · have h := ite_f c_11 h
        refine g_iconst (pc := 14) X ic_1 dX6_layOrder_14 ?_
        refine s_378 (pc := 15) X hX dX6_layOrder_15 ?_
        refine g_iload_n (pc := 18) X rfl 1 rfl dX6_layOrder_18 ?_
        refine g_iconst (pc := 19) X ic_1 dX6_layOrder_19 ?_
        refine g_isub (pc := 20) X dX6_layOrder_20 ?_
        refine g_iload (pc := 21) X 4 rfl dX6_layOrder_21 ?_
        refine g_isub (pc := 23) X dX6_layOrder_23 ?_
        obtain ⟨h_24, h⟩ := h
        refine s_378_ld (pc := 24) X hX h_24 dX6_layOrder_24 ?_
        refine g_mmax (pc := 25) X kw2_116 kw2_43 kw1_3 kw2_44 (Nat.le_of_ble_eq_true rfl) (Nat.le_of_ble_eq_true rfl) dX6_layOrder_25 ?_
        refine g_topi (fun m25 em25 => ?_)
        have h := h m25 em25
        refine g_istore (pc := 28) (lv' := [(6, .int m25), (0, .ref (a 0)), (2, .int x2), (3, .int y3_8), (4, .int y4_8), (5, .int y5_8)]) X (by decide) rfl dX6_layOrder_28 ?_
        refine g_aload_n (pc := 30) X rfl 1 rfl dX6_layOrder_30 ?_
        refine fX6_62 (pc := 31) X hK hR k_isTop_0 dX6_layOrder_31 ?_
        refine g_iload (pc := 34) X 5 rfl dX6_layOrder_34 ?_
        refine g_iload_n (pc := 36) X rfl 3 rfl dX6_layOrder_36 ?_
        refine g_iload (pc := 37) X 0 rfl dX6_layOrder_37 ?_
        obtain ⟨h_39, h⟩ := h
        refine g_idiv (pc := 39) X h_39 dX6_layOrder_39 ?_
        refine g_iload (pc := 40) X 4 rfl dX6_layOrder_40 ?_
        refine g_iload_n (pc := 42) X rfl 2 rfl dX6_layOrder_42 ?_
        refine g_cS0i (pc := 43) (As := [.int (y3_8 / m25), .int y4_8, .int x2]) X mi_X6_unusedAt (c_X6_unusedAt (y3_8 / m25) y4_8 x2 _) kw2_155 ⟨rfl, rfl⟩ ⟨Nat.le_of_ble_eq_true rfl, Nat.le_of_ble_eq_true rfl⟩ rfl (Nat.le_of_ble_eq_true rfl) dX6_layOrder_43 rfl h (fun r43 h => ?_)
        obtain ⟨h_46, h⟩ := h
        refine tX6_standing (pc := 46) X hK k_isTop_0 h_46 dX6_layOrder_46 (fun τ46 eτ46 => ?_)
        have h := h τ46 eτ46
        refine g_iload (pc := 47) X 4 rfl dX6_layOrder_47 ?_
        refine g_iconst (pc := 49) X ic_1 dX6_layOrder_49 ?_
        refine g_aload_n (pc := 50) X rfl 1 rfl dX6_layOrder_50 ?_
        refine fX6_62 (pc := 51) X hK hR k_isTop_0 dX6_layOrder_51 ?_
        refine g_iload (pc := 54) X 5 rfl dX6_layOrder_54 ?_
        obtain ⟨h_56, h⟩ := h
        refine aX6_standing (pc := 56) X hK hR k_isTop_0 h_56 dX6_layOrder_56 ?_
        refine g_ishl (pc := 57) X dX6_layOrder_57 ?_
        refine g_ior (pc := 58) X dX6_layOrder_58 ?_
        refine g_topi (fun x4_59 ex4_59 => ?_)
        have h := h x4_59 ex4_59
        refine g_istore (pc := 59) (lv' := [(4, .int x4_59), (6, .int m25), (0, .ref (a 0)), (2, .int x2), (3, .int y3_8), (5, .int y5_8)]) X (by decide) rfl dX6_layOrder_59 ?_
        refine g_iload_n (pc := 61) X rfl 4 rfl dX6_layOrder_61 ?_
        refine g_iload (pc := 62) X 1 rfl dX6_layOrder_62 ?_
        obtain ⟨h_64, h⟩ := h
        refine g_irem (pc := 64) X h_64 dX6_layOrder_64 ?_
        refine g_topi (fun x3_65 ex3_65 => ?_)
        have h := h x3_65 ex3_65
        refine g_istore_n (pc := 65) (lv' := [(3, .int x3_65), (4, .int x4_59), (6, .int m25), (0, .ref (a 0)), (2, .int x2), (5, .int y5_8)]) X rfl (by decide) rfl dX6_layOrder_65 ?_
        refine g_iinc (pc := 66) (lv' := [(5, .int (y5_8 + (1 : Int32))), (3, .int x3_65), (4, .int x4_59), (6, .int m25), (0, .ref (a 0)), (2, .int x2)]) X 5 rfl rfl (by decide) rfl dX6_layOrder_66 ?_
        refine g_goto (pc := 69) (tgt := 8) X (by decide) dX6_layOrder_69 ?_
        exact g_lv (ih x3_65 x4_59 (y5_8 + (1 : Int32)) τ46 h) [4, 5, 1, 2, 0] rfl
  exact g_lv (L8 n8 x1 (0 : Int32) (0 : Int32) σ h) [3, 5, 2, 1, 0] rfl
set_option maxRecDepth 20000 in
theorem c_X6_spreadWhenMoved (x1 : Int32) (x2 : Int32) (x3 : Int32) (σ : Sg) (K : Int32 → Sg → Prop) : ∀ sz, Met l yX6_spreadWhenMoved (.code yX6_spreadWhenMoved cX6_spreadWhenMoved 5 (some .int) :: AW) ({ frames := 3, cells := 0, slots := 0, locals := 73 } : Room) (pvM D (tyC cI cZ cS) (SXC tS tF) (wC cI cZ cS a σ) sz (w_X6_spreadWhenMoved x1 x2 x3 σ K) [.ref (a 0), .int x1, .int x2, .int x3]) (va_Qi K (atM D (tyC cI cZ cS) (wC cI cZ cS a) (va_A (wC cI cZ cS a σ) sz)) (va_A (wC cI cZ cS a σ) sz)) 0 0 (va_A (wC cI cZ cS a σ) sz) := by
  intro sz
  refine met_Mi (own := "TrainNote") (lv := [(0, .ref (a 0)), (1, .int x1), (2, .int x2), (3, .int x3)]) (by decide +kernel) rfl (Nat.le_of_ble_eq_true rfl) rfl ?_
  intro p e s m args below meth c A X hK hX hA hr hlk h
  have hR : ∀ σ H locs, hpM D (wC cI cZ cS a) A s σ H locs → va_P D vwCl ((wC cI cZ cS a σ)) H := fun _ _ _ h => h.1
  have hok := SXC_ok tS tF
  refine g_aload_n (pc := 0) X rfl 0 rfl dX6_spreadWhenMoved_0 ?_
  refine g_iload_n (pc := 1) X rfl 1 rfl dX6_spreadWhenMoved_1 ?_
  refine g_iload_n (pc := 2) X rfl 2 rfl dX6_spreadWhenMoved_2 ?_
  refine g_cVMv (pc := 3) (As := [.int x1, .int x2]) X hK hX hok hA mi_X6_layOrder (c_X6_layOrder x1 x2 σ _) (fun _ => ⟨_, wl_ate (oX6 (cI := cI) (cZ := cZ) (cS := cS) (a := a) k_isTop_0).1 ((oX6 (cI := cI) (cZ := cZ) (cS := cS) (a := a) k_isTop_0).2 _)⟩) rfl rfl kw2_149 ⟨rfl, rfl⟩ ⟨Nat.le_of_ble_eq_true rfl, Nat.le_of_ble_eq_true rfl⟩ rfl (Nat.le_of_ble_eq_true rfl) dX6_spreadWhenMoved_3 rfl h (fun τ3 h => ?_)
  refine g_iconst (pc := 6) X ic_0 dX6_spreadWhenMoved_6 ?_
  refine g_istore (pc := 7) (lv' := [(4, .int (0 : Int32)), (0, .ref (a 0)), (1, .int x1), (2, .int x2), (3, .int x3)]) X (by decide) rfl dX6_spreadWhenMoved_7 ?_
  obtain ⟨n9, h⟩ := h
  have X46 : ∀ (ρe46 : Sg), E_X6_spreadWhenMoved_9 x3 K ρe46 → GMi p l e ({ frames := 3, cells := 0, slots := 0, locals := 73 } : Room) s m args below meth c K 5 D (tyC cI cZ cS) (wC cI cZ cS a) A 46 [(0, .ref (a 0)), (3, .int x3)] [] ρe46 := by
    intro ρe46 h
    refine g_aload_n (pc := 46) X rfl 0 rfl dX6_spreadWhenMoved_46 ?_
    refine fX6_28 (pc := 47) X hK hR k_isTop_0 dX6_spreadWhenMoved_47 ?_
    refine g_cVMv (pc := 50) (As := []) X hK hX hok hA mi_X0_link (c_X0_link (k0 := 14) k_isCh_14 ρe46 _) (fun _ => ⟨_, wl_ate (oX0 (cI := cI) (cZ := cZ) (cS := cS) (a := a) k_isCh_14).1 ((oX0 (cI := cI) (cZ := cZ) (cS := cS) (a := a) k_isCh_14).2 _)⟩) rfl rfl kw2_158 ⟨rfl, rfl⟩ ⟨Nat.le_of_ble_eq_true rfl, Nat.le_of_ble_eq_true rfl⟩ rfl (Nat.le_of_ble_eq_true rfl) dX6_spreadWhenMoved_50 rfl h (fun τ50 h => ?_)
    refine g_aload_n (pc := 53) X rfl 0 rfl dX6_spreadWhenMoved_53 ?_
    refine g_aload_n (pc := 54) X rfl 0 rfl dX6_spreadWhenMoved_54 ?_
    refine fX6_28 (pc := 55) X hK hR k_isTop_0 dX6_spreadWhenMoved_55 ?_
    refine g_aload_n (pc := 58) X rfl 0 rfl dX6_spreadWhenMoved_58 ?_
    refine fX6_41 (pc := 59) X hK hR k_isTop_0 dX6_spreadWhenMoved_59 ?_
    refine g_iload_n (pc := 62) X rfl 1 rfl dX6_spreadWhenMoved_62 ?_
    refine g_cVPi (pc := 63) (As := [.ref (a 14), .ref (a 26), .int x3]) X hK hR mi_X6_spreadOf (c_X6_spreadOf (k1 := 14) k_isCh_14 (k2 := 26) k_isTr_26 x3 τ50 _) (wl_ate (oX6 (cI := cI) (cZ := cZ) (cS := cS) (a := a) k_isTop_0).1 ((oX6 (cI := cI) (cZ := cZ) (cS := cS) (a := a) k_isTop_0).2 _)) rfl rfl kw2_111 ⟨rfl, rfl⟩ ⟨Nat.le_of_ble_eq_true rfl, Nat.le_of_ble_eq_true rfl⟩ rfl (Nat.le_of_ble_eq_true rfl) dX6_spreadWhenMoved_63 rfl h (fun r63 h => ?_)
    exact g_retMi (pc := 66) X hK hr hlk dX6_spreadWhenMoved_66 h
  have L9 : ∀ (n : Nat) (y4_9 : Int32) (ρ9 : Sg), lq2 (F_X6_spreadWhenMoved_9 x2 (E_X6_spreadWhenMoved_9 x3 K)) n y4_9 ρ9 → GMi p l e ({ frames := 3, cells := 0, slots := 0, locals := 73 } : Room) s m args below meth c K 5 D (tyC cI cZ cS) (wC cI cZ cS a) A 9 [(0, .ref (a 0)), (2, .int x2), (3, .int x3), (4, .int y4_9)] [] ρ9 := by
    intro n
    induction n with
    | zero =>
      intro y4_9 ρ9 h
      exact h.elim
    | succ n ih =>
      intro y4_9 ρ9 h
      have h : F_X6_spreadWhenMoved_9 x2 (E_X6_spreadWhenMoved_9 x3 K) (lq2 (F_X6_spreadWhenMoved_9 x2 (E_X6_spreadWhenMoved_9 x3 K)) n) y4_9 ρ9 := h
      refine g_iload (pc := 9) X 3 rfl dX6_spreadWhenMoved_9 ?_
      refine g_iload_n (pc := 11) X rfl 1 rfl dX6_spreadWhenMoved_11 ?_
      refine g_icmp_ge (pc := 12) (tgt := 46) X (by decide) dX6_spreadWhenMoved_12 (fun c_12 => ?_) (fun c_12 => ?_)
      · have h := ite_t c_12 h
        exact g_lv (X46 ρ9 h) [0, 2] rfl
      · have h := ite_f c_12 h
        refine g_aload_n (pc := 15) X rfl 0 rfl dX6_spreadWhenMoved_15 ?_
        refine fX6_28 (pc := 16) X hK hR k_isTop_0 dX6_spreadWhenMoved_16 ?_
        refine fX6_107 (pc := 19) X hK hR k_isCh_14 dX6_spreadWhenMoved_19 ?_
        refine g_iload (pc := 22) X 3 rfl dX6_spreadWhenMoved_22 ?_
        refine g_aload_n (pc := 24) X rfl 0 rfl dX6_spreadWhenMoved_24 ?_
        refine fX6_24 (pc := 25) X hK hR k_isTop_0 dX6_spreadWhenMoved_25 ?_
        refine fX6_107 (pc := 28) X hK hR k_isCh_5 dX6_spreadWhenMoved_28 ?_
        refine g_aload_n (pc := 31) X rfl 0 rfl dX6_spreadWhenMoved_31 ?_
        refine fX6_62 (pc := 32) X hK hR k_isTop_0 dX6_spreadWhenMoved_32 ?_
        refine g_iload (pc := 35) X 3 rfl dX6_spreadWhenMoved_35 ?_
        obtain ⟨h_37, h⟩ := h
        refine aX6_standing (pc := 37) X hK hR k_isTop_0 h_37 dX6_spreadWhenMoved_37 ?_
        obtain ⟨h_38, h⟩ := h
        refine aX0_place (pc := 38) X hK hR k_isCh_5 h_38 dX6_spreadWhenMoved_38 ?_
        obtain ⟨h_39, h⟩ := h
        refine tX0_place (pc := 39) X hK k_isCh_14 h_39 dX6_spreadWhenMoved_39 (fun τ39 eτ39 => ?_)
        have h := h τ39 eτ39
        refine g_iinc (pc := 40) (lv' := [(4, .int (y4_9 + (1 : Int32))), (0, .ref (a 0)), (2, .int x2), (3, .int x3)]) X 3 rfl rfl (by decide) rfl dX6_spreadWhenMoved_40 ?_
        refine g_goto (pc := 43) (tgt := 9) X (by decide) dX6_spreadWhenMoved_43 ?_
        exact g_lv (ih (y4_9 + (1 : Int32)) τ39 h) [1, 2, 3, 0] rfl
  exact g_lv (L9 n9 (0 : Int32) τ3 h) [1, 3, 4, 0] rfl
end
