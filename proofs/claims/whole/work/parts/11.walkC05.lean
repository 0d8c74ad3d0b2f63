section
variable {l : Launch} {D : va_G} {cI cZ cS : ClassId} {a : Nat → Nat} {tS tF : Nat}
set_option maxRecDepth 20000 in
theorem c_X6_herd (x1 : Int32) (x2 : Int32) (x3 : Int32) (x4 : Int32) (σ : Sg) (K : Int64 → Sg → Prop) : ∀ sz, Met l yX6_herd (.code yX6_herd cX6_herd 10 (some .long) :: AW) ({ frames := 5, cells := 0, slots := 0, locals := 123 } : Room) (pvM D (tyC cI cZ cS) (SXC tS tF) (wC cI cZ cS a σ) sz (w_X6_herd x1 x2 x3 x4 σ K) [.ref (a 0), .int x1, .int x2, .int x3, .int x4]) (va_Ql K (atM D (tyC cI cZ cS) (wC cI cZ cS a) (va_A (wC cI cZ cS a σ) sz)) (va_A (wC cI cZ cS a σ) sz)) 0 0 (va_A (wC cI cZ cS a σ) sz) := by
  intro sz
  refine met_Ml (own := "TrainNote") (lv := [(0, .ref (a 0)), (1, .int x1), (2, .int x2), (3, .int x3), (4, .int x4)]) (by decide +kernel) rfl (Nat.le_of_ble_eq_true rfl) rfl ?_
  intro p e s m args below meth c A X hK hX hA hr hlk h
  have hR : ∀ σ H locs, hpM D (wC cI cZ cS a) A s σ H locs → va_P D vwCl ((wC cI cZ cS a σ)) H := fun _ _ _ h => h.1
  have hok := SXC_ok tS tF
  refine g_iload_n (pc := 0) X rfl 1 rfl dX6_herd_0 ?_
  refine g_if_lt (pc := 1) (tgt := 36) X (by decide) dX6_herd_1 (fun c_1 => ?_) (fun c_1 => ?_)
  · have h := ite_t c_1 h
    refine g_ldc2 (pc := 36) X kw3_12 dX6_herd_36 ?_
    exact g_retMl (pc := 39) X hK hr hlk dX6_herd_39 h
  · have h := ite_f c_1 h
    refine g_iload_n (pc := 4) X rfl 1 rfl dX6_herd_4 ?_
    refine g_bipush (pc := 5) X bp_9 dX6_herd_5 ?_
    refine g_icmp_gt (pc := 7) (tgt := 36) X (by decide) dX6_herd_7 (fun c_7 => ?_) (fun c_7 => ?_)
    · have h := ite_t c_7 h
      refine g_ldc2 (pc := 36) X kw3_12 dX6_herd_36 ?_
      exact g_retMl (pc := 39) X hK hr hlk dX6_herd_39 h
    · have h := ite_f c_7 h
      refine g_iload_n (pc := 10) X rfl 2 rfl dX6_herd_10 ?_
      refine g_if_lt (pc := 11) (tgt := 36) X (by decide) dX6_herd_11 (fun c_11 => ?_) (fun c_11 => ?_)
      · have h := ite_t c_11 h
        refine g_ldc2 (pc := 36) X kw3_12 dX6_herd_36 ?_
        exact g_retMl (pc := 39) X hK hr hlk dX6_herd_39 h
      · have h := ite_f c_11 h
        refine g_iload_n (pc := 14) X rfl 2 rfl dX6_herd_14 ?_
        refine g_bipush (pc := 15) X bp_16 dX6_herd_15 ?_
        refine g_icmp_gt (pc := 17) (tgt := 36) X (by decide) dX6_herd_17 (fun c_17 => ?_) (fun c_17 => ?_)
        · have h := ite_t c_17 h
          refine g_ldc2 (pc := 36) X kw3_12 dX6_herd_36 ?_
          exact g_retMl (pc := 39) X hK hr hlk dX6_herd_39 h
        · have h := ite_f c_17 h
          refine g_aload_n (pc := 20) X rfl 0 rfl dX6_herd_20 ?_
          refine g_iload_n (pc := 21) X rfl 3 rfl dX6_herd_21 ?_
          refine g_cVPi (pc := 22) (As := [.int x3]) X hK hR mi_X6_isSung (c_X6_isSung x3 σ _) (wl_ate (oX6 (cI := cI) (cZ := cZ) (cS := cS) (a := a) k_isTop_0).1 ((oX6 (cI := cI) (cZ := cZ) (cS := cS) (a := a) k_isTop_0).2 _)) rfl rfl kw2_121 ⟨rfl, rfl⟩ ⟨Nat.le_of_ble_eq_true rfl, Nat.le_of_ble_eq_true rfl⟩ rfl (Nat.le_of_ble_eq_true rfl) dX6_herd_22 rfl h (fun r22 h => ?_)
          refine g_if_eq (pc := 25) (tgt := 36) X (by decide) dX6_herd_25 (fun c_25 => ?_) (fun c_25 => ?_)
          · have h := ite_t c_25 h
            refine g_ldc2 (pc := 36) X kw3_12 dX6_herd_36 ?_
            exact g_retMl (pc := 39) X hK hr hlk dX6_herd_39 h
          · have h := ite_f c_25 h
            refine g_iload (pc := 28) X 4 rfl dX6_herd_28 ?_
            refine g_cS0i (pc := 30) (As := [.int x4]) X mi_X6_isNoChoice (c_X6_isNoChoice x4 _) kw2_89 ⟨rfl, rfl⟩ ⟨Nat.le_of_ble_eq_true rfl, Nat.le_of_ble_eq_true rfl⟩ rfl (Nat.le_of_ble_eq_true rfl) dX6_herd_30 rfl h (fun r30 h => ?_)
            refine g_if_eq (pc := 33) (tgt := 40) X (by decide) dX6_herd_33 (fun c_33 => ?_) (fun c_33 => ?_)
            · have h := ite_t c_33 h
              refine g_aload_n (pc := 40) X rfl 0 rfl dX6_herd_40 ?_
              refine g_iload_n (pc := 41) X rfl 1 rfl dX6_herd_41 ?_
              refine g_iload_n (pc := 42) X rfl 2 rfl dX6_herd_42 ?_
              refine g_iload_n (pc := 43) X rfl 3 rfl dX6_herd_43 ?_
              refine g_cVMl (pc := 44) (As := [.int x1, .int x2, .int x3]) X hK hX hok hA mi_X6_waysToClose (c_X6_waysToClose x1 x2 x3 σ _) (fun _ => ⟨_, wl_ate (oX6 (cI := cI) (cZ := cZ) (cS := cS) (a := a) k_isTop_0).1 ((oX6 (cI := cI) (cZ := cZ) (cS := cS) (a := a) k_isTop_0).2 _)⟩) rfl rfl kw3_13 ⟨rfl, rfl⟩ ⟨Nat.le_of_ble_eq_true rfl, Nat.le_of_ble_eq_true rfl⟩ rfl (Nat.le_of_ble_eq_true rfl) dX6_herd_44 rfl h (fun r44 τ44 h => ?_)
              refine g_lstore (pc := 47) (lv' := [(5, .long r44), (0, .ref (a 0)), (1, .int x1), (2, .int x2), (3, .int x3), (4, .int x4)]) X (by decide) rfl dX6_herd_47 ?_
              refine g_ldc2 (pc := 49) X kw3_20 dX6_herd_49 ?_
              refine g_iload_n (pc := 52) X rfl 2 rfl dX6_herd_52 ?_
              refine g_cS0l (pc := 53) (As := [.long (16 : Int64), .int x1]) X mi_X6_power (c_X6_power (16 : Int64) x1 _) kw3_17 ⟨rfl, rfl⟩ ⟨Nat.le_of_ble_eq_true rfl, Nat.le_of_ble_eq_true rfl⟩ rfl (Nat.le_of_ble_eq_true rfl) dX6_herd_53 rfl h (fun r53 h => ?_)
              refine g_lstore (pc := 56) (lv' := [(7, .long r53), (5, .long r44), (0, .ref (a 0)), (1, .int x1), (2, .int x2), (3, .int x3), (4, .int x4)]) X (by decide) rfl dX6_herd_56 ?_
              refine g_iconst (pc := 58) X ic_0 dX6_herd_58 ?_
              refine g_istore (pc := 59) (lv' := [(9, .int (0 : Int32)), (7, .long r53), (5, .long r44), (0, .ref (a 0)), (1, .int x1), (2, .int x2), (3, .int x3), (4, .int x4)]) X (by decide) rfl dX6_herd_59 ?_
              obtain ⟨n61, h⟩ := h
              have X102 : ∀ (u5_102 : Int64) (u7_102 : Int64), E_X6_herd_61 x4 K τ44 u5_102 u7_102 → GMl p l e ({ frames := 5, cells := 0, slots := 0, locals := 123 } : Room) s m args below meth c K 10 D (tyC cI cZ cS) (wC cI cZ cS a) A 102 [(4, .int x4), (5, .long u5_102), (7, .long u7_102)] [] τ44 := by
                intro u5_102 u7_102 h
                refine g_iload (pc := 102) X 0 rfl dX6_herd_102 ?_
                refine g_if_ne (pc := 104) (tgt := 112) X (by decide) dX6_herd_104 (fun c_104 => ?_) (fun c_104 => ?_)
                · have h := ite_f c_104 h
                  refine g_lload (pc := 112) X 2 rfl dX6_herd_112 ?_
                  exact g_retMl (pc := 114) X hK hr hlk dX6_herd_114 h
                · have h := ite_t c_104 h
                  refine g_lload (pc := 107) X 1 rfl dX6_herd_107 ?_
                  refine g_goto (pc := 109) (tgt := 114) X (by decide) dX6_herd_109 ?_
                  exact g_retMl (pc := 114) X hK hr hlk dX6_herd_114 h
              have L61 : ∀ (n : Nat) (y5_61 : Int64) (y7_61 : Int64) (y9_61 : Int32), lq3 (F_X6_herd_61 x1 (E_X6_herd_61 x4 K τ44)) n y5_61 y7_61 y9_61 → GMl p l e ({ frames := 5, cells := 0, slots := 0, locals := 123 } : Room) s m args below meth c K 10 D (tyC cI cZ cS) (wC cI cZ cS a) A 61 [(1, .int x1), (4, .int x4), (5, .long y5_61), (7, .long y7_61), (9, .int y9_61)] [] τ44 := by
                intro n
                induction n with
                | zero =>
                  intro y5_61 y7_61 y9_61 h
                  exact h.elim
                | succ n ih =>
                  intro y5_61 y7_61 y9_61 h
                  have h : F_X6_herd_61 x1 (E_X6_herd_61 x4 K τ44) (lq3 (F_X6_herd_61 x1 (E_X6_herd_61 x4 K τ44)) n) y5_61 y7_61 y9_61 := h
                  refine g_iload (pc := 61) X 4 rfl dX6_herd_61 ?_
                  refine g_iconst (pc := 63) X ic_4 dX6_herd_63 ?_
                  refine g_iload_n (pc := 64) X rfl 0 rfl dX6_herd_64 ?_
                  refine g_imul (pc := 65) X dX6_herd_65 ?_
                  refine g_icmp_ge (pc := 66) (tgt := 102) X (by decide) dX6_herd_66 (fun c_66 => ?_) (fun c_66 => ?_)
                  · have h := ite_t c_66 h
                    exact g_lv (X102 y5_61 y7_61 h) [1, 2, 3] rfl
                  · have h := ite_f c_66 h
                    refine g_lload (pc := 69) X 2 rfl dX6_herd_69 ?_
                    refine g_ldc2 (pc := 71) X kw3_21 dX6_herd_71 ?_
                    refine g_lrem (pc := 74) X (by decide) dX6_herd_74 ?_
                    refine g_lconst (pc := 75) (v := 0) X rfl dX6_herd_75 ?_
                    refine g_lcmp (pc := 76) X dX6_herd_76 ?_
                    refine g_if_ne (pc := 77) (tgt := 102) X (by decide) dX6_herd_77 (fun c_77 => ?_) (fun c_77 => ?_)
                    · have h := ite_f c_77 h
                      exact g_lv (X102 y5_61 y7_61 h) [1, 2, 3] rfl
                    · have h := ite_t c_77 h
                      refine g_lload (pc := 80) X 2 rfl dX6_herd_80 ?_
                      refine g_ldc2 (pc := 82) X kw3_21 dX6_herd_82 ?_
                      refine g_ldiv (pc := 85) X (by decide) dX6_herd_85 ?_
                      refine g_lstore (pc := 86) (lv' := [(5, .long (y5_61 / (2 : Int64))), (1, .int x1), (4, .int x4), (7, .long y7_61), (9, .int y9_61)]) X (by decide) rfl dX6_herd_86 ?_
                      refine g_lload (pc := 88) X 3 rfl dX6_herd_88 ?_
                      refine g_ldc2 (pc := 90) X kw3_21 dX6_herd_90 ?_
                      refine g_ldiv (pc := 93) X (by decide) dX6_herd_93 ?_
                      refine g_lstore (pc := 94) (lv' := [(7, .long (y7_61 / (2 : Int64))), (5, .long (y5_61 / (2 : Int64))), (1, .int x1), (4, .int x4), (9, .int y9_61)]) X (by decide) rfl dX6_herd_94 ?_
                      refine g_iinc (pc := 96) (lv' := [(9, .int (y9_61 + (1 : Int32))), (7, .long (y7_61 / (2 : Int64))), (5, .long (y5_61 / (2 : Int64))), (1, .int x1), (4, .int x4)]) X 4 rfl rfl (by decide) rfl dX6_herd_96 ?_
                      refine g_goto (pc := 99) (tgt := 61) X (by decide) dX6_herd_99 ?_
                      exact g_lv (ih (y5_61 / (2 : Int64)) (y7_61 / (2 : Int64)) (y9_61 + (1 : Int32)) h) [3, 4, 2, 1, 0] rfl
              exact g_lv (L61 n61 r44 r53 (0 : Int32) h) [4, 7, 2, 1, 0] rfl
            · have h := ite_f c_33 h
              refine g_ldc2 (pc := 36) X kw3_12 dX6_herd_36 ?_
              exact g_retMl (pc := 39) X hK hr hlk dX6_herd_39 h
set_option maxRecDepth 20000 in
theorem c_X6_nextSeed (x0 : Int32) (K : Int32 → Prop) : Met l yX6_nextSeed (.code yX6_nextSeed cX6_nextSeed 1 (some .int) :: AW) ({ frames := 0, cells := 0, slots := 0, locals := 0 } : Room) (pv0 (w_X6_nextSeed x0 K) [.int x0]) (vp_Si K) 0 0 (fun _ => False) := by
  refine met_0i (own := "TrainNote") (lv := [(0, .int x0)]) (fun _ _ => 0) (by decide +kernel) rfl (Nat.le_of_ble_eq_true rfl) rfl ?_
  intro p e s m args below meth c X hr hlk h
  refine g_ldcw (pc := 0) X kw3_29 dX6_nextSeed_0 ?_
  refine g_iload_n (pc := 3) X rfl 0 rfl dX6_nextSeed_3 ?_
  refine g_imul (pc := 4) X dX6_nextSeed_4 ?_
  refine g_sipush (pc := 5) X sp_12345 dX6_nextSeed_5 ?_
  refine g_iadd (pc := 8) X dX6_nextSeed_8 ?_
  exact g_ret0i (pc := 9) X hr hlk dX6_nextSeed_9 h
set_option maxRecDepth 20000 in
theorem c_X6_lotOf (x0 : Int32) (x1 : Int32) (K : Int32 → Prop) : Met l yX6_lotOf (.code yX6_lotOf cX6_lotOf 2 (some .int) :: AW) ({ frames := 0, cells := 0, slots := 0, locals := 0 } : Room) (pv0 (w_X6_lotOf x0 x1 K) [.int x0, .int x1]) (vp_Si K) 0 0 (fun _ => False) := by
  refine met_0i (own := "TrainNote") (lv := [(0, .int x0), (1, .int x1)]) (fun _ _ => 0) (by decide +kernel) rfl (Nat.le_of_ble_eq_true rfl) rfl ?_
  intro p e s m args below meth c X hr hlk h
  refine g_iload_n (pc := 0) X rfl 1 rfl dX6_lotOf_0 ?_
  refine g_if_le (pc := 1) (tgt := 13) X (by decide) dX6_lotOf_1 (fun c_1 => ?_) (fun c_1 => ?_)
  · have h := ite_t c_1 h
    refine g_iconst (pc := 13) X ic_0 dX6_lotOf_13 ?_
    exact g_ret0i (pc := 14) X hr hlk dX6_lotOf_14 h
  · have h := ite_f c_1 h
    refine g_iload_n (pc := 4) X rfl 0 rfl dX6_lotOf_4 ?_
    refine g_bipush (pc := 5) X bp_16 dX6_lotOf_5 ?_
    refine g_iushr (pc := 7) X dX6_lotOf_7 ?_
    refine g_iload_n (pc := 8) X rfl 1 rfl dX6_lotOf_8 ?_
    obtain ⟨h_9, h⟩ := h
    refine g_irem (pc := 9) X h_9 dX6_lotOf_9 ?_
    refine g_goto (pc := 10) (tgt := 14) X (by decide) dX6_lotOf_10 ?_
    exact g_ret0i (pc := 14) X hr hlk dX6_lotOf_14 h
set_option maxRecDepth 20000 in
theorem c_X6_times (x1 : Int32) (x2 : Int32) (x3 : Int32) (σ : Sg) (K : Int32 → Sg → Prop) : ∀ sz, Met l yX6_times (.code yX6_times cX6_times 7 (some .int) :: AW) ({ frames := 4, cells := 0, slots := 0, locals := 95 } : Room) (pvM D (tyC cI cZ cS) (SXC tS tF) (wC cI cZ cS a σ) sz (w_X6_times x1 x2 x3 σ K) [.ref (a 0), .int x1, .int x2, .int x3]) (va_Qi K (atM D (tyC cI cZ cS) (wC cI cZ cS a) (va_A (wC cI cZ cS a σ) sz)) (va_A (wC cI cZ cS a σ) sz)) 0 0 (va_A (wC cI cZ cS a σ) sz) := by
  intro sz
  refine met_Mi (own := "TrainNote") (lv := [(0, .ref (a 0)), (1, .int x1), (2, .int x2), (3, .int x3)]) (by decide +kernel) rfl (Nat.le_of_ble_eq_true rfl) rfl ?_
  intro p e s m args below meth c A X hK hX hA hr hlk h
  have hR : ∀ σ H locs, hpM D (wC cI cZ cS a) A s σ H locs → va_P D vwCl ((wC cI cZ cS a σ)) H := fun _ _ _ h => h.1
  have hok := SXC_ok tS tF
  refine g_iload_n (pc := 0) X rfl 2 rfl dX6_times_0 ?_
  refine g_iconst (pc := 1) X ic_1 dX6_times_1 ?_
  refine g_icmp_lt (pc := 2) (tgt := 19) X (by decide) dX6_times_2 (fun c_2 => ?_) (fun c_2 => ?_)
  · have h := ite_t c_2 h
    refine g_bipush (pc := 19) X bp_m2 dX6_times_19 ?_
    exact g_retMi (pc := 21) X hK hr hlk dX6_times_21 h
  · have h := ite_f c_2 h
    refine g_iload_n (pc := 5) X rfl 2 rfl dX6_times_5 ?_
    refine g_bipush (pc := 6) X bp_99 dX6_times_6 ?_
    refine g_icmp_gt (pc := 8) (tgt := 19) X (by decide) dX6_times_8 (fun c_8 => ?_) (fun c_8 => ?_)
    · have h := ite_t c_8 h
      refine g_bipush (pc := 19) X bp_m2 dX6_times_19 ?_
      exact g_retMi (pc := 21) X hK hr hlk dX6_times_21 h
    · have h := ite_f c_8 h
      refine g_aload_n (pc := 11) X rfl 0 rfl dX6_times_11 ?_
      refine g_iload_n (pc := 12) X rfl 3 rfl dX6_times_12 ?_
      refine g_cVPi (pc := 13) (As := [.int x3]) X hK hR mi_X6_isSung (c_X6_isSung x3 σ _) (wl_ate (oX6 (cI := cI) (cZ := cZ) (cS := cS) (a := a) k_isTop_0).1 ((oX6 (cI := cI) (cZ := cZ) (cS := cS) (a := a) k_isTop_0).2 _)) rfl rfl kw2_121 ⟨rfl, rfl⟩ ⟨Nat.le_of_ble_eq_true rfl, Nat.le_of_ble_eq_true rfl⟩ rfl (Nat.le_of_ble_eq_true rfl) dX6_times_13 rfl h (fun r13 h => ?_)
      refine g_if_ne (pc := 16) (tgt := 22) X (by decide) dX6_times_16 (fun c_16 => ?_) (fun c_16 => ?_)
      · have h := ite_f c_16 h
        refine g_aload_n (pc := 22) X rfl 0 rfl dX6_times_22 ?_
        refine fX6_45 (pc := 23) X hK hR k_isTop_0 dX6_times_23 ?_
        refine g_aload_n (pc := 26) X rfl 0 rfl dX6_times_26 ?_
        refine fX6_41 (pc := 27) X hK hR k_isTop_0 dX6_times_27 ?_
        refine g_cVMv (pc := 30) (As := [.ref (a 26)]) X hK hX hok hA mi_X5_become (c_X5_become (k0 := 27) k_isTr_27 (k1 := 26) k_isTr_26 σ _) (fun _ => ⟨_, wl_ate (oX5 (cI := cI) (cZ := cZ) (cS := cS) (a := a) k_isTr_27).1 ((oX5 (cI := cI) (cZ := cZ) (cS := cS) (a := a) k_isTr_27).2 _)⟩) rfl rfl kw2_184 ⟨rfl, rfl⟩ ⟨Nat.le_of_ble_eq_true rfl, Nat.le_of_ble_eq_true rfl⟩ rfl (Nat.le_of_ble_eq_true rfl) dX6_times_30 rfl h (fun τ30 h => ?_)
        refine g_iload_n (pc := 33) X rfl 1 rfl dX6_times_33 ?_
        refine g_istore (pc := 34) (lv' := [(4, .int x1), (0, .ref (a 0)), (1, .int x1), (2, .int x2), (3, .int x3)]) X (by decide) rfl dX6_times_34 ?_
        refine g_iconst (pc := 36) X ic_0 dX6_times_36 ?_
        refine g_istore (pc := 37) (lv' := [(5, .int (0 : Int32)), (4, .int x1), (0, .ref (a 0)), (1, .int x1), (2, .int x2), (3, .int x3)]) X (by decide) rfl dX6_times_37 ?_
        refine g_iconst (pc := 39) X ic_0 dX6_times_39 ?_
        refine g_istore (pc := 40) (lv' := [(6, .int (0 : Int32)), (5, .int (0 : Int32)), (4, .int x1), (0, .ref (a 0)), (1, .int x1), (2, .int x2), (3, .int x3)]) X (by decide) rfl dX6_times_40 ?_
        obtain ⟨n42, h⟩ := h
        have X118 : ∀ (u5_118 : Int32) (ρe118 : Sg), E_X6_times_42 K u5_118 ρe118 → GMi p l e ({ frames := 4, cells := 0, slots := 0, locals := 95 } : Room) s m args below meth c K 7 D (tyC cI cZ cS) (wC cI cZ cS a) A 118 [(5, .int u5_118)] [] ρe118 := by
          intro u5_118 ρe118 h
          refine g_iload (pc := 118) X 0 rfl dX6_times_118 ?_
          exact g_retMi (pc := 120) X hK hr hlk dX6_times_120 h
        have L42 : ∀ (n : Nat) (y4_42 : Int32) (y5_42 : Int32) (y6_42 : Int32) (ρ42 : Sg), lq4 (F_X6_times_42 x2 x3 (E_X6_times_42 K)) n y4_42 y5_42 y6_42 ρ42 → GMi p l e ({ frames := 4, cells := 0, slots := 0, locals := 95 } : Room) s m args below meth c K 7 D (tyC cI cZ cS) (wC cI cZ cS a) A 42 [(0, .ref (a 0)), (2, .int x2), (3, .int x3), (4, .int y4_42), (5, .int y5_42), (6, .int y6_42)] [] ρ42 := by
          intro n
          induction n with
          | zero =>
            intro y4_42 y5_42 y6_42 ρ42 h
            exact h.elim
          | succ n ih =>
            intro y4_42 y5_42 y6_42 ρ42 h
            have h : F_X6_times_42 x2 x3 (E_X6_times_42 K) (lq4 (F_X6_times_42 x2 x3 (E_X6_times_42 K)) n) y4_42 y5_42 y6_42 ρ42 := h
            refine g_iload (pc := 42) X 5 rfl dX6_times_42 ?_
            refine g_iload_n (pc := 44) X rfl 1 rfl dX6_times_44 ?_
            refine g_icmp_ge (pc := 45) (tgt := 118) X (by decide) dX6_times_45 (fun c_45 => ?_) (fun c_45 => ?_)
            · have h := ite_t c_45 h
              exact g_lv (X118 y5_42 ρ42 h) [4] rfl
            · have h := ite_f c_45 h
              refine g_iload (pc := 48) X 3 rfl dX6_times_48 ?_
              refine g_cS0i (pc := 50) (As := [.int y4_42]) X mi_X6_nextSeed (c_X6_nextSeed y4_42 _) kw3_26 ⟨rfl, rfl⟩ ⟨Nat.le_of_ble_eq_true rfl, Nat.le_of_ble_eq_true rfl⟩ rfl (Nat.le_of_ble_eq_true rfl) dX6_times_50 rfl h (fun r50 h => ?_)
              refine g_istore (pc := 53) (lv' := [(4, .int r50), (0, .ref (a 0)), (2, .int x2), (3, .int x3), (5, .int y5_42), (6, .int y6_42)]) X (by decide) rfl dX6_times_53 ?_
              refine g_aload_n (pc := 55) X rfl 1 rfl dX6_times_55 ?_
              refine fX6_45 (pc := 56) X hK hR k_isTop_0 dX6_times_56 ?_
              refine g_iload (pc := 59) X 0 rfl dX6_times_59 ?_
              refine g_bipush (pc := 61) X bp_100 dX6_times_61 ?_
              refine g_cS0i (pc := 63) (As := [.int r50, .int (100 : Int32)]) X mi_X6_lotOf (c_X6_lotOf r50 (100 : Int32) _) kw3_30 ⟨rfl, rfl⟩ ⟨Nat.le_of_ble_eq_true rfl, Nat.le_of_ble_eq_true rfl⟩ rfl (Nat.le_of_ble_eq_true rfl) dX6_times_63 rfl h (fun r63 h => ?_)
              refine pX6_198 (pc := 66) X hK k_isTr_27 dX6_times_66 (fun τ66 eτ66 => ?_)
              have h := h τ66 eτ66
              refine g_iload (pc := 69) X 0 rfl dX6_times_69 ?_
              refine g_cS0i (pc := 71) (As := [.int r50]) X mi_X6_nextSeed (c_X6_nextSeed r50 _) kw3_26 ⟨rfl, rfl⟩ ⟨Nat.le_of_ble_eq_true rfl, Nat.le_of_ble_eq_true rfl⟩ rfl (Nat.le_of_ble_eq_true rfl) dX6_times_71 rfl h (fun r71 h => ?_)
              refine g_istore (pc := 74) (lv' := [(4, .int r71), (0, .ref (a 0)), (2, .int x2), (3, .int x3), (5, .int y5_42), (6, .int y6_42)]) X (by decide) rfl dX6_times_74 ?_
              refine g_aload_n (pc := 76) X rfl 1 rfl dX6_times_76 ?_
              refine fX6_45 (pc := 77) X hK hR k_isTop_0 dX6_times_77 ?_
              refine g_iload (pc := 80) X 0 rfl dX6_times_80 ?_
              refine g_bipush (pc := 82) X bp_19 dX6_times_82 ?_
              refine g_cS0i (pc := 84) (As := [.int r71, .int (19 : Int32)]) X mi_X6_lotOf (c_X6_lotOf r71 (19 : Int32) _) kw3_30 ⟨rfl, rfl⟩ ⟨Nat.le_of_ble_eq_true rfl, Nat.le_of_ble_eq_true rfl⟩ rfl (Nat.le_of_ble_eq_true rfl) dX6_times_84 rfl h (fun r84 h => ?_)
              refine pX6_260 (pc := 87) X hK k_isTr_27 dX6_times_87 (fun τ87 eτ87 => ?_)
              have h := h τ87 eτ87
              refine g_iload (pc := 90) X 4 rfl dX6_times_90 ?_
              refine g_aload_n (pc := 92) X rfl 1 rfl dX6_times_92 ?_
              refine g_aload_n (pc := 93) X rfl 1 rfl dX6_times_93 ?_
              refine fX6_45 (pc := 94) X hK hR k_isTop_0 dX6_times_94 ?_
              refine g_iload_n (pc := 97) X rfl 3 rfl dX6_times_97 ?_
              refine g_cVPi (pc := 98) (As := [.ref (a 27), .int x3]) X hK hR mi_X6_closes (c_X6_closes (k1 := 27) k_isTr_27 x3 τ87 _) (wl_ate (oX6 (cI := cI) (cZ := cZ) (cS := cS) (a := a) k_isTop_0).1 ((oX6 (cI := cI) (cZ := cZ) (cS := cS) (a := a) k_isTop_0).2 _)) rfl rfl kw2_117 ⟨rfl, rfl⟩ ⟨Nat.le_of_ble_eq_true rfl, Nat.le_of_ble_eq_true rfl⟩ rfl (Nat.le_of_ble_eq_true rfl) dX6_times_98 rfl h (fun r98 h => ?_)
              refine g_if_eq (pc := 101) (tgt := 108) X (by decide) dX6_times_101 (fun c_101 => ?_) (fun c_101 => ?_)
              · have h := ite_t c_101 h
                refine g_iconst (pc := 108) X ic_0 dX6_times_108 ?_
                refine g_iadd (pc := 109) X dX6_times_109 ?_
                refine g_istore (pc := 110) (lv' := [(5, .int (y5_42 + (0 : Int32))), (4, .int r71), (0, .ref (a 0)), (2, .int x2), (3, .int x3), (6, .int y6_42)]) X (by decide) rfl dX6_times_110 ?_
                refine g_iinc (pc := 112) (lv' := [(6, .int (y6_42 + (1 : Int32))), (5, .int (y5_42 + (0 : Int32))), (4, .int r71), (0, .ref (a 0)), (2, .int x2), (3, .int x3)]) X 5 rfl rfl (by decide) rfl dX6_times_112 ?_
                refine g_goto (pc := 115) (tgt := 42) X (by decide) dX6_times_115 ?_
                exact g_lv (ih r71 (y5_42 + (0 : Int32)) (y6_42 + (1 : Int32)) τ87 h) [3, 4, 5, 2, 1, 0] rfl
              · have h := ite_f c_101 h
                refine g_iconst (pc := 104) X ic_1 dX6_times_104 ?_
                refine g_goto (pc := 105) (tgt := 109) X (by decide) dX6_times_105 ?_
                refine g_iadd (pc := 109) X dX6_times_109 ?_
                refine g_istore (pc := 110) (lv' := [(5, .int (y5_42 + (1 : Int32))), (4, .int r71), (0, .ref (a 0)), (2, .int x2), (3, .int x3), (6, .int y6_42)]) X (by decide) rfl dX6_times_110 ?_
                refine g_iinc (pc := 112) (lv' := [(6, .int (y6_42 + (1 : Int32))), (5, .int (y5_42 + (1 : Int32))), (4, .int r71), (0, .ref (a 0)), (2, .int x2), (3, .int x3)]) X 5 rfl rfl (by decide) rfl dX6_times_112 ?_
                refine g_goto (pc := 115) (tgt := 42) X (by decide) dX6_times_115 ?_
                exact g_lv (ih r71 (y5_42 + (1 : Int32)) (y6_42 + (1 : Int32)) τ87 h) [3, 4, 5, 2, 1, 0] rfl
        exact g_lv (L42 n42 x1 (0 : Int32) (0 : Int32) τ30 h) [3, 5, 6, 2, 1, 0] rfl
      · have h := ite_t c_16 h
        refine g_bipush (pc := 19) X bp_m2 dX6_times_19 ?_
        exact g_retMi (pc := 21) X hK hr hlk dX6_times_21 h
set_option maxRecDepth 20000 in
theorem c_X6_isNoForm (x0 : Int32) (K : Int32 → Prop) : Met l yX6_isNoForm (.code yX6_isNoForm cX6_isNoForm 1 (some .boolean) :: AW) ({ frames := 0, cells := 0, slots := 0, locals := 0 } : Room) (pv0 (w_X6_isNoForm x0 K) [.int x0]) (vp_Si K) 0 0 (fun _ => False) := by
  refine met_0i (own := "TrainNote") (lv := [(0, .int x0)]) (fun _ _ => 0) (by decide +kernel) rfl (Nat.le_of_ble_eq_true rfl) rfl ?_
  intro p e s m args below meth c X hr hlk h
  refine g_iload_n (pc := 0) X rfl 0 rfl dX6_isNoForm_0 ?_
  refine g_if_lt (pc := 1) (tgt := 9) X (by decide) dX6_isNoForm_1 (fun c_1 => ?_) (fun c_1 => ?_)
  · have h := ite_t c_1 h
    refine g_iconst (pc := 9) X ic_1 dX6_isNoForm_9 ?_
    refine g_goto (pc := 10) (tgt := 14) X (by decide) dX6_isNoForm_10 ?_
    exact g_ret0z (pc := 14) X hr hlk dX6_isNoForm_14 (Or.inr rfl) h
  · have h := ite_f c_1 h
    refine g_iload_n (pc := 4) X rfl 0 rfl dX6_isNoForm_4 ?_
    refine g_iconst (pc := 5) X ic_3 dX6_isNoForm_5 ?_
    refine g_icmp_lt (pc := 6) (tgt := 13) X (by decide) dX6_isNoForm_6 (fun c_6 => ?_) (fun c_6 => ?_)
    · have h := ite_t c_6 h
      refine g_iconst (pc := 13) X ic_0 dX6_isNoForm_13 ?_
      exact g_ret0z (pc := 14) X hr hlk dX6_isNoForm_14 (Or.inl rfl) h
    · have h := ite_f c_6 h
      refine g_iconst (pc := 9) X ic_1 dX6_isNoForm_9 ?_
      refine g_goto (pc := 10) (tgt := 14) X (by decide) dX6_isNoForm_10 ?_
      exact g_ret0z (pc := 14) X hr hlk dX6_isNoForm_14 (Or.inr rfl) h
set_option maxRecDepth 20000 in
theorem c_J7_fill_53178 {k0 : Nat} (hk0 : isSh k0) (x1 : Int32) (σ : Sg) (K : Sg → Prop) : ∀ sz, Met l yJ7_fill_53178 (.code yJ7_fill_53178 cJ7_fill_53178 4 (none) :: AW) ({ frames := 0, cells := 0, slots := 0, locals := 0 } : Room) (pvM D (tyC cI cZ cS) (SXC tS tF) (wC cI cZ cS a σ) sz (w_J7_fill_53178 k0 x1 σ K) [.ref (a (k0 + 1)), .int x1]) (va_Qv K (atM D (tyC cI cZ cS) (wC cI cZ cS a) (va_A (wC cI cZ cS a σ) sz)) (va_A (wC cI cZ cS a σ) sz)) 0 0 (va_A (wC cI cZ cS a σ) sz) := by
  intro sz
  refine met_Mv (own := "java/util/Arrays") (lv := [(0, .ref (a (k0 + 1))), (1, .int x1)]) (by decide +kernel) rfl (Nat.le_of_ble_eq_true rfl) rfl ?_
  intro p e s m args below meth c A X hK hX hA hr hlk h
  have hR : ∀ σ H locs, hpM D (wC cI cZ cS a) A s σ H locs → va_P D vwCl ((wC cI cZ cS a σ)) H := fun _ _ _ h => h.1
  have hok := SXC_ok tS tF
  refine g_iconst (pc := 0) X ic_0 dJ7_fill_53178_0 ?_
  refine g_istore_n (pc := 1) (lv' := [(2, .int (0 : Int32)), (0, .ref (a (k0 + 1))), (1, .int x1)]) X rfl (by decide) rfl dJ7_fill_53178_1 ?_
  refine g_aload_n (pc := 2) X rfl 1 rfl dJ7_fill_53178_2 ?_
  refine nX2_items (pc := 3) X hK hR hk0 dJ7_fill_53178_3 ?_
  refine g_istore_n (pc := 4) (lv' := [(3, .int (60 : Int32)), (2, .int (0 : Int32)), (0, .ref (a (k0 + 1))), (1, .int x1)]) X rfl (by decide) rfl dJ7_fill_53178_4 ?_
  obtain ⟨n5, h⟩ := h
  have X20 : ∀ (ρe20 : Sg), E_J7_fill_53178_5 K ρe20 → GMv p l e ({ frames := 0, cells := 0, slots := 0, locals := 0 } : Room) s m args below meth c K 4 D (tyC cI cZ cS) (wC cI cZ cS a) A 20 [] [] ρe20 := by
    intro ρe20 h
    exact g_retMv (pc := 20) X hK hr hlk dJ7_fill_53178_20 h
  have L5 : ∀ (n : Nat) (y2_5 : Int32) (ρ5 : Sg), lq2 (F_J7_fill_53178_5 k0 x1 (E_J7_fill_53178_5 K)) n y2_5 ρ5 → GMv p l e ({ frames := 0, cells := 0, slots := 0, locals := 0 } : Room) s m args below meth c K 4 D (tyC cI cZ cS) (wC cI cZ cS a) A 5 [(0, .ref (a (k0 + 1))), (1, .int x1), (2, .int y2_5), (3, .int (60 : Int32))] [] ρ5 := by
    intro n
    induction n with
    | zero =>
      intro y2_5 ρ5 h
      exact h.elim
    | succ n ih =>
      intro y2_5 ρ5 h
      have h : F_J7_fill_53178_5 k0 x1 (E_J7_fill_53178_5 K) (lq2 (F_J7_fill_53178_5 k0 x1 (E_J7_fill_53178_5 K)) n) y2_5 ρ5 := h
      refine g_iload_n (pc := 5) X rfl 2 rfl dJ7_fill_53178_5 ?_
      refine g_iload_n (pc := 6) X rfl 3 rfl dJ7_fill_53178_6 ?_
      refine g_icmp_ge (pc := 7) (tgt := 20) X (by decide) dJ7_fill_53178_7 (fun c_7 => ?_) (fun c_7 => ?_)
      · have h := ite_t c_7 h
        exact g_lv (X20 ρ5 h) [] rfl
      · have h := ite_f c_7 h
        refine g_aload_n (pc := 10) X rfl 0 rfl dJ7_fill_53178_10 ?_
        refine g_iload_n (pc := 11) X rfl 2 rfl dJ7_fill_53178_11 ?_
        refine g_iload_n (pc := 12) X rfl 1 rfl dJ7_fill_53178_12 ?_
        obtain ⟨h_13, h⟩ := h
        refine tX2_items (pc := 13) X hK hk0 h_13 dJ7_fill_53178_13 (fun τ13 eτ13 => ?_)
        have h := h τ13 eτ13
        refine g_iinc (pc := 14) (lv' := [(2, .int (y2_5 + (1 : Int32))), (0, .ref (a (k0 + 1))), (1, .int x1), (3, .int (60 : Int32))]) X 2 rfl rfl (by decide) rfl dJ7_fill_53178_14 ?_
        refine g_goto (pc := 17) (tgt := 5) X (by decide) dJ7_fill_53178_17 ?_
        exact g_lv (ih (y2_5 + (1 : Int32)) τ13 h) [1, 2, 0, 3] rfl
  exact g_lv (L5 n5 (0 : Int32) σ h) [2, 3, 1, 0] rfl
set_option maxRecDepth 20000 in
theorem c_X2_renew {k0 : Nat} (hk0 : isSh k0) (x1 : Int32) (x2 : Int32) (σ : Sg) (K : Sg → Prop) : ∀ sz, Met l yX2_renew (.code yX2_renew cX2_renew 3 (none) :: AW) ({ frames := 1, cells := 0, slots := 0, locals := 23 } : Room) (pvM D (tyC cI cZ cS) (SXC tS tF) (wC cI cZ cS a σ) sz (w_X2_renew k0 x1 x2 σ K) [.ref (a k0), .int x1, .int x2]) (va_Qv K (atM D (tyC cI cZ cS) (wC cI cZ cS a) (va_A (wC cI cZ cS a σ) sz)) (va_A (wC cI cZ cS a σ) sz)) 0 0 (va_A (wC cI cZ cS a σ) sz) := by
  intro sz
  refine met_Mv (own := "TrainNote$Sheet") (lv := [(0, .ref (a k0)), (1, .int x1), (2, .int x2)]) (by decide +kernel) rfl (Nat.le_of_ble_eq_true rfl) rfl ?_
  intro p e s m args below meth c A X hK hX hA hr hlk h
  have hR : ∀ σ H locs, hpM D (wC cI cZ cS a) A s σ H locs → va_P D vwCl ((wC cI cZ cS a σ)) H := fun _ _ _ h => h.1
  have hok := SXC_ok tS tF
  refine g_aload_n (pc := 0) X rfl 0 rfl dX2_renew_0 ?_
  refine g_iload_n (pc := 1) X rfl 1 rfl dX2_renew_1 ?_
  refine pX2_15 (pc := 2) X hK hk0 dX2_renew_2 (fun τ2 eτ2 => ?_)
  have h := h τ2 eτ2
  refine g_aload_n (pc := 5) X rfl 0 rfl dX2_renew_5 ?_
  refine g_iconst (pc := 6) X ic_0 dX2_renew_6 ?_
  refine g_iload_n (pc := 7) X rfl 2 rfl dX2_renew_7 ?_
  refine g_bipush (pc := 8) X bp_60 dX2_renew_8 ?_
  refine g_mmin (pc := 10) X kw3_44 kw1_28 kw1_3 kw1_29 (Nat.le_of_ble_eq_true rfl) (Nat.le_of_ble_eq_true rfl) dX2_renew_10 ?_
  refine g_topi (fun m10 em10 => ?_)
  have h := h m10 em10
  refine g_mmax (pc := 13) X kw3_45 kw2_43 kw1_3 kw2_44 (Nat.le_of_ble_eq_true rfl) (Nat.le_of_ble_eq_true rfl) dX2_renew_13 ?_
  refine g_topi (fun m13 em13 => ?_)
  have h := h m13 em13
  refine pX2_19 (pc := 16) X hK hk0 dX2_renew_16 (fun τ16 eτ16 => ?_)
  have h := h τ16 eτ16
  refine g_aload_n (pc := 19) X rfl 0 rfl dX2_renew_19 ?_
  refine fX2_9 (pc := 20) X hK hR hk0 dX2_renew_20 ?_
  refine g_iconst (pc := 23) X ic_0 dX2_renew_23 ?_
  refine g_cSMv (pc := 24) (As := [.ref (a (k0 + 1)), .int (0 : Int32)]) X hK hX hok hA mi_J7_fill_53178 (c_J7_fill_53178 (k0 := k0) hk0 (0 : Int32) τ16 _) kw3_46 ⟨rfl, rfl⟩ ⟨Nat.le_of_ble_eq_true rfl, Nat.le_of_ble_eq_true rfl⟩ rfl (Nat.le_of_ble_eq_true rfl) dX2_renew_24 rfl h (fun τ24 h => ?_)
  exact g_retMv (pc := 27) X hK hr hlk dX2_renew_27 h
set_option maxRecDepth 20000 in
theorem c_X6_sheet (x1 : Int32) (x2 : Int32) (x3 : Int32) (σ : Sg) (K : Int32 → Sg → Prop) : ∀ sz, Met l yX6_sheet (.code yX6_sheet cX6_sheet 4 (some .int) :: AW) ({ frames := 2, cells := 0, slots := 0, locals := 45 } : Room) (pvM D (tyC cI cZ cS) (SXC tS tF) (wC cI cZ cS a σ) sz (w_X6_sheet x1 x2 x3 σ K) [.ref (a 0), .int x1, .int x2, .int x3]) (va_Qi K (atM D (tyC cI cZ cS) (wC cI cZ cS a) (va_A (wC cI cZ cS a σ) sz)) (va_A (wC cI cZ cS a σ) sz)) 0 0 (va_A (wC cI cZ cS a σ) sz) := by
  intro sz
  refine met_Mi (own := "TrainNote") (lv := [(0, .ref (a 0)), (1, .int x1), (2, .int x2), (3, .int x3)]) (by decide +kernel) rfl (Nat.le_of_ble_eq_true rfl) rfl ?_
  intro p e s m args below meth c A X hK hX hA hr hlk h
  have hR : ∀ σ H locs, hpM D (wC cI cZ cS a) A s σ H locs → va_P D vwCl ((wC cI cZ cS a σ)) H := fun _ _ _ h => h.1
  have hok := SXC_ok tS tF
  refine g_iload_n (pc := 0) X rfl 1 rfl dX6_sheet_0 ?_
  refine g_cS0i (pc := 1) (As := [.int x1]) X mi_X6_isNoSheet (c_X6_isNoSheet x1 _) kw2_213 ⟨rfl, rfl⟩ ⟨Nat.le_of_ble_eq_true rfl, Nat.le_of_ble_eq_true rfl⟩ rfl (Nat.le_of_ble_eq_true rfl) dX6_sheet_1 rfl h (fun r1 h => ?_)
  refine g_if_ne (pc := 4) (tgt := 20) X (by decide) dX6_sheet_4 (fun c_4 => ?_) (fun c_4 => ?_)
  · have h := ite_f c_4 h
    refine g_bipush (pc := 20) X bp_m2 dX6_sheet_20 ?_
    exact g_retMi (pc := 22) X hK hr hlk dX6_sheet_22 h
  · have h := ite_t c_4 h
    refine g_iload_n (pc := 7) X rfl 2 rfl dX6_sheet_7 ?_
    refine g_cS0i (pc := 8) (As := [.int x2]) X mi_X6_isNoForm (c_X6_isNoForm x2 _) kw3_37 ⟨rfl, rfl⟩ ⟨Nat.le_of_ble_eq_true rfl, Nat.le_of_ble_eq_true rfl⟩ rfl (Nat.le_of_ble_eq_true rfl) dX6_sheet_8 rfl h (fun r8 h => ?_)
    refine g_if_ne (pc := 11) (tgt := 20) X (by decide) dX6_sheet_11 (fun c_11 => ?_) (fun c_11 => ?_)
    · have h := ite_f c_11 h
      refine g_bipush (pc := 20) X bp_m2 dX6_sheet_20 ?_
      exact g_retMi (pc := 22) X hK hr hlk dX6_sheet_22 h
    · have h := ite_t c_11 h
      refine g_iload_n (pc := 14) X rfl 3 rfl dX6_sheet_14 ?_
      refine g_bipush (pc := 15) X bp_60 dX6_sheet_15 ?_
      refine g_icmp_le (pc := 17) (tgt := 23) X (by decide) dX6_sheet_17 (fun c_17 => ?_) (fun c_17 => ?_)
      · have h := ite_t c_17 h
        refine g_iload_n (pc := 23) X rfl 3 rfl dX6_sheet_23 ?_
        refine g_if_ge (pc := 24) (tgt := 33) X (by decide) dX6_sheet_24 (fun c_24 => ?_) (fun c_24 => ?_)
        · have h := ite_t c_24 h
          refine g_aload_n (pc := 33) X rfl 0 rfl dX6_sheet_33 ?_
          refine fX6_58 (pc := 34) X hK hR k_isTop_0 dX6_sheet_34 ?_
          refine g_iload_n (pc := 37) X rfl 1 rfl dX6_sheet_37 ?_
          obtain ⟨h_38, h⟩ := h
          refine aX6_sheets (pc := 38) X hK hR h_38 dX6_sheet_38 ?_
          refine g_iload_n (pc := 39) X rfl 2 rfl dX6_sheet_39 ?_
          refine g_iload_n (pc := 40) X rfl 3 rfl dX6_sheet_40 ?_
          refine g_cVMv (pc := 41) (As := [.int x2, .int x3]) X hK hX hok hA mi_X2_renew (c_X2_renew (k0 := (33 + 2 * (x1).toNatClampNeg)) (shIn h_38) x2 x3 σ _) (fun _ => ⟨_, wl_ate (oX2 (cI := cI) (cZ := cZ) (cS := cS) (a := a) (shIn h_38)).1 ((oX2 (cI := cI) (cZ := cZ) (cS := cS) (a := a) (shIn h_38)).2 _)⟩) rfl rfl kw3_40 ⟨rfl, rfl⟩ ⟨Nat.le_of_ble_eq_true rfl, Nat.le_of_ble_eq_true rfl⟩ rfl (Nat.le_of_ble_eq_true rfl) dX6_sheet_41 rfl h (fun τ41 h => ?_)
          refine g_iload_n (pc := 44) X rfl 3 rfl dX6_sheet_44 ?_
          exact g_retMi (pc := 45) X hK hr hlk dX6_sheet_45 h
        · have h := ite_f c_24 h
          refine g_aload_n (pc := 27) X rfl 0 rfl dX6_sheet_27 ?_
          refine g_iconst (pc := 28) X ic_5 dX6_sheet_28 ?_
          refine g_cVMi (pc := 29) (As := [.int (5 : Int32)]) X hK hX hok hA mi_X6_find (c_X6_find (5 : Int32) σ _) (fun _ => ⟨_, wl_ate (oX6 (cI := cI) (cZ := cZ) (cS := cS) (a := a) k_isTop_0).1 ((oX6 (cI := cI) (cZ := cZ) (cS := cS) (a := a) k_isTop_0).2 _)⟩) rfl rfl kw2_220 ⟨rfl, rfl⟩ ⟨Nat.le_of_ble_eq_true rfl, Nat.le_of_ble_eq_true rfl⟩ rfl (Nat.le_of_ble_eq_true rfl) dX6_sheet_29 rfl h (fun r29 τ29 h => ?_)
          exact g_retMi (pc := 32) X hK hr hlk dX6_sheet_32 h
      · have h := ite_f c_17 h
        refine g_bipush (pc := 20) X bp_m2 dX6_sheet_20 ?_
        exact g_retMi (pc := 22) X hK hr hlk dX6_sheet_22 h
set_option maxRecDepth 20000 in
theorem c_X6_lose (x1 : Int32) (σ : Sg) (K : Int32 → Sg → Prop) : ∀ sz, Met l yX6_lose (.code yX6_lose cX6_lose 4 (some .int) :: AW) ({ frames := 2, cells := 0, slots := 0, locals := 45 } : Room) (pvM D (tyC cI cZ cS) (SXC tS tF) (wC cI cZ cS a σ) sz (w_X6_lose x1 σ K) [.ref (a 0), .int x1]) (va_Qi K (atM D (tyC cI cZ cS) (wC cI cZ cS a) (va_A (wC cI cZ cS a σ) sz)) (va_A (wC cI cZ cS a σ) sz)) 0 0 (va_A (wC cI cZ cS a σ) sz) := by
  intro sz
  refine met_Mi (own := "TrainNote") (lv := [(0, .ref (a 0)), (1, .int x1)]) (by decide +kernel) rfl (Nat.le_of_ble_eq_true rfl) rfl ?_
  intro p e s m args below meth c A X hK hX hA hr hlk h
  have hR : ∀ σ H locs, hpM D (wC cI cZ cS a) A s σ H locs → va_P D vwCl ((wC cI cZ cS a σ)) H := fun _ _ _ h => h.1
  have hok := SXC_ok tS tF
  refine g_iload_n (pc := 0) X rfl 1 rfl dX6_lose_0 ?_
  refine g_cS0i (pc := 1) (As := [.int x1]) X mi_X6_isNoSheet (c_X6_isNoSheet x1 _) kw2_213 ⟨rfl, rfl⟩ ⟨Nat.le_of_ble_eq_true rfl, Nat.le_of_ble_eq_true rfl⟩ rfl (Nat.le_of_ble_eq_true rfl) dX6_lose_1 rfl h (fun r1 h => ?_)
  refine g_if_eq (pc := 4) (tgt := 10) X (by decide) dX6_lose_4 (fun c_4 => ?_) (fun c_4 => ?_)
  · have h := ite_t c_4 h
    refine g_aload_n (pc := 10) X rfl 0 rfl dX6_lose_10 ?_
    refine fX6_58 (pc := 11) X hK hR k_isTop_0 dX6_lose_11 ?_
    refine g_iload_n (pc := 14) X rfl 1 rfl dX6_lose_14 ?_
    obtain ⟨h_15, h⟩ := h
    refine aX6_sheets (pc := 15) X hK hR h_15 dX6_lose_15 ?_
    refine g_astore_n (pc := 16) (lv' := [(2, .ref (a (33 + 2 * (x1).toNatClampNeg))), (0, .ref (a 0)), (1, .int x1)]) X rfl (by decide) rfl dX6_lose_16 ?_
    refine g_aload_n (pc := 17) X rfl 0 rfl dX6_lose_17 ?_
    refine g_cVPi (pc := 18) (As := []) X hK hR mi_X2_isLost (c_X2_isLost (k0 := (33 + 2 * (x1).toNatClampNeg)) (shIn h_15) σ _) (wl_ate (oX2 (cI := cI) (cZ := cZ) (cS := cS) (a := a) (shIn h_15)).1 ((oX2 (cI := cI) (cZ := cZ) (cS := cS) (a := a) (shIn h_15)).2 _)) rfl rfl kw2_216 ⟨rfl, rfl⟩ ⟨Nat.le_of_ble_eq_true rfl, Nat.le_of_ble_eq_true rfl⟩ rfl (Nat.le_of_ble_eq_true rfl) dX6_lose_18 rfl h (fun r18 h => ?_)
    refine g_if_eq (pc := 21) (tgt := 30) X (by decide) dX6_lose_21 (fun c_21 => ?_) (fun c_21 => ?_)
    · have h := ite_t c_21 h
      refine g_aload_n (pc := 30) X rfl 0 rfl dX6_lose_30 ?_
      refine fX6_220 (pc := 31) X hK hR (shIn h_15) dX6_lose_31 ?_
      refine g_topi (fun x3_34 ex3_34 => ?_)
      have h := h x3_34 ex3_34
      refine g_istore_n (pc := 34) (lv' := [(3, .int x3_34), (2, .ref (a (33 + 2 * (x1).toNatClampNeg))), (0, .ref (a 0)), (1, .int x1)]) X rfl (by decide) rfl dX6_lose_34 ?_
      refine g_aload_n (pc := 35) X rfl 1 rfl dX6_lose_35 ?_
      refine g_iconst (pc := 36) X ic_m1 dX6_lose_36 ?_
      refine g_iconst (pc := 37) X ic_0 dX6_lose_37 ?_
      refine g_cVMv (pc := 38) (As := [.int (-1 : Int32), .int (0 : Int32)]) X hK hX hok hA mi_X2_renew (c_X2_renew (k0 := (33 + 2 * (x1).toNatClampNeg)) (shIn h_15) (-1 : Int32) (0 : Int32) σ _) (fun _ => ⟨_, wl_ate (oX2 (cI := cI) (cZ := cZ) (cS := cS) (a := a) (shIn h_15)).1 ((oX2 (cI := cI) (cZ := cZ) (cS := cS) (a := a) (shIn h_15)).2 _)⟩) rfl rfl kw3_40 ⟨rfl, rfl⟩ ⟨Nat.le_of_ble_eq_true rfl, Nat.le_of_ble_eq_true rfl⟩ rfl (Nat.le_of_ble_eq_true rfl) dX6_lose_38 rfl h (fun τ38 h => ?_)
      refine g_iload_n (pc := 41) X rfl 0 rfl dX6_lose_41 ?_
      exact g_retMi (pc := 42) X hK hr hlk dX6_lose_42 h
    · have h := ite_f c_21 h
      refine g_aload_n (pc := 24) X rfl 1 rfl dX6_lose_24 ?_
      refine g_iconst (pc := 25) X ic_1 dX6_lose_25 ?_
      refine g_cVMi (pc := 26) (As := [.int (1 : Int32)]) X hK hX hok hA mi_X6_find (c_X6_find (1 : Int32) σ _) (fun _ => ⟨_, wl_ate (oX6 (cI := cI) (cZ := cZ) (cS := cS) (a := a) k_isTop_0).1 ((oX6 (cI := cI) (cZ := cZ) (cS := cS) (a := a) k_isTop_0).2 _)⟩) rfl rfl kw2_220 ⟨rfl, rfl⟩ ⟨Nat.le_of_ble_eq_true rfl, Nat.le_of_ble_eq_true rfl⟩ rfl (Nat.le_of_ble_eq_true rfl) dX6_lose_26 rfl h (fun r26 τ26 h => ?_)
      exact g_retMi (pc := 29) X hK hr hlk dX6_lose_29 h
  · have h := ite_f c_4 h
    refine g_bipush (pc := 7) X bp_m2 dX6_lose_7 ?_
    exact g_retMi (pc := 9) X hK hr hlk dX6_lose_9 h
set_option maxRecDepth 20000 in
theorem c_X6_findingOfItem {k0 : Nat} (hk0 : isSh k0) (x1 : Int32) (x2 : Int32) (σ : Sg) (K : Int32 → Prop) : Met l yX6_findingOfItem (.code yX6_findingOfItem cX6_findingOfItem 3 (some .int) :: AW) ({ frames := 1, cells := 0, slots := 0, locals := 20 } : Room) (pvP D (tyC cI cZ cS) (wC cI cZ cS a σ) (w_X6_findingOfItem k0 x1 x2 σ K) [.ref (a k0), .int x1, .int x2]) (vp_Si K) 0 0 (fun _ => False) := by
  refine met_Pi (own := "TrainNote") (lv := [(0, .ref (a k0)), (1, .int x1), (2, .int x2)]) (by decide +kernel) rfl (Nat.le_of_ble_eq_true rfl) rfl ?_
  intro p e s m args below meth c X hK hr hlk h
  have hR : ∀ σ H locs, hpP D (wC cI cZ cS a) s σ H locs → va_P D vwCl ((wC cI cZ cS a σ)) H := fun _ _ _ h => h.1
  refine g_aload_n (pc := 0) X rfl 0 rfl dX6_findingOfItem_0 ?_
  refine g_cVPi (pc := 1) (As := []) X hK hR mi_X2_isLost (c_X2_isLost (k0 := k0) hk0 σ _) (wl_ate (oX2 (cI := cI) (cZ := cZ) (cS := cS) (a := a) hk0).1 ((oX2 (cI := cI) (cZ := cZ) (cS := cS) (a := a) hk0).2 _)) rfl rfl kw2_216 ⟨rfl, rfl⟩ ⟨Nat.le_of_ble_eq_true rfl, Nat.le_of_ble_eq_true rfl⟩ rfl (Nat.le_of_ble_eq_true rfl) dX6_findingOfItem_1 rfl h (fun r1 h => ?_)
  refine g_if_eq (pc := 4) (tgt := 9) X (by decide) dX6_findingOfItem_4 (fun c_4 => ?_) (fun c_4 => ?_)
  · have h := ite_t c_4 h
    refine g_aload_n (pc := 9) X rfl 0 rfl dX6_findingOfItem_9 ?_
    refine fX6_276 (pc := 10) X hK hR hk0 dX6_findingOfItem_10 ?_
    refine g_iload_n (pc := 13) X rfl 1 rfl dX6_findingOfItem_13 ?_
    refine g_icmp_eq (pc := 14) (tgt := 19) X (by decide) dX6_findingOfItem_14 (fun c_14 => ?_) (fun c_14 => ?_)
    · have h := ite_t c_14 h
      refine g_iload_n (pc := 19) X rfl 2 rfl dX6_findingOfItem_19 ?_
      refine g_if_lt (pc := 20) (tgt := 31) X (by decide) dX6_findingOfItem_20 (fun c_20 => ?_) (fun c_20 => ?_)
      · have h := ite_t c_20 h
        refine g_iconst (pc := 31) X ic_2 dX6_findingOfItem_31 ?_
        refine g_goto (pc := 32) (tgt := 36) X (by decide) dX6_findingOfItem_32 ?_
        exact g_retPi (pc := 36) X hr hlk dX6_findingOfItem_36 h
      · have h := ite_f c_20 h
        refine g_iload_n (pc := 23) X rfl 2 rfl dX6_findingOfItem_23 ?_
        refine g_aload_n (pc := 24) X rfl 0 rfl dX6_findingOfItem_24 ?_
        refine fX6_220 (pc := 25) X hK hR hk0 dX6_findingOfItem_25 ?_
        refine g_icmp_lt (pc := 28) (tgt := 35) X (by decide) dX6_findingOfItem_28 (fun c_28 => ?_) (fun c_28 => ?_)
        · have h := ite_t c_28 h
          refine g_iconst (pc := 35) X ic_0 dX6_findingOfItem_35 ?_
          exact g_retPi (pc := 36) X hr hlk dX6_findingOfItem_36 h
        · have h := ite_f c_28 h
          refine g_iconst (pc := 31) X ic_2 dX6_findingOfItem_31 ?_
          refine g_goto (pc := 32) (tgt := 36) X (by decide) dX6_findingOfItem_32 ?_
          exact g_retPi (pc := 36) X hr hlk dX6_findingOfItem_36 h
    · have h := ite_f c_14 h
      refine g_iconst (pc := 17) X ic_3 dX6_findingOfItem_17 ?_
      exact g_retPi (pc := 18) X hr hlk dX6_findingOfItem_18 h
  · have h := ite_f c_4 h
    refine g_iconst (pc := 7) X ic_1 dX6_findingOfItem_7 ?_
    exact g_retPi (pc := 8) X hr hlk dX6_findingOfItem_8 h
set_option maxRecDepth 20000 in
theorem c_X2_put {k0 : Nat} (hk0 : isSh k0) (x1 : Int32) (x2 : Int32) (σ : Sg) (K : Sg → Prop) : ∀ sz, Met l yX2_put (.code yX2_put cX2_put 3 (none) :: AW) ({ frames := 0, cells := 0, slots := 0, locals := 0 } : Room) (pvM D (tyC cI cZ cS) (SXC tS tF) (wC cI cZ cS a σ) sz (w_X2_put k0 x1 x2 σ K) [.ref (a k0), .int x1, .int x2]) (va_Qv K (atM D (tyC cI cZ cS) (wC cI cZ cS a) (va_A (wC cI cZ cS a σ) sz)) (va_A (wC cI cZ cS a σ) sz)) 0 0 (va_A (wC cI cZ cS a σ) sz) := by
  intro sz
  refine met_Mv (own := "TrainNote$Sheet") (lv := [(0, .ref (a k0)), (1, .int x1), (2, .int x2)]) (by decide +kernel) rfl (Nat.le_of_ble_eq_true rfl) rfl ?_
  intro p e s m args below meth c A X hK hX hA hr hlk h
  have hR : ∀ σ H locs, hpM D (wC cI cZ cS a) A s σ H locs → va_P D vwCl ((wC cI cZ cS a σ)) H := fun _ _ _ h => h.1
  have hok := SXC_ok tS tF
  refine g_iload_n (pc := 0) X rfl 1 rfl dX2_put_0 ?_
  refine g_if_lt (pc := 1) (tgt := 44) X (by decide) dX2_put_1 (fun c_1 => ?_) (fun c_1 => ?_)
  · have h := ite_t c_1 h
    exact g_retMv (pc := 44) X hK hr hlk dX2_put_44 h
  · have h := ite_f c_1 h
    refine g_iload_n (pc := 4) X rfl 1 rfl dX2_put_4 ?_
    refine g_aload_n (pc := 5) X rfl 0 rfl dX2_put_5 ?_
    refine fX2_19 (pc := 6) X hK hR hk0 dX2_put_6 ?_
    refine g_icmp_ge (pc := 9) (tgt := 44) X (by decide) dX2_put_9 (fun c_9 => ?_) (fun c_9 => ?_)
    · have h := ite_t c_9 h
      exact g_retMv (pc := 44) X hK hr hlk dX2_put_44 h
    · have h := ite_f c_9 h
      refine g_aload_n (pc := 12) X rfl 0 rfl dX2_put_12 ?_
      refine fX2_9 (pc := 13) X hK hR hk0 dX2_put_13 ?_
      refine g_iload_n (pc := 16) X rfl 1 rfl dX2_put_16 ?_
      refine g_aload_n (pc := 17) X rfl 0 rfl dX2_put_17 ?_
      refine fX2_15 (pc := 18) X hK hR hk0 dX2_put_18 ?_
      refine g_if_ne (pc := 21) (tgt := 29) X (by decide) dX2_put_21 (fun c_21 => ?_) (fun c_21 => ?_)
      · have h := ite_f c_21 h
        refine g_aload_n (pc := 29) X rfl 0 rfl dX2_put_29 ?_
        refine fX2_15 (pc := 30) X hK hR hk0 dX2_put_30 ?_
        refine g_iconst (pc := 33) X ic_1 dX2_put_33 ?_
        refine g_icmp_ne (pc := 34) (tgt := 42) X (by decide) dX2_put_34 (fun c_34 => ?_) (fun c_34 => ?_)
        · have h := ite_f c_34 h
          refine g_iload_n (pc := 42) X rfl 2 rfl dX2_put_42 ?_
          obtain ⟨h_43, h⟩ := h
          refine tX2_items (pc := 43) X hK hk0 h_43 dX2_put_43 (fun τ43 eτ43 => ?_)
          have h := h τ43 eτ43
          exact g_retMv (pc := 44) X hK hr hlk dX2_put_44 h
        · have h := ite_t c_34 h
          refine g_iload_n (pc := 37) X rfl 2 rfl dX2_put_37 ?_
          refine g_i2s (pc := 38) X dX2_put_38 ?_
          refine g_goto (pc := 39) (tgt := 43) X (by decide) dX2_put_39 ?_
          obtain ⟨h_43, h⟩ := h
          refine tX2_items (pc := 43) X hK hk0 h_43 dX2_put_43 (fun τ43_1 eτ43_1 => ?_)
          have h := h τ43_1 eτ43_1
          exact g_retMv (pc := 44) X hK hr hlk dX2_put_44 h
      · have h := ite_t c_21 h
        refine g_iload_n (pc := 24) X rfl 2 rfl dX2_put_24 ?_
        refine g_i2b (pc := 25) X dX2_put_25 ?_
        refine g_goto (pc := 26) (tgt := 43) X (by decide) dX2_put_26 ?_
        obtain ⟨h_43, h⟩ := h
        refine tX2_items (pc := 43) X hK hk0 h_43 dX2_put_43 (fun τ43_2 eτ43_2 => ?_)
        have h := h τ43_2 eτ43_2
        exact g_retMv (pc := 44) X hK hr hlk dX2_put_44 h
set_option maxRecDepth 20000 in
theorem c_X6_lay (x1 : Int32) (x2 : Int32) (x3 : Int32) (x4 : Int32) (σ : Sg) (K : Int32 → Sg → Prop) : ∀ sz, Met l yX6_lay (.code yX6_lay cX6_lay 6 (some .int) :: AW) ({ frames := 2, cells := 0, slots := 0, locals := 42 } : Room) (pvM D (tyC cI cZ cS) (SXC tS tF) (wC cI cZ cS a σ) sz (w_X6_lay x1 x2 x3 x4 σ K) [.ref (a 0), .int x1, .int x2, .int x3, .int x4]) (va_Qi K (atM D (tyC cI cZ cS) (wC cI cZ cS a) (va_A (wC cI cZ cS a σ) sz)) (va_A (wC cI cZ cS a σ) sz)) 0 0 (va_A (wC cI cZ cS a σ) sz) := by
  intro sz
  refine met_Mi (own := "TrainNote") (lv := [(0, .ref (a 0)), (1, .int x1), (2, .int x2), (3, .int x3), (4, .int x4)]) (by decide +kernel) rfl (Nat.le_of_ble_eq_true rfl) rfl ?_
  intro p e s m args below meth c A X hK hX hA hr hlk h
  have hR : ∀ σ H locs, hpM D (wC cI cZ cS a) A s σ H locs → va_P D vwCl ((wC cI cZ cS a σ)) H := fun _ _ _ h => h.1
  have hok := SXC_ok tS tF
  refine g_iload_n (pc := 0) X rfl 1 rfl dX6_lay_0 ?_
  refine g_cS0i (pc := 1) (As := [.int x1]) X mi_X6_isNoSheet (c_X6_isNoSheet x1 _) kw2_213 ⟨rfl, rfl⟩ ⟨Nat.le_of_ble_eq_true rfl, Nat.le_of_ble_eq_true rfl⟩ rfl (Nat.le_of_ble_eq_true rfl) dX6_lay_1 rfl h (fun r1 h => ?_)
  refine g_if_ne (pc := 4) (tgt := 14) X (by decide) dX6_lay_4 (fun c_4 => ?_) (fun c_4 => ?_)
  · have h := ite_f c_4 h
    refine g_bipush (pc := 14) X bp_m2 dX6_lay_14 ?_
    exact g_retMi (pc := 16) X hK hr hlk dX6_lay_16 h
  · have h := ite_t c_4 h
    refine g_iload_n (pc := 7) X rfl 2 rfl dX6_lay_7 ?_
    refine g_cS0i (pc := 8) (As := [.int x2]) X mi_X6_isNoForm (c_X6_isNoForm x2 _) kw3_37 ⟨rfl, rfl⟩ ⟨Nat.le_of_ble_eq_true rfl, Nat.le_of_ble_eq_true rfl⟩ rfl (Nat.le_of_ble_eq_true rfl) dX6_lay_8 rfl h (fun r8 h => ?_)
    refine g_if_eq (pc := 11) (tgt := 17) X (by decide) dX6_lay_11 (fun c_11 => ?_) (fun c_11 => ?_)
    · have h := ite_t c_11 h
      refine g_aload_n (pc := 17) X rfl 0 rfl dX6_lay_17 ?_
      refine fX6_58 (pc := 18) X hK hR k_isTop_0 dX6_lay_18 ?_
      refine g_iload_n (pc := 21) X rfl 1 rfl dX6_lay_21 ?_
      obtain ⟨h_22, h⟩ := h
      refine aX6_sheets (pc := 22) X hK hR h_22 dX6_lay_22 ?_
      refine g_iload_n (pc := 23) X rfl 2 rfl dX6_lay_23 ?_
      refine g_iload_n (pc := 24) X rfl 3 rfl dX6_lay_24 ?_
      refine g_cSPi (pc := 25) (As := [.ref (a (33 + 2 * (x1).toNatClampNeg)), .int x2, .int x3]) X hK hR mi_X6_findingOfItem (c_X6_findingOfItem (k0 := (33 + 2 * (x1).toNatClampNeg)) (shIn h_22) x2 x3 σ _) kw3_57 ⟨rfl, rfl⟩ ⟨Nat.le_of_ble_eq_true rfl, Nat.le_of_ble_eq_true rfl⟩ rfl (Nat.le_of_ble_eq_true rfl) dX6_lay_25 rfl h (fun r25 h => ?_)
      refine g_istore (pc := 28) (lv' := [(5, .int r25), (0, .ref (a 0)), (1, .int x1), (2, .int x2), (3, .int x3), (4, .int x4)]) X (by decide) rfl dX6_lay_28 ?_
      refine g_iload (pc := 30) X 0 rfl dX6_lay_30 ?_
      refine g_if_eq (pc := 32) (tgt := 42) X (by decide) dX6_lay_32 (fun c_32 => ?_) (fun c_32 => ?_)
      · have h := ite_t c_32 h
        refine g_aload_n (pc := 42) X rfl 1 rfl dX6_lay_42 ?_
        refine fX6_58 (pc := 43) X hK hR k_isTop_0 dX6_lay_43 ?_
        refine g_iload_n (pc := 46) X rfl 2 rfl dX6_lay_46 ?_
        obtain ⟨h_47, h⟩ := h
        refine aX6_sheets (pc := 47) X hK hR h_47 dX6_lay_47 ?_
        refine g_iload_n (pc := 48) X rfl 4 rfl dX6_lay_48 ?_
        refine g_iload (pc := 49) X 5 rfl dX6_lay_49 ?_
        refine g_cVMv (pc := 51) (As := [.int x3, .int x4]) X hK hX hok hA mi_X2_put (c_X2_put (k0 := (33 + 2 * (x1).toNatClampNeg)) (shIn h_47) x3 x4 σ _) (fun _ => ⟨_, wl_ate (oX2 (cI := cI) (cZ := cZ) (cS := cS) (a := a) (shIn h_47)).1 ((oX2 (cI := cI) (cZ := cZ) (cS := cS) (a := a) (shIn h_47)).2 _)⟩) rfl rfl kw3_60 ⟨rfl, rfl⟩ ⟨Nat.le_of_ble_eq_true rfl, Nat.le_of_ble_eq_true rfl⟩ rfl (Nat.le_of_ble_eq_true rfl) dX6_lay_51 rfl h (fun τ51 h => ?_)
        refine g_iconst (pc := 54) X ic_1 dX6_lay_54 ?_
        exact g_retMi (pc := 55) X hK hr hlk dX6_lay_55 h
      · have h := ite_f c_32 h
        refine g_aload_n (pc := 35) X rfl 1 rfl dX6_lay_35 ?_
        refine g_iload (pc := 36) X 0 rfl dX6_lay_36 ?_
        refine g_cVMi (pc := 38) (As := [.int r25]) X hK hX hok hA mi_X6_find (c_X6_find r25 σ _) (fun _ => ⟨_, wl_ate (oX6 (cI := cI) (cZ := cZ) (cS := cS) (a := a) k_isTop_0).1 ((oX6 (cI := cI) (cZ := cZ) (cS := cS) (a := a) k_isTop_0).2 _)⟩) rfl rfl kw2_220 ⟨rfl, rfl⟩ ⟨Nat.le_of_ble_eq_true rfl, Nat.le_of_ble_eq_true rfl⟩ rfl (Nat.le_of_ble_eq_true rfl) dX6_lay_38 rfl h (fun r38 τ38 h => ?_)
        exact g_retMi (pc := 41) X hK hr hlk dX6_lay_41 h
    · have h := ite_f c_11 h
      refine g_bipush (pc := 14) X bp_m2 dX6_lay_14 ?_
      exact g_retMi (pc := 16) X hK hr hlk dX6_lay_16 h
set_option maxRecDepth 20000 in
theorem c_X6_get (x1 : Int32) (x2 : Int32) (x3 : Int32) (σ : Sg) (K : Int32 → Sg → Prop) : ∀ sz, Met l yX6_get (.code yX6_get cX6_get 5 (some .int) :: AW) ({ frames := 2, cells := 0, slots := 0, locals := 42 } : Room) (pvM D (tyC cI cZ cS) (SXC tS tF) (wC cI cZ cS a σ) sz (w_X6_get x1 x2 x3 σ K) [.ref (a 0), .int x1, .int x2, .int x3]) (va_Qi K (atM D (tyC cI cZ cS) (wC cI cZ cS a) (va_A (wC cI cZ cS a σ) sz)) (va_A (wC cI cZ cS a σ) sz)) 0 0 (va_A (wC cI cZ cS a σ) sz) := by
  intro sz
  refine met_Mi (own := "TrainNote") (lv := [(0, .ref (a 0)), (1, .int x1), (2, .int x2), (3, .int x3)]) (by decide +kernel) rfl (Nat.le_of_ble_eq_true rfl) rfl ?_
  intro p e s m args below meth c A X hK hX hA hr hlk h
  have hR : ∀ σ H locs, hpM D (wC cI cZ cS a) A s σ H locs → va_P D vwCl ((wC cI cZ cS a σ)) H := fun _ _ _ h => h.1
  have hok := SXC_ok tS tF
  refine g_iload_n (pc := 0) X rfl 1 rfl dX6_get_0 ?_
  refine g_cS0i (pc := 1) (As := [.int x1]) X mi_X6_isNoSheet (c_X6_isNoSheet x1 _) kw2_213 ⟨rfl, rfl⟩ ⟨Nat.le_of_ble_eq_true rfl, Nat.le_of_ble_eq_true rfl⟩ rfl (Nat.le_of_ble_eq_true rfl) dX6_get_1 rfl h (fun r1 h => ?_)
  refine g_if_ne (pc := 4) (tgt := 14) X (by decide) dX6_get_4 (fun c_4 => ?_) (fun c_4 => ?_)
  · have h := ite_f c_4 h
    refine g_ldc (pc := 14) X kw2_188 dX6_get_14 ?_
    exact g_retMi (pc := 16) X hK hr hlk dX6_get_16 h
  · have h := ite_t c_4 h
    refine g_iload_n (pc := 7) X rfl 2 rfl dX6_get_7 ?_
    refine g_cS0i (pc := 8) (As := [.int x2]) X mi_X6_isNoForm (c_X6_isNoForm x2 _) kw3_37 ⟨rfl, rfl⟩ ⟨Nat.le_of_ble_eq_true rfl, Nat.le_of_ble_eq_true rfl⟩ rfl (Nat.le_of_ble_eq_true rfl) dX6_get_8 rfl h (fun r8 h => ?_)
    refine g_if_eq (pc := 11) (tgt := 17) X (by decide) dX6_get_11 (fun c_11 => ?_) (fun c_11 => ?_)
    · have h := ite_t c_11 h
      refine g_aload_n (pc := 17) X rfl 0 rfl dX6_get_17 ?_
      refine fX6_58 (pc := 18) X hK hR k_isTop_0 dX6_get_18 ?_
      refine g_iload_n (pc := 21) X rfl 1 rfl dX6_get_21 ?_
      obtain ⟨h_22, h⟩ := h
      refine aX6_sheets (pc := 22) X hK hR h_22 dX6_get_22 ?_
      refine g_iload_n (pc := 23) X rfl 2 rfl dX6_get_23 ?_
      refine g_iload_n (pc := 24) X rfl 3 rfl dX6_get_24 ?_
      refine g_cSPi (pc := 25) (As := [.ref (a (33 + 2 * (x1).toNatClampNeg)), .int x2, .int x3]) X hK hR mi_X6_findingOfItem (c_X6_findingOfItem (k0 := (33 + 2 * (x1).toNatClampNeg)) (shIn h_22) x2 x3 σ _) kw3_57 ⟨rfl, rfl⟩ ⟨Nat.le_of_ble_eq_true rfl, Nat.le_of_ble_eq_true rfl⟩ rfl (Nat.le_of_ble_eq_true rfl) dX6_get_25 rfl h (fun r25 h => ?_)
      refine g_istore (pc := 28) (lv' := [(4, .int r25), (0, .ref (a 0)), (1, .int x1), (2, .int x2), (3, .int x3)]) X (by decide) rfl dX6_get_28 ?_
      refine g_iload (pc := 30) X 0 rfl dX6_get_30 ?_
      refine g_if_eq (pc := 32) (tgt := 45) X (by decide) dX6_get_32 (fun c_32 => ?_) (fun c_32 => ?_)
      · have h := ite_t c_32 h
        refine g_aload_n (pc := 45) X rfl 1 rfl dX6_get_45 ?_
        refine fX6_58 (pc := 46) X hK hR k_isTop_0 dX6_get_46 ?_
        refine g_iload_n (pc := 49) X rfl 2 rfl dX6_get_49 ?_
        obtain ⟨h_50, h⟩ := h
        refine aX6_sheets (pc := 50) X hK hR h_50 dX6_get_50 ?_
        refine fX6_221 (pc := 51) X hK hR (shIn h_50) dX6_get_51 ?_
        refine g_iload_n (pc := 54) X rfl 4 rfl dX6_get_54 ?_
        obtain ⟨h_55, h⟩ := h
        refine aX2_items (pc := 55) X hK hR (shIn h_50) h_55 dX6_get_55 ?_
        exact g_retMi (pc := 56) X hK hr hlk dX6_get_56 h
      · have h := ite_f c_32 h
        refine g_aload_n (pc := 35) X rfl 1 rfl dX6_get_35 ?_
        refine g_iload (pc := 36) X 0 rfl dX6_get_36 ?_
        refine g_cVMi (pc := 38) (As := [.int r25]) X hK hX hok hA mi_X6_find (c_X6_find r25 σ _) (fun _ => ⟨_, wl_ate (oX6 (cI := cI) (cZ := cZ) (cS := cS) (a := a) k_isTop_0).1 ((oX6 (cI := cI) (cZ := cZ) (cS := cS) (a := a) k_isTop_0).2 _)⟩) rfl rfl kw2_220 ⟨rfl, rfl⟩ ⟨Nat.le_of_ble_eq_true rfl, Nat.le_of_ble_eq_true rfl⟩ rfl (Nat.le_of_ble_eq_true rfl) dX6_get_38 rfl h (fun r38 τ38 h => ?_)
        refine g_pop (pc := 41) X rfl dX6_get_41 ?_
        refine g_ldc (pc := 42) X kw2_188 dX6_get_42 ?_
        exact g_retMi (pc := 44) X hK hr hlk dX6_get_44 h
    · have h := ite_f c_11 h
      refine g_ldc (pc := 14) X kw2_188 dX6_get_14 ?_
      exact g_retMi (pc := 16) X hK hr hlk dX6_get_16 h
set_option maxRecDepth 20000 in
theorem c_X2_hasRun {k0 : Nat} (hk0 : isSh k0) (x1 : Int32) (x2 : Int32) (σ : Sg) (K : Int32 → Prop) : Met l yX2_hasRun (.code yX2_hasRun cX2_hasRun 3 (some .boolean) :: AW) ({ frames := 0, cells := 0, slots := 0, locals := 0 } : Room) (pvP D (tyC cI cZ cS) (wC cI cZ cS a σ) (w_X2_hasRun k0 x1 x2 σ K) [.ref (a k0), .int x1, .int x2]) (vp_Si K) 0 0 (fun _ => False) := by
  refine met_Pi (own := "TrainNote$Sheet") (lv := [(0, .ref (a k0)), (1, .int x1), (2, .int x2)]) (by decide +kernel) rfl (Nat.le_of_ble_eq_true rfl) rfl ?_
  intro p e s m args below meth c X hK hr hlk h
  have hR : ∀ σ H locs, hpP D (wC cI cZ cS a) s σ H locs → va_P D vwCl ((wC cI cZ cS a σ)) H := fun _ _ _ h => h.1
  refine g_iload_n (pc := 0) X rfl 1 rfl dX2_hasRun_0 ?_
  refine g_if_lt (pc := 1) (tgt := 30) X (by decide) dX2_hasRun_1 (fun c_1 => ?_) (fun c_1 => ?_)
  · have h := ite_t c_1 h
    refine g_iconst (pc := 30) X ic_0 dX2_hasRun_30 ?_
    exact g_retPz (pc := 31) X hr hlk dX2_hasRun_31 (Or.inl rfl) h
  · have h := ite_f c_1 h
    refine g_iload_n (pc := 4) X rfl 2 rfl dX2_hasRun_4 ?_
    refine g_if_lt (pc := 5) (tgt := 30) X (by decide) dX2_hasRun_5 (fun c_5 => ?_) (fun c_5 => ?_)
    · have h := ite_t c_5 h
      refine g_iconst (pc := 30) X ic_0 dX2_hasRun_30 ?_
      exact g_retPz (pc := 31) X hr hlk dX2_hasRun_31 (Or.inl rfl) h
    · have h := ite_f c_5 h
      refine g_iload_n (pc := 8) X rfl 1 rfl dX2_hasRun_8 ?_
      refine g_aload_n (pc := 9) X rfl 0 rfl dX2_hasRun_9 ?_
      refine fX2_19 (pc := 10) X hK hR hk0 dX2_hasRun_10 ?_
      refine g_icmp_gt (pc := 13) (tgt := 30) X (by decide) dX2_hasRun_13 (fun c_13 => ?_) (fun c_13 => ?_)
      · have h := ite_t c_13 h
        refine g_iconst (pc := 30) X ic_0 dX2_hasRun_30 ?_
        exact g_retPz (pc := 31) X hr hlk dX2_hasRun_31 (Or.inl rfl) h
      · have h := ite_f c_13 h
        refine g_iload_n (pc := 16) X rfl 2 rfl dX2_hasRun_16 ?_
        refine g_aload_n (pc := 17) X rfl 0 rfl dX2_hasRun_17 ?_
        refine fX2_19 (pc := 18) X hK hR hk0 dX2_hasRun_18 ?_
        refine g_iload_n (pc := 21) X rfl 1 rfl dX2_hasRun_21 ?_
        refine g_isub (pc := 22) X dX2_hasRun_22 ?_
        refine g_icmp_gt (pc := 23) (tgt := 30) X (by decide) dX2_hasRun_23 (fun c_23 => ?_) (fun c_23 => ?_)
        · have h := ite_t c_23 h
          refine g_iconst (pc := 30) X ic_0 dX2_hasRun_30 ?_
          exact g_retPz (pc := 31) X hr hlk dX2_hasRun_31 (Or.inl rfl) h
        · have h := ite_f c_23 h
          refine g_iconst (pc := 26) X ic_1 dX2_hasRun_26 ?_
          refine g_goto (pc := 27) (tgt := 31) X (by decide) dX2_hasRun_27 ?_
          exact g_retPz (pc := 31) X hr hlk dX2_hasRun_31 (Or.inr rfl) h
set_option maxRecDepth 20000 in
theorem c_X6_copy (x1 : Int32) (x2 : Int32) (x3 : Int32) (x4 : Int32) (x5 : Int32) (σ : Sg) (K : Int32 → Sg → Prop) : ∀ sz, Met l yX6_copy (.code yX6_copy cX6_copy 8 (some .int) :: AW) ({ frames := 1, cells := 0, slots := 0, locals := 80 } : Room) (pvM D (tyC cI cZ cS) (SXC tS tF) (wC cI cZ cS a σ) sz (w_X6_copy x1 x2 x3 x4 x5 σ K) [.ref (a 0), .int x1, .int x2, .int x3, .int x4, .int x5]) (va_Qi K (atM D (tyC cI cZ cS) (wC cI cZ cS a) (va_A (wC cI cZ cS a σ) sz)) (va_A (wC cI cZ cS a σ) sz)) 0 0 (va_A (wC cI cZ cS a σ) sz) := by
  intro sz
  refine met_Mi (own := "TrainNote") (lv := [(0, .ref (a 0)), (1, .int x1), (2, .int x2), (3, .int x3), (4, .int x4), (5, .int x5)]) (by decide +kernel) rfl (Nat.le_of_ble_eq_true rfl) rfl ?_
  intro p e s m args below meth c A X hK hX hA hr hlk h
  have hR : ∀ σ H locs, hpM D (wC cI cZ cS a) A s σ H locs → va_P D vwCl ((wC cI cZ cS a σ)) H := fun _ _ _ h => h.1
  have hok := SXC_ok tS tF
  refine g_iload_n (pc := 0) X rfl 1 rfl dX6_copy_0 ?_
  refine g_cS0i (pc := 1) (As := [.int x1]) X mi_X6_isNoSheet (c_X6_isNoSheet x1 _) kw2_213 ⟨rfl, rfl⟩ ⟨Nat.le_of_ble_eq_true rfl, Nat.le_of_ble_eq_true rfl⟩ rfl (Nat.le_of_ble_eq_true rfl) dX6_copy_1 rfl h (fun r1 h => ?_)
  refine g_if_ne (pc := 4) (tgt := 14) X (by decide) dX6_copy_4 (fun c_4 => ?_) (fun c_4 => ?_)
  · have h := ite_f c_4 h
    refine g_bipush (pc := 14) X bp_m2 dX6_copy_14 ?_
    exact g_retMi (pc := 16) X hK hr hlk dX6_copy_16 h
  · have h := ite_t c_4 h
    refine g_iload_n (pc := 7) X rfl 3 rfl dX6_copy_7 ?_
    refine g_cS0i (pc := 8) (As := [.int x3]) X mi_X6_isNoSheet (c_X6_isNoSheet x3 _) kw2_213 ⟨rfl, rfl⟩ ⟨Nat.le_of_ble_eq_true rfl, Nat.le_of_ble_eq_true rfl⟩ rfl (Nat.le_of_ble_eq_true rfl) dX6_copy_8 rfl h (fun r8 h => ?_)
    refine g_if_eq (pc := 11) (tgt := 17) X (by decide) dX6_copy_11 (fun c_11 => ?_) (fun c_11 => ?_)
    · have h := ite_t c_11 h
      refine g_aload_n (pc := 17) X rfl 0 rfl dX6_copy_17 ?_
      refine fX6_58 (pc := 18) X hK hR k_isTop_0 dX6_copy_18 ?_
      refine g_iload_n (pc := 21) X rfl 1 rfl dX6_copy_21 ?_
      obtain ⟨h_22, h⟩ := h
      refine aX6_sheets (pc := 22) X hK hR h_22 dX6_copy_22 ?_
      refine g_astore (pc := 23) (lv' := [(6, .ref (a (33 + 2 * (x1).toNatClampNeg))), (0, .ref (a 0)), (1, .int x1), (2, .int x2), (3, .int x3), (4, .int x4), (5, .int x5)]) X (by decide) rfl dX6_copy_23 ?_
      refine g_aload_n (pc := 25) X rfl 1 rfl dX6_copy_25 ?_
      refine fX6_58 (pc := 26) X hK hR k_isTop_0 dX6_copy_26 ?_
      refine g_iload_n (pc := 29) X rfl 4 rfl dX6_copy_29 ?_
      obtain ⟨h_30, h⟩ := h
      refine aX6_sheets (pc := 30) X hK hR h_30 dX6_copy_30 ?_
      refine g_astore (pc := 31) (lv' := [(7, .ref (a (33 + 2 * (x3).toNatClampNeg))), (6, .ref (a (33 + 2 * (x1).toNatClampNeg))), (0, .ref (a 0)), (1, .int x1), (2, .int x2), (3, .int x3), (4, .int x4), (5, .int x5)]) X (by decide) rfl dX6_copy_31 ?_
      refine g_aload (pc := 33) X 1 rfl dX6_copy_33 ?_
      refine g_cVPi (pc := 35) (As := []) X hK hR mi_X2_isLost (c_X2_isLost (k0 := (33 + 2 * (x1).toNatClampNeg)) (shIn h_22) σ _) (wl_ate (oX2 (cI := cI) (cZ := cZ) (cS := cS) (a := a) (shIn h_22)).1 ((oX2 (cI := cI) (cZ := cZ) (cS := cS) (a := a) (shIn h_22)).2 _)) rfl rfl kw2_216 ⟨rfl, rfl⟩ ⟨Nat.le_of_ble_eq_true rfl, Nat.le_of_ble_eq_true rfl⟩ rfl (Nat.le_of_ble_eq_true rfl) dX6_copy_35 rfl h (fun r35 h => ?_)
      have J49 : ∀ (_ : Unit), J_X6_copy_49 σ K → GMi p l e ({ frames := 1, cells := 0, slots := 0, locals := 80 } : Room) s m args below meth c K 8 D (tyC cI cZ cS) (wC cI cZ cS a) A 49 [(0, .ref (a 0))] [] σ := by
        intro _ h
        refine g_aload_n (pc := 49) X rfl 0 rfl dX6_copy_49 ?_
        refine g_iconst (pc := 50) X ic_1 dX6_copy_50 ?_
        refine g_cVMi (pc := 51) (As := [.int (1 : Int32)]) X hK hX hok hA mi_X6_find (c_X6_find (1 : Int32) σ _) (fun _ => ⟨_, wl_ate (oX6 (cI := cI) (cZ := cZ) (cS := cS) (a := a) k_isTop_0).1 ((oX6 (cI := cI) (cZ := cZ) (cS := cS) (a := a) k_isTop_0).2 _)⟩) rfl rfl kw2_220 ⟨rfl, rfl⟩ ⟨Nat.le_of_ble_eq_true rfl, Nat.le_of_ble_eq_true rfl⟩ rfl (Nat.le_of_ble_eq_true rfl) dX6_copy_51 rfl h (fun r51 τ51 h => ?_)
        exact g_retMi (pc := 54) X hK hr hlk dX6_copy_54 h
      refine g_if_ne (pc := 38) (tgt := 49) X (by decide) dX6_copy_38 (fun c_38 => ?_) (fun c_38 => ?_)
      · have h := ite_f c_38 h
        exact g_lv (J49 () h) [2] rfl
      · have h := ite_t c_38 h
        refine g_aload (pc := 41) X 0 rfl dX6_copy_41 ?_
        refine g_cVPi (pc := 43) (As := []) X hK hR mi_X2_isLost (c_X2_isLost (k0 := (33 + 2 * (x3).toNatClampNeg)) (shIn h_30) σ _) (wl_ate (oX2 (cI := cI) (cZ := cZ) (cS := cS) (a := a) (shIn h_30)).1 ((oX2 (cI := cI) (cZ := cZ) (cS := cS) (a := a) (shIn h_30)).2 _)) rfl rfl kw2_216 ⟨rfl, rfl⟩ ⟨Nat.le_of_ble_eq_true rfl, Nat.le_of_ble_eq_true rfl⟩ rfl (Nat.le_of_ble_eq_true rfl) dX6_copy_43 rfl h (fun r43 h => ?_)
        refine g_if_eq (pc := 46) (tgt := 55) X (by decide) dX6_copy_46 (fun c_46 => ?_) (fun c_46 => ?_)
        · have h := ite_t c_46 h
          refine g_aload (pc := 55) X 1 rfl dX6_copy_55 ?_
          refine fX6_276 (pc := 57) X hK hR (shIn h_22) dX6_copy_57 ?_
          refine g_aload (pc := 60) X 0 rfl dX6_copy_60 ?_
          refine fX6_276 (pc := 62) X hK hR (shIn h_30) dX6_copy_62 ?_
          refine g_icmp_eq (pc := 65) (tgt := 74) X (by decide) dX6_copy_65 (fun c_65 => ?_) (fun c_65 => ?_)
          · have h := ite_t c_65 h
            refine g_aload (pc := 74) X 1 rfl dX6_copy_74 ?_
            refine g_iload_n (pc := 76) X rfl 4 rfl dX6_copy_76 ?_
            refine g_iload (pc := 77) X 7 rfl dX6_copy_77 ?_
            refine g_cVPi (pc := 79) (As := [.int x2, .int x5]) X hK hR mi_X2_hasRun (c_X2_hasRun (k0 := (33 + 2 * (x1).toNatClampNeg)) (shIn h_22) x2 x5 σ _) (wl_ate (oX2 (cI := cI) (cZ := cZ) (cS := cS) (a := a) (shIn h_22)).1 ((oX2 (cI := cI) (cZ := cZ) (cS := cS) (a := a) (shIn h_22)).2 _)) rfl rfl kw3_72 ⟨rfl, rfl⟩ ⟨Nat.le_of_ble_eq_true rfl, Nat.le_of_ble_eq_true rfl⟩ rfl (Nat.le_of_ble_eq_true rfl) dX6_copy_79 rfl h (fun r79 h => ?_)
            have J97 : ∀ (_ : Unit), J_X6_copy_97 σ K → GMi p l e ({ frames := 1, cells := 0, slots := 0, locals := 80 } : Room) s m args below meth c K 8 D (tyC cI cZ cS) (wC cI cZ cS a) A 97 [(0, .ref (a 0))] [] σ := by
              intro _ h
              refine g_aload_n (pc := 97) X rfl 0 rfl dX6_copy_97 ?_
              refine g_iconst (pc := 98) X ic_2 dX6_copy_98 ?_
              refine g_cVMi (pc := 99) (As := [.int (2 : Int32)]) X hK hX hok hA mi_X6_find (c_X6_find (2 : Int32) σ _) (fun _ => ⟨_, wl_ate (oX6 (cI := cI) (cZ := cZ) (cS := cS) (a := a) k_isTop_0).1 ((oX6 (cI := cI) (cZ := cZ) (cS := cS) (a := a) k_isTop_0).2 _)⟩) rfl rfl kw2_220 ⟨rfl, rfl⟩ ⟨Nat.le_of_ble_eq_true rfl, Nat.le_of_ble_eq_true rfl⟩ rfl (Nat.le_of_ble_eq_true rfl) dX6_copy_99 rfl h (fun r99 τ99 h => ?_)
              exact g_retMi (pc := 102) X hK hr hlk dX6_copy_102 h
            refine g_if_eq (pc := 82) (tgt := 97) X (by decide) dX6_copy_82 (fun c_82 => ?_) (fun c_82 => ?_)
            · have h := ite_t c_82 h
              exact g_lv (J97 () h) [2] rfl
            · have h := ite_f c_82 h
              refine g_aload (pc := 85) X 0 rfl dX6_copy_85 ?_
              refine g_iload (pc := 87) X 6 rfl dX6_copy_87 ?_
              refine g_iload (pc := 89) X 7 rfl dX6_copy_89 ?_
              refine g_cVPi (pc := 91) (As := [.int x4, .int x5]) X hK hR mi_X2_hasRun (c_X2_hasRun (k0 := (33 + 2 * (x3).toNatClampNeg)) (shIn h_30) x4 x5 σ _) (wl_ate (oX2 (cI := cI) (cZ := cZ) (cS := cS) (a := a) (shIn h_30)).1 ((oX2 (cI := cI) (cZ := cZ) (cS := cS) (a := a) (shIn h_30)).2 _)) rfl rfl kw3_72 ⟨rfl, rfl⟩ ⟨Nat.le_of_ble_eq_true rfl, Nat.le_of_ble_eq_true rfl⟩ rfl (Nat.le_of_ble_eq_true rfl) dX6_copy_91 rfl h (fun r91 h => ?_)
              refine g_if_ne (pc := 94) (tgt := 103) X (by decide) dX6_copy_94 (fun c_94 => ?_) (fun c_94 => ?_)
              · have h := ite_f c_94 h
                refine g_aload (pc := 103) X 1 rfl dX6_copy_103 ?_
                refine fX6_221 (pc := 105) X hK hR (shIn h_22) dX6_copy_105 ?_
                refine g_iload_n (pc := 108) X rfl 4 rfl dX6_copy_108 ?_
                refine g_aload (pc := 109) X 0 rfl dX6_copy_109 ?_
                refine fX6_221 (pc := 111) X hK hR (shIn h_30) dX6_copy_111 ?_
                refine g_iload (pc := 114) X 6 rfl dX6_copy_114 ?_
                refine g_iload (pc := 116) X 7 rfl dX6_copy_116 ?_
                obtain ⟨⟨h1_118, h2_118, h3_118, h4_118, h5_118⟩, h⟩ := h
                refine g_copy (pc := 118) (t0 := 0) X hK (rX2_items (cI := cI) (cZ := cZ) (cS := cS) (a := a) (shIn h_22)).1 (rX2_items (cI := cI) (cZ := cZ) (cS := cS) (a := a) (shIn h_22)).2 (rX2_items (cI := cI) (cZ := cZ) (cS := cS) (a := a) (shIn h_30)).1 (rX2_items (cI := cI) (cZ := cZ) (cS := cS) (a := a) (shIn h_30)).2 rfl kw3_76 kw3_78 kw3_77 kw1_12 h1_118 h2_118 h3_118 h4_118 h5_118 (Nat.le_of_ble_eq_true rfl) (by decide) dX6_copy_118 (fun τ118 eτ118 => ?_)
                have h := h τ118 eτ118
                refine g_iconst (pc := 121) X ic_1 dX6_copy_121 ?_
                exact g_retMi (pc := 122) X hK hr hlk dX6_copy_122 h
              · have h := ite_t c_94 h
                exact g_lv (J97 () h) [2] rfl
          · have h := ite_f c_65 h
            refine g_aload_n (pc := 68) X rfl 2 rfl dX6_copy_68 ?_
            refine g_iconst (pc := 69) X ic_4 dX6_copy_69 ?_
            refine g_cVMi (pc := 70) (As := [.int (4 : Int32)]) X hK hX hok hA mi_X6_find (c_X6_find (4 : Int32) σ _) (fun _ => ⟨_, wl_ate (oX6 (cI := cI) (cZ := cZ) (cS := cS) (a := a) k_isTop_0).1 ((oX6 (cI := cI) (cZ := cZ) (cS := cS) (a := a) k_isTop_0).2 _)⟩) rfl rfl kw2_220 ⟨rfl, rfl⟩ ⟨Nat.le_of_ble_eq_true rfl, Nat.le_of_ble_eq_true rfl⟩ rfl (Nat.le_of_ble_eq_true rfl) dX6_copy_70 rfl h (fun r70 τ70 h => ?_)
            exact g_retMi (pc := 73) X hK hr hlk dX6_copy_73 h
        · have h := ite_f c_46 h
          exact g_lv (J49 () h) [2] rfl
    · have h := ite_f c_11 h
      refine g_bipush (pc := 14) X bp_m2 dX6_copy_14 ?_
      exact g_retMi (pc := 16) X hK hr hlk dX6_copy_16 h
end
