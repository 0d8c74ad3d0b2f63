section
variable {l : Launch} {D : va_G} {cI cZ cS : ClassId} {a : Nat → Nat} {tS tF : Nat}
set_option maxRecDepth 20000 in
theorem c_X7_ask (σ : Sg) (K : Int32 → Sg → Prop) : ∀ sz, Met l yX7_ask (.code yX7_ask cX7_ask 1 (some .int) :: AW) ({ frames := 5, cells := 0, slots := 0, locals := 118 } : Room) (pvM D (tyM cI) SXM (wM cI a σ) sz (w_X7_ask σ K) [.ref (a 0)]) (va_Qi K (atM D (tyM cI) (wM cI a) (va_A (wM cI a σ) sz)) (va_A (wM cI a σ) sz)) 0 0 (va_A (wM cI a σ) sz) := by
  intro sz
  refine met_Mi (own := "TrainNoteModel") (lv := [(0, .ref (a 0))]) (by decide +kernel) rfl (Nat.le_of_ble_eq_true rfl) rfl ?_
  intro p e s m args below meth c A X hK hX hA hr hlk h
  have hR : ∀ σ H locs, hpM D (wM cI a) A s σ H locs → va_P D vwCl ((wM cI a σ)) H := fun _ _ _ h => h.1
  have hok := SXM_ok
  refine g_aload_n (pc := 0) X rfl 0 rfl dX7_ask_0 ?_
  refine g_cVMv (pc := 1) (As := []) X hK hX hok hA mi_X7_find (c_X7_find  σ _) (fun _ => ⟨_, wl_ate (oX7 (cI := cI) (a := a) k_isMod_0).1 ((oX7 (cI := cI) (a := a) k_isMod_0).2 _)⟩) rfl rfl kw4_67 ⟨rfl, rfl⟩ ⟨Nat.le_of_ble_eq_true rfl, Nat.le_of_ble_eq_true rfl⟩ rfl (Nat.le_of_ble_eq_true rfl) dX7_ask_1 rfl h (fun τ1 h => ?_)
  refine g_aload_n (pc := 4) X rfl 0 rfl dX7_ask_4 ?_
  refine g_cVMi (pc := 5) (As := []) X hK hX hok hA mi_X7_askNow (c_X7_askNow  τ1 _) (fun _ => ⟨_, wl_ate (oX7 (cI := cI) (a := a) k_isMod_0).1 ((oX7 (cI := cI) (a := a) k_isMod_0).2 _)⟩) rfl rfl kw4_219 ⟨rfl, rfl⟩ ⟨Nat.le_of_ble_eq_true rfl, Nat.le_of_ble_eq_true rfl⟩ rfl (Nat.le_of_ble_eq_true rfl) dX7_ask_5 rfl h (fun r5 τ5 h => ?_)
  exact g_retMi (pc := 8) X hK hr hlk dX7_ask_8 h
set_option maxRecDepth 20000 in
theorem c_X7_isSung (x1 : Int32) (σ : Sg) (K : Int32 → Prop) : Met l yX7_isSung (.code yX7_isSung cX7_isSung 2 (some .boolean) :: AW) ({ frames := 2, cells := 0, slots := 0, locals := 46 } : Room) (pvP D (tyM cI) (wM cI a σ) (w_X7_isSung x1 σ K) [.ref (a 0), .int x1]) (vp_Si K) 0 0 (fun _ => False) := by
  refine met_Pi (own := "TrainNoteModel") (lv := [(0, .ref (a 0)), (1, .int x1)]) (by decide +kernel) rfl (Nat.le_of_ble_eq_true rfl) rfl ?_
  intro p e s m args below meth c X hK hr hlk h
  have hR : ∀ σ H locs, hpP D (wM cI a) s σ H locs → va_P D vwCl ((wM cI a σ)) H := fun _ _ _ h => h.1
  refine g_aload_n (pc := 0) X rfl 0 rfl dX7_isSung_0 ?_
  refine g_iload_n (pc := 1) X rfl 1 rfl dX7_isSung_1 ?_
  refine g_cVPi (pc := 2) (As := [.int x1]) X hK hR mi_X7_isBar (c_X7_isBar x1 σ _) (wl_ate (oX7 (cI := cI) (a := a) k_isMod_0).1 ((oX7 (cI := cI) (a := a) k_isMod_0).2 _)) rfl rfl kw4_94 ⟨rfl, rfl⟩ ⟨Nat.le_of_ble_eq_true rfl, Nat.le_of_ble_eq_true rfl⟩ rfl (Nat.le_of_ble_eq_true rfl) dX7_isSung_2 rfl h (fun r2 h => ?_)
  refine g_if_eq (pc := 5) (tgt := 22) X (by decide) dX7_isSung_5 (fun c_5 => ?_) (fun c_5 => ?_)
  · have h := ite_t c_5 h
    refine g_iconst (pc := 22) X ic_0 dX7_isSung_22 ?_
    exact g_retPz (pc := 23) X hr hlk dX7_isSung_23 (Or.inl rfl) h
  · have h := ite_f c_5 h
    refine g_aload_n (pc := 8) X rfl 0 rfl dX7_isSung_8 ?_
    refine fX7_31 (pc := 9) X hK hR k_isMod_0 dX7_isSung_9 ?_
    refine g_iload_n (pc := 12) X rfl 1 rfl dX7_isSung_12 ?_
    obtain ⟨h_13, h⟩ := h
    refine aX7_bar (pc := 13) X hK hR k_isMod_0 h_13 dX7_isSung_13 ?_
    refine g_iconst (pc := 14) X ic_1 dX7_isSung_14 ?_
    refine g_icmp_eq (pc := 15) (tgt := 22) X (by decide) dX7_isSung_15 (fun c_15 => ?_) (fun c_15 => ?_)
    · have h := ite_t c_15 h
      refine g_iconst (pc := 22) X ic_0 dX7_isSung_22 ?_
      exact g_retPz (pc := 23) X hr hlk dX7_isSung_23 (Or.inl rfl) h
    · have h := ite_f c_15 h
      refine g_iconst (pc := 18) X ic_1 dX7_isSung_18 ?_
      refine g_goto (pc := 19) (tgt := 23) X (by decide) dX7_isSung_19 ?_
      exact g_retPz (pc := 23) X hr hlk dX7_isSung_23 (Or.inr rfl) h
set_option maxRecDepth 20000 in
theorem c_X7_herdOf (x1 : Int32) (x2 : Int32) (x3 : Int32) (x4 : Int32) (σ : Sg) (K : Int64 → Sg → Prop) : ∀ sz, Met l yX7_herdOf (.code yX7_herdOf cX7_herdOf 16 (some .long) :: AW) ({ frames := 3, cells := 0, slots := 0, locals := 72 } : Room) (pvM D (tyM cI) SXM (wM cI a σ) sz (w_X7_herdOf x1 x2 x3 x4 σ K) [.ref (a 0), .int x1, .int x2, .int x3, .int x4]) (va_Ql K (atM D (tyM cI) (wM cI a) (va_A (wM cI a σ) sz)) (va_A (wM cI a σ) sz)) 0 0 (va_A (wM cI a σ) sz) := by
  intro sz
  refine met_Ml (own := "TrainNoteModel") (lv := [(0, .ref (a 0)), (1, .int x1), (2, .int x2), (3, .int x3), (4, .int x4)]) (by decide +kernel) rfl (Nat.le_of_ble_eq_true rfl) rfl ?_
  intro p e s m args below meth c A X hK hX hA hr hlk h
  have hR : ∀ σ H locs, hpM D (wM cI a) A s σ H locs → va_P D vwCl ((wM cI a σ)) H := fun _ _ _ h => h.1
  have hok := SXM_ok
  refine g_aload_n (pc := 0) X rfl 0 rfl dX7_herdOf_0 ?_
  refine fX7_34 (pc := 1) X hK hR k_isMod_0 dX7_herdOf_1 ?_
  refine g_iconst (pc := 4) X ic_1 dX7_herdOf_4 ?_
  obtain ⟨h_5, h⟩ := h
  refine aX7_train (pc := 5) X hK hR k_isMod_0 h_5 dX7_herdOf_5 ?_
  refine g_topi (fun x5_6 ex5_6 => ?_)
  have h := h x5_6 ex5_6
  refine g_istore (pc := 6) (lv' := [(5, .int x5_6), (0, .ref (a 0)), (1, .int x1), (2, .int x2), (3, .int x3), (4, .int x4)]) X (by decide) rfl dX7_herdOf_6 ?_
  refine g_lconst (pc := 8) (v := 0) X rfl dX7_herdOf_8 ?_
  refine g_lstore (pc := 9) (lv' := [(6, .long (0 : Int64)), (5, .int x5_6), (0, .ref (a 0)), (1, .int x1), (2, .int x2), (3, .int x3), (4, .int x4)]) X (by decide) rfl dX7_herdOf_9 ?_
  refine g_lconst (pc := 11) (v := 1) X rfl dX7_herdOf_11 ?_
  refine g_lstore (pc := 12) (lv' := [(8, .long (1 : Int64)), (6, .long (0 : Int64)), (5, .int x5_6), (0, .ref (a 0)), (1, .int x1), (2, .int x2), (3, .int x3), (4, .int x4)]) X (by decide) rfl dX7_herdOf_12 ?_
  refine g_lconst (pc := 14) (v := 1) X rfl dX7_herdOf_14 ?_
  refine g_lstore (pc := 15) (lv' := [(10, .long (1 : Int64)), (8, .long (1 : Int64)), (6, .long (0 : Int64)), (5, .int x5_6), (0, .ref (a 0)), (1, .int x1), (2, .int x2), (3, .int x3), (4, .int x4)]) X (by decide) rfl dX7_herdOf_15 ?_
  refine g_iconst (pc := 17) X ic_0 dX7_herdOf_17 ?_
  refine g_istore (pc := 18) (lv' := [(12, .int (0 : Int32)), (10, .long (1 : Int64)), (8, .long (1 : Int64)), (6, .long (0 : Int64)), (5, .int x5_6), (0, .ref (a 0)), (1, .int x1), (2, .int x2), (3, .int x3), (4, .int x4)]) X (by decide) rfl dX7_herdOf_18 ?_
  obtain ⟨n20, h⟩ := h
  have X138 : ∀ (u6_138 : Int64) (u8_138 : Int64) (ρe138 : Sg), E_X7_herdOf_20 x5_6 x4 K u6_138 u8_138 ρe138 → GMl p l e ({ frames := 3, cells := 0, slots := 0, locals := 72 } : Room) s m args below meth c K 16 D (tyM cI) (wM cI a) A 138 [(0, .ref (a 0)), (4, .int x4), (5, .int x5_6), (6, .long u6_138), (8, .long u8_138)] [] ρe138 := by
    intro u6_138 u8_138 ρe138 h
    refine g_aload_n (pc := 138) X rfl 0 rfl dX7_herdOf_138 ?_
    refine fX7_34 (pc := 139) X hK hR k_isMod_0 dX7_herdOf_139 ?_
    refine g_iconst (pc := 142) X ic_1 dX7_herdOf_142 ?_
    refine g_iload (pc := 143) X 2 rfl dX7_herdOf_143 ?_
    obtain ⟨h_145, h⟩ := h
    refine tX7_train (pc := 145) X hK k_isMod_0 h_145 dX7_herdOf_145 (fun τ145 eτ145 => ?_)
    have h := h τ145 eτ145
    refine g_aload_n (pc := 146) X rfl 0 rfl dX7_herdOf_146 ?_
    refine g_cVMv (pc := 147) (As := []) X hK hX hok hA mi_X7_findNotes (c_X7_findNotes  τ145 _) (fun _ => ⟨_, wl_ate (oX7 (cI := cI) (a := a) k_isMod_0).1 ((oX7 (cI := cI) (a := a) k_isMod_0).2 _)⟩) rfl rfl kw4_71 ⟨rfl, rfl⟩ ⟨Nat.le_of_ble_eq_true rfl, Nat.le_of_ble_eq_true rfl⟩ rfl (Nat.le_of_ble_eq_true rfl) dX7_herdOf_147 rfl h (fun τ147 h => ?_)
    refine g_lload (pc := 150) X 3 rfl dX7_herdOf_150 ?_
    refine g_lload (pc := 152) X 4 rfl dX7_herdOf_152 ?_
    refine g_iload (pc := 154) X 1 rfl dX7_herdOf_154 ?_
    refine g_cS0l (pc := 156) (As := [.long u6_138, .long u8_138, .int x4]) X mi_X7_part (c_X7_part u6_138 u8_138 x4 _) kw5_0 ⟨rfl, rfl⟩ ⟨Nat.le_of_ble_eq_true rfl, Nat.le_of_ble_eq_true rfl⟩ rfl (Nat.le_of_ble_eq_true rfl) dX7_herdOf_156 rfl h (fun r156 h => ?_)
    exact g_retMl (pc := 159) X hK hr hlk dX7_herdOf_159 h
  have L20 : ∀ (n : Nat) (y6_20 : Int64) (y8_20 : Int64) (y10_20 : Int64) (y12_20 : Int32) (ρ20 : Sg), lq5 (F_X7_herdOf_20 x1 x2 x3 (E_X7_herdOf_20 x5_6 x4 K)) n y6_20 y8_20 y10_20 y12_20 ρ20 → GMl p l e ({ frames := 3, cells := 0, slots := 0, locals := 72 } : Room) s m args below meth c K 16 D (tyM cI) (wM cI a) A 20 [(0, .ref (a 0)), (1, .int x1), (2, .int x2), (3, .int x3), (4, .int x4), (5, .int x5_6), (6, .long y6_20), (8, .long y8_20), (10, .long y10_20), (12, .int y12_20)] [] ρ20 := by
    intro n
    induction n with
    | zero =>
      intro y6_20 y8_20 y10_20 y12_20 ρ20 h
      exact h.elim
    | succ n ih =>
      intro y6_20 y8_20 y10_20 y12_20 ρ20 h
      have h : F_X7_herdOf_20 x1 x2 x3 (E_X7_herdOf_20 x5_6 x4 K) (lq5 (F_X7_herdOf_20 x1 x2 x3 (E_X7_herdOf_20 x5_6 x4 K)) n) y6_20 y8_20 y10_20 y12_20 ρ20 := h
      generalize lq5 (F_X7_herdOf_20 x1 x2 x3 (E_X7_herdOf_20 x5_6 x4 K)) n = rec20 at h ih
      refine g_iload (pc := 20) X 9 rfl dX7_herdOf_20 ?_
      refine g_iload_n (pc := 22) X rfl 1 rfl dX7_herdOf_22 ?_
      refine g_icmp_gt (pc := 23) (tgt := 138) X (by decide) dX7_herdOf_23 (fun c_23 => ?_) (fun c_23 => ?_)
      · have h := ite_t c_23 h
        exact g_lv (X138 y6_20 y8_20 ρ20 h) [0, 4, 5, 6, 7] rfl
      · have h := ite_f c_23 h
        refine g_lload (pc := 26) X 8 rfl dX7_herdOf_26 ?_
        refine g_lstore (pc := 28) (lv' := [(13, .long y10_20), (0, .ref (a 0)), (1, .int x1), (2, .int x2), (3, .int x3), (4, .int x4), (5, .int x5_6), (6, .long y6_20), (8, .long y8_20), (10, .long y10_20), (12, .int y12_20)]) X (by decide) rfl dX7_herdOf_28 ?_
        refine g_iconst (pc := 30) X ic_0 dX7_herdOf_30 ?_
        refine g_istore (pc := 31) (lv' := [(15, .int (0 : Int32)), (13, .long y10_20), (0, .ref (a 0)), (1, .int x1), (2, .int x2), (3, .int x3), (4, .int x4), (5, .int x5_6), (6, .long y6_20), (8, .long y8_20), (10, .long y10_20), (12, .int y12_20)]) X (by decide) rfl dX7_herdOf_31 ?_
        obtain ⟨n33, h⟩ := h
        have X67 : ∀ (u13_67 : Int64), E_X7_herdOf_33 ρ20 y12_20 x3 x1 y10_20 rec20 y8_20 y6_20 u13_67 → GMl p l e ({ frames := 3, cells := 0, slots := 0, locals := 72 } : Room) s m args below meth c K 16 D (tyM cI) (wM cI a) A 67 [(0, .ref (a 0)), (1, .int x1), (2, .int x2), (3, .int x3), (4, .int x4), (5, .int x5_6), (6, .long y6_20), (8, .long y8_20), (10, .long y10_20), (12, .int y12_20), (13, .long u13_67)] [] ρ20 := by
          intro u13_67 h
          refine g_aload_n (pc := 67) X rfl 0 rfl dX7_herdOf_67 ?_
          refine fX7_34 (pc := 68) X hK hR k_isMod_0 dX7_herdOf_68 ?_
          refine g_iconst (pc := 71) X ic_1 dX7_herdOf_71 ?_
          refine g_iload (pc := 72) X 9 rfl dX7_herdOf_72 ?_
          obtain ⟨h_74, h⟩ := h
          refine tX7_train (pc := 74) X hK k_isMod_0 h_74 dX7_herdOf_74 (fun τ74 eτ74 => ?_)
          have h := h τ74 eτ74
          refine g_aload_n (pc := 75) X rfl 0 rfl dX7_herdOf_75 ?_
          refine g_cVMv (pc := 76) (As := []) X hK hX hok hA mi_X7_findNotes (c_X7_findNotes  τ74 _) (fun _ => ⟨_, wl_ate (oX7 (cI := cI) (a := a) k_isMod_0).1 ((oX7 (cI := cI) (a := a) k_isMod_0).2 _)⟩) rfl rfl kw4_71 ⟨rfl, rfl⟩ ⟨Nat.le_of_ble_eq_true rfl, Nat.le_of_ble_eq_true rfl⟩ rfl (Nat.le_of_ble_eq_true rfl) dX7_herdOf_76 rfl h (fun τ76 h => ?_)
          refine g_lload (pc := 79) X 6 rfl dX7_herdOf_79 ?_
          refine g_aload_n (pc := 81) X rfl 0 rfl dX7_herdOf_81 ?_
          refine g_iload_n (pc := 82) X rfl 3 rfl dX7_herdOf_82 ?_
          refine g_cVPi (pc := 83) (As := [.int x3]) X hK hR mi_X7_closes (c_X7_closes x3 τ76 _) (wl_ate (oX7 (cI := cI) (a := a) k_isMod_0).1 ((oX7 (cI := cI) (a := a) k_isMod_0).2 _)) rfl rfl kw4_131 ⟨rfl, rfl⟩ ⟨Nat.le_of_ble_eq_true rfl, Nat.le_of_ble_eq_true rfl⟩ rfl (Nat.le_of_ble_eq_true rfl) dX7_herdOf_83 rfl h (fun r83 h => ?_)
          have J95 : ∀ (v0_95 : Int64) (v1_95 : Int64), J_X7_herdOf_95 x1 y12_20 y10_20 rec20 τ76 y8_20 v0_95 v1_95 → GMl p l e ({ frames := 3, cells := 0, slots := 0, locals := 72 } : Room) s m args below meth c K 16 D (tyM cI) (wM cI a) A 95 [(0, .ref (a 0)), (1, .int x1), (2, .int x2), (3, .int x3), (4, .int x4), (5, .int x5_6), (8, .long y8_20), (10, .long y10_20), (12, .int y12_20)] [.long v0_95, .long v1_95] τ76 := by
            intro v0_95 v1_95 h
            refine g_ladd (pc := 95) X dX7_herdOf_95 ?_
            refine g_lstore (pc := 96) (lv' := [(6, .long (v1_95 + v0_95)), (0, .ref (a 0)), (1, .int x1), (2, .int x2), (3, .int x3), (4, .int x4), (5, .int x5_6), (8, .long y8_20), (10, .long y10_20), (12, .int y12_20)]) X (by decide) rfl dX7_herdOf_96 ?_
            refine g_lload (pc := 98) X 7 rfl dX7_herdOf_98 ?_
            refine g_iload (pc := 100) X 9 rfl dX7_herdOf_100 ?_
            refine g_iload_n (pc := 102) X rfl 2 rfl dX7_herdOf_102 ?_
            have J113 : ∀ (v0_113 : Int64) (v1_113 : Int64), J_X7_herdOf_113 y12_20 y10_20 x1 rec20 v1_95 v0_95 τ76 v0_113 v1_113 → GMl p l e ({ frames := 3, cells := 0, slots := 0, locals := 72 } : Room) s m args below meth c K 16 D (tyM cI) (wM cI a) A 113 [(0, .ref (a 0)), (1, .int x1), (2, .int x2), (3, .int x3), (4, .int x4), (5, .int x5_6), (6, .long (v1_95 + v0_95)), (10, .long y10_20), (12, .int y12_20)] [.long v0_113, .long v1_113] τ76 := by
              intro v0_113 v1_113 h
              refine g_lmul (pc := 113) X dX7_herdOf_113 ?_
              refine g_lstore (pc := 114) (lv' := [(8, .long (v1_113 * v0_113)), (0, .ref (a 0)), (1, .int x1), (2, .int x2), (3, .int x3), (4, .int x4), (5, .int x5_6), (6, .long (v1_95 + v0_95)), (10, .long y10_20), (12, .int y12_20)]) X (by decide) rfl dX7_herdOf_114 ?_
              refine g_lload (pc := 116) X 8 rfl dX7_herdOf_116 ?_
              refine g_iload_n (pc := 118) X rfl 2 rfl dX7_herdOf_118 ?_
              refine g_iload (pc := 119) X 9 rfl dX7_herdOf_119 ?_
              refine g_isub (pc := 121) X dX7_herdOf_121 ?_
              refine g_i2l (pc := 122) X dX7_herdOf_122 ?_
              refine g_lmul (pc := 123) X dX7_herdOf_123 ?_
              refine g_iload (pc := 124) X 9 rfl dX7_herdOf_124 ?_
              refine g_iconst (pc := 126) X ic_1 dX7_herdOf_126 ?_
              refine g_iadd (pc := 127) X dX7_herdOf_127 ?_
              refine g_i2l (pc := 128) X dX7_herdOf_128 ?_
              obtain ⟨h_129, h⟩ := h
              refine g_ldiv (pc := 129) X h_129 dX7_herdOf_129 ?_
              refine g_topl (fun x10_130 ex10_130 => ?_)
              have h := h x10_130 ex10_130
              refine g_lstore (pc := 130) (lv' := [(10, .long x10_130), (8, .long (v1_113 * v0_113)), (0, .ref (a 0)), (1, .int x1), (2, .int x2), (3, .int x3), (4, .int x4), (5, .int x5_6), (6, .long (v1_95 + v0_95)), (12, .int y12_20)]) X (by decide) rfl dX7_herdOf_130 ?_
              refine g_iinc (pc := 132) (lv' := [(12, .int (y12_20 + (1 : Int32))), (10, .long x10_130), (8, .long (v1_113 * v0_113)), (0, .ref (a 0)), (1, .int x1), (2, .int x2), (3, .int x3), (4, .int x4), (5, .int x5_6), (6, .long (v1_95 + v0_95))]) X 9 rfl rfl (by decide) rfl dX7_herdOf_132 ?_
              refine g_goto (pc := 135) (tgt := 20) X (by decide) dX7_herdOf_135 ?_
              exact g_lv (ih (v1_95 + v0_95) (v1_113 * v0_113) x10_130 (y12_20 + (1 : Int32)) τ76 h) [3, 4, 5, 6, 7, 8, 9, 2, 1, 0] rfl
            refine g_icmp_ge (pc := 103) (tgt := 112) X (by decide) dX7_herdOf_103 (fun c_103 => ?_) (fun c_103 => ?_)
            · have h := ite_t c_103 h
              refine g_lconst (pc := 112) (v := 1) X rfl dX7_herdOf_112 ?_
              exact g_lv (J113 (1 : Int64) y8_20 h) [1, 2, 3, 4, 5, 6, 0, 8, 9] rfl
            · have h := ite_f c_103 h
              refine g_ldc2 (pc := 106) X kw4_231 dX7_herdOf_106 ?_
              refine g_goto (pc := 109) (tgt := 113) X (by decide) dX7_herdOf_109 ?_
              exact g_lv (J113 (16 : Int64) y8_20 h) [1, 2, 3, 4, 5, 6, 0, 8, 9] rfl
          refine g_if_eq (pc := 86) (tgt := 94) X (by decide) dX7_herdOf_86 (fun c_86 => ?_) (fun c_86 => ?_)
          · have h := ite_t c_86 h
            refine g_lconst (pc := 94) (v := 0) X rfl dX7_herdOf_94 ?_
            exact g_lv (J95 (0 : Int64) y6_20 h) [0, 1, 2, 3, 4, 5, 7, 8, 9] rfl
          · have h := ite_f c_86 h
            refine g_lload (pc := 89) X 10 rfl dX7_herdOf_89 ?_
            refine g_goto (pc := 91) (tgt := 95) X (by decide) dX7_herdOf_91 ?_
            exact g_lv (J95 u13_67 y6_20 h) [0, 1, 2, 3, 4, 5, 7, 8, 9] rfl
        have L33 : ∀ (n : Nat) (y13_33 : Int64) (y15_33 : Int32), lq2 (F_X7_herdOf_33 x1 y12_20 x2 (E_X7_herdOf_33 ρ20 y12_20 x3 x1 y10_20 rec20 y8_20 y6_20)) n y13_33 y15_33 → GMl p l e ({ frames := 3, cells := 0, slots := 0, locals := 72 } : Room) s m args below meth c K 16 D (tyM cI) (wM cI a) A 33 [(0, .ref (a 0)), (1, .int x1), (2, .int x2), (3, .int x3), (4, .int x4), (5, .int x5_6), (6, .long y6_20), (8, .long y8_20), (10, .long y10_20), (12, .int y12_20), (13, .long y13_33), (15, .int y15_33)] [] ρ20 := by
          intro n
          induction n with
          | zero =>
            intro y13_33 y15_33 h
            exact h.elim
          | succ n ih =>
            intro y13_33 y15_33 h
            have h : F_X7_herdOf_33 x1 y12_20 x2 (E_X7_herdOf_33 ρ20 y12_20 x3 x1 y10_20 rec20 y8_20 y6_20) (lq2 (F_X7_herdOf_33 x1 y12_20 x2 (E_X7_herdOf_33 ρ20 y12_20 x3 x1 y10_20 rec20 y8_20 y6_20)) n) y13_33 y15_33 := h
            refine g_iload (pc := 33) X 11 rfl dX7_herdOf_33 ?_
            refine g_iload_n (pc := 35) X rfl 1 rfl dX7_herdOf_35 ?_
            refine g_icmp_ge (pc := 36) (tgt := 67) X (by decide) dX7_herdOf_36 (fun c_36 => ?_) (fun c_36 => ?_)
            · have h := ite_t c_36 h
              exact g_lv (X67 y13_33 h) [0, 1, 2, 3, 4, 5, 6, 7, 8, 9, 10] rfl
            · have h := ite_f c_36 h
              refine g_lload (pc := 39) X 10 rfl dX7_herdOf_39 ?_
              refine g_iload (pc := 41) X 11 rfl dX7_herdOf_41 ?_
              refine g_iload (pc := 43) X 9 rfl dX7_herdOf_43 ?_
              refine g_icmp_ge (pc := 45) (tgt := 53) X (by decide) dX7_herdOf_45 (fun c_45 => ?_) (fun c_45 => ?_)
              · have h := ite_t c_45 h
                refine g_bipush (pc := 53) X bp_16 dX7_herdOf_53 ?_
                refine g_iload_n (pc := 55) X rfl 2 rfl dX7_herdOf_55 ?_
                refine g_isub (pc := 56) X dX7_herdOf_56 ?_
                refine g_i2l (pc := 57) X dX7_herdOf_57 ?_
                refine g_lmul (pc := 58) X dX7_herdOf_58 ?_
                refine g_topl (fun x13_59 ex13_59 => ?_)
                have h := h x13_59 ex13_59
                refine g_lstore (pc := 59) (lv' := [(13, .long x13_59), (0, .ref (a 0)), (1, .int x1), (2, .int x2), (3, .int x3), (4, .int x4), (5, .int x5_6), (6, .long y6_20), (8, .long y8_20), (10, .long y10_20), (12, .int y12_20), (15, .int y15_33)]) X (by decide) rfl dX7_herdOf_59 ?_
                refine g_iinc (pc := 61) (lv' := [(15, .int (y15_33 + (1 : Int32))), (13, .long x13_59), (0, .ref (a 0)), (1, .int x1), (2, .int x2), (3, .int x3), (4, .int x4), (5, .int x5_6), (6, .long y6_20), (8, .long y8_20), (10, .long y10_20), (12, .int y12_20)]) X 11 rfl rfl (by decide) rfl dX7_herdOf_61 ?_
                refine g_goto (pc := 64) (tgt := 33) X (by decide) dX7_herdOf_64 ?_
                exact g_lv (ih x13_59 (y15_33 + (1 : Int32)) h) [2, 3, 4, 5, 6, 7, 8, 9, 10, 11, 1, 0] rfl
              · have h := ite_f c_45 h
                refine g_iload_n (pc := 48) X rfl 2 rfl dX7_herdOf_48 ?_
                refine g_i2l (pc := 49) X dX7_herdOf_49 ?_
                refine g_goto (pc := 50) (tgt := 58) X (by decide) dX7_herdOf_50 ?_
                refine g_lmul (pc := 58) X dX7_herdOf_58 ?_
                refine g_lstore (pc := 59) (lv' := [(13, .long (y13_33 * (x2).toInt64)), (0, .ref (a 0)), (1, .int x1), (2, .int x2), (3, .int x3), (4, .int x4), (5, .int x5_6), (6, .long y6_20), (8, .long y8_20), (10, .long y10_20), (12, .int y12_20), (15, .int y15_33)]) X (by decide) rfl dX7_herdOf_59 ?_
                refine g_iinc (pc := 61) (lv' := [(15, .int (y15_33 + (1 : Int32))), (13, .long (y13_33 * (x2).toInt64)), (0, .ref (a 0)), (1, .int x1), (2, .int x2), (3, .int x3), (4, .int x4), (5, .int x5_6), (6, .long y6_20), (8, .long y8_20), (10, .long y10_20), (12, .int y12_20)]) X 11 rfl rfl (by decide) rfl dX7_herdOf_61 ?_
                refine g_goto (pc := 64) (tgt := 33) X (by decide) dX7_herdOf_64 ?_
                exact g_lv (ih (y13_33 * (x2).toInt64) (y15_33 + (1 : Int32)) h) [2, 3, 4, 5, 6, 7, 8, 9, 10, 11, 1, 0] rfl
        exact g_lv (L33 n33 y10_20 (0 : Int32) h) [2, 3, 4, 5, 6, 7, 8, 9, 10, 11, 1, 0] rfl
  exact g_lv (L20 n20 (0 : Int64) (1 : Int64) (1 : Int64) (0 : Int32) σ h) [5, 6, 7, 8, 9, 4, 3, 2, 1, 0] rfl
set_option maxRecDepth 20000 in
theorem c_X7_herd (x1 : Int32) (x2 : Int32) (x3 : Int32) (x4 : Int32) (σ : Sg) (K : Int64 → Sg → Prop) : ∀ sz, Met l yX7_herd (.code yX7_herd cX7_herd 5 (some .long) :: AW) ({ frames := 4, cells := 0, slots := 0, locals := 107 } : Room) (pvM D (tyM cI) SXM (wM cI a σ) sz (w_X7_herd x1 x2 x3 x4 σ K) [.ref (a 0), .int x1, .int x2, .int x3, .int x4]) (va_Ql K (atM D (tyM cI) (wM cI a) (va_A (wM cI a σ) sz)) (va_A (wM cI a σ) sz)) 0 0 (va_A (wM cI a σ) sz) := by
  intro sz
  refine met_Ml (own := "TrainNoteModel") (lv := [(0, .ref (a 0)), (1, .int x1), (2, .int x2), (3, .int x3), (4, .int x4)]) (by decide +kernel) rfl (Nat.le_of_ble_eq_true rfl) rfl ?_
  intro p e s m args below meth c A X hK hX hA hr hlk h
  have hR : ∀ σ H locs, hpM D (wM cI a) A s σ H locs → va_P D vwCl ((wM cI a σ)) H := fun _ _ _ h => h.1
  have hok := SXM_ok
  refine g_aload_n (pc := 0) X rfl 0 rfl dX7_herd_0 ?_
  refine g_cVMv (pc := 1) (As := []) X hK hX hok hA mi_X7_find (c_X7_find  σ _) (fun _ => ⟨_, wl_ate (oX7 (cI := cI) (a := a) k_isMod_0).1 ((oX7 (cI := cI) (a := a) k_isMod_0).2 _)⟩) rfl rfl kw4_67 ⟨rfl, rfl⟩ ⟨Nat.le_of_ble_eq_true rfl, Nat.le_of_ble_eq_true rfl⟩ rfl (Nat.le_of_ble_eq_true rfl) dX7_herd_1 rfl h (fun τ1 h => ?_)
  refine g_iload_n (pc := 4) X rfl 1 rfl dX7_herd_4 ?_
  refine g_i2l (pc := 5) X dX7_herd_5 ?_
  refine g_lconst (pc := 6) (v := 0) X rfl dX7_herd_6 ?_
  refine g_ldc2 (pc := 7) X kw4_52 dX7_herd_7 ?_
  refine g_cS0i (pc := 10) (As := [.long (x1).toInt64, .long (0 : Int64), .long (9 : Int64)]) X mi_X7_in (c_X7_in (x1).toInt64 (0 : Int64) (9 : Int64) _) kw3_210 ⟨rfl, rfl⟩ ⟨Nat.le_of_ble_eq_true rfl, Nat.le_of_ble_eq_true rfl⟩ rfl (Nat.le_of_ble_eq_true rfl) dX7_herd_10 rfl h (fun r10 h => ?_)
  have J56 : ∀ (_ : Unit), J_X7_herd_56 K τ1 → GMl p l e ({ frames := 4, cells := 0, slots := 0, locals := 107 } : Room) s m args below meth c K 5 D (tyM cI) (wM cI a) A 56 [] [] τ1 := by
    intro _ h
    refine g_bipush (pc := 56) X bp_m2 dX7_herd_56 ?_
    refine g_cS0l (pc := 58) (As := [.int (-2 : Int32)]) X mi_X7_no (c_X7_no (-2 : Int32) _) kw5_3 ⟨rfl, rfl⟩ ⟨Nat.le_of_ble_eq_true rfl, Nat.le_of_ble_eq_true rfl⟩ rfl (Nat.le_of_ble_eq_true rfl) dX7_herd_58 rfl h (fun r58 h => ?_)
    exact g_retMl (pc := 61) X hK hr hlk dX7_herd_61 h
  refine g_if_eq (pc := 13) (tgt := 56) X (by decide) dX7_herd_13 (fun c_13 => ?_) (fun c_13 => ?_)
  · have h := ite_t c_13 h
    exact g_lv (J56 () h) [] rfl
  · have h := ite_f c_13 h
    refine g_iload_n (pc := 16) X rfl 2 rfl dX7_herd_16 ?_
    refine g_i2l (pc := 17) X dX7_herd_17 ?_
    refine g_lconst (pc := 18) (v := 0) X rfl dX7_herd_18 ?_
    refine g_ldc2 (pc := 19) X kw4_231 dX7_herd_19 ?_
    refine g_cS0i (pc := 22) (As := [.long (x2).toInt64, .long (0 : Int64), .long (16 : Int64)]) X mi_X7_in (c_X7_in (x2).toInt64 (0 : Int64) (16 : Int64) _) kw3_210 ⟨rfl, rfl⟩ ⟨Nat.le_of_ble_eq_true rfl, Nat.le_of_ble_eq_true rfl⟩ rfl (Nat.le_of_ble_eq_true rfl) dX7_herd_22 rfl h (fun r22 h => ?_)
    refine g_if_eq (pc := 25) (tgt := 56) X (by decide) dX7_herd_25 (fun c_25 => ?_) (fun c_25 => ?_)
    · have h := ite_t c_25 h
      exact g_lv (J56 () h) [] rfl
    · have h := ite_f c_25 h
      refine g_aload_n (pc := 28) X rfl 0 rfl dX7_herd_28 ?_
      refine g_iload_n (pc := 29) X rfl 3 rfl dX7_herd_29 ?_
      refine g_cVPi (pc := 30) (As := [.int x3]) X hK hR mi_X7_isSung (c_X7_isSung x3 τ1 _) (wl_ate (oX7 (cI := cI) (a := a) k_isMod_0).1 ((oX7 (cI := cI) (a := a) k_isMod_0).2 _)) rfl rfl kw4_232 ⟨rfl, rfl⟩ ⟨Nat.le_of_ble_eq_true rfl, Nat.le_of_ble_eq_true rfl⟩ rfl (Nat.le_of_ble_eq_true rfl) dX7_herd_30 rfl h (fun r30 h => ?_)
      refine g_if_eq (pc := 33) (tgt := 56) X (by decide) dX7_herd_33 (fun c_33 => ?_) (fun c_33 => ?_)
      · have h := ite_t c_33 h
        exact g_lv (J56 () h) [] rfl
      · have h := ite_f c_33 h
        refine g_iload (pc := 36) X 4 rfl dX7_herd_36 ?_
        refine g_cS0i (pc := 38) (As := [.int x4]) X mi_X7_isTwo (c_X7_isTwo x4 _) kw4_6 ⟨rfl, rfl⟩ ⟨Nat.le_of_ble_eq_true rfl, Nat.le_of_ble_eq_true rfl⟩ rfl (Nat.le_of_ble_eq_true rfl) dX7_herd_38 rfl h (fun r38 h => ?_)
        refine g_if_eq (pc := 41) (tgt := 56) X (by decide) dX7_herd_41 (fun c_41 => ?_) (fun c_41 => ?_)
        · have h := ite_t c_41 h
          exact g_lv (J56 () h) [] rfl
        · have h := ite_f c_41 h
          refine g_aload_n (pc := 44) X rfl 0 rfl dX7_herd_44 ?_
          refine g_iload_n (pc := 45) X rfl 1 rfl dX7_herd_45 ?_
          refine g_iload_n (pc := 46) X rfl 2 rfl dX7_herd_46 ?_
          refine g_iload_n (pc := 47) X rfl 3 rfl dX7_herd_47 ?_
          refine g_iload (pc := 48) X 4 rfl dX7_herd_48 ?_
          refine g_cVMl (pc := 50) (As := [.int x1, .int x2, .int x3, .int x4]) X hK hX hok hA mi_X7_herdOf (c_X7_herdOf x1 x2 x3 x4 τ1 _) (fun _ => ⟨_, wl_ate (oX7 (cI := cI) (a := a) k_isMod_0).1 ((oX7 (cI := cI) (a := a) k_isMod_0).2 _)⟩) rfl rfl kw4_236 ⟨rfl, rfl⟩ ⟨Nat.le_of_ble_eq_true rfl, Nat.le_of_ble_eq_true rfl⟩ rfl (Nat.le_of_ble_eq_true rfl) dX7_herd_50 rfl h (fun r50 τ50 h => ?_)
          refine g_goto (pc := 53) (tgt := 61) X (by decide) dX7_herd_53 ?_
          exact g_retMl (pc := 61) X hK hr hlk dX7_herd_61 h
set_option maxRecDepth 20000 in
theorem c_X7_lot (x1 : Int32) (σ : Sg) (K : Int32 → Sg → Prop) : ∀ sz, Met l yX7_lot (.code yX7_lot cX7_lot 2 (some .int) :: AW) ({ frames := 0, cells := 0, slots := 0, locals := 0 } : Room) (pvM D (tyM cI) SXM (wM cI a σ) sz (w_X7_lot x1 σ K) [.ref (a 0), .int x1]) (va_Qi K (atM D (tyM cI) (wM cI a) (va_A (wM cI a σ) sz)) (va_A (wM cI a σ) sz)) 0 0 (va_A (wM cI a σ) sz) := by
  intro sz
  refine met_Mi (own := "TrainNoteModel") (lv := [(0, .ref (a 0)), (1, .int x1)]) (by decide +kernel) rfl (Nat.le_of_ble_eq_true rfl) rfl ?_
  intro p e s m args below meth c A X hK hX hA hr hlk h
  have hR : ∀ σ H locs, hpM D (wM cI a) A s σ H locs → va_P D vwCl ((wM cI a σ)) H := fun _ _ _ h => h.1
  have hok := SXM_ok
  refine g_aload_n (pc := 0) X rfl 0 rfl dX7_lot_0 ?_
  refine g_ldc (pc := 1) X kw5_19 dX7_lot_1 ?_
  refine g_aload_n (pc := 3) X rfl 0 rfl dX7_lot_3 ?_
  refine fX7_248 (pc := 4) X hK hR k_isMod_0 dX7_lot_4 ?_
  refine g_imul (pc := 7) X dX7_lot_7 ?_
  refine g_sipush (pc := 8) X sp_12345 dX7_lot_8 ?_
  refine g_iadd (pc := 11) X dX7_lot_11 ?_
  refine pX7_248 (pc := 12) X hK k_isMod_0 dX7_lot_12 (fun τ12 eτ12 => ?_)
  have h := h τ12 eτ12
  refine g_aload_n (pc := 15) X rfl 0 rfl dX7_lot_15 ?_
  refine fX7_248 (pc := 16) X hK hR k_isMod_0 dX7_lot_16 ?_
  refine g_bipush (pc := 19) X bp_16 dX7_lot_19 ?_
  refine g_iushr (pc := 21) X dX7_lot_21 ?_
  refine g_iload_n (pc := 22) X rfl 1 rfl dX7_lot_22 ?_
  obtain ⟨h_23, h⟩ := h
  refine g_irem (pc := 23) X h_23 dX7_lot_23 ?_
  exact g_retMi (pc := 24) X hK hr hlk dX7_lot_24 h
set_option maxRecDepth 20000 in
theorem c_X7_timesOf (x1 : Int32) (x2 : Int32) (x3 : Int32) (σ : Sg) (K : Int32 → Sg → Prop) : ∀ sz, Met l yX7_timesOf (.code yX7_timesOf cX7_timesOf 8 (some .int) :: AW) ({ frames := 3, cells := 0, slots := 0, locals := 72 } : Room) (pvM D (tyM cI) SXM (wM cI a σ) sz (w_X7_timesOf x1 x2 x3 σ K) [.ref (a 0), .int x1, .int x2, .int x3]) (va_Qi K (atM D (tyM cI) (wM cI a) (va_A (wM cI a σ) sz)) (va_A (wM cI a σ) sz)) 0 0 (va_A (wM cI a σ) sz) := by
  intro sz
  refine met_Mi (own := "TrainNoteModel") (lv := [(0, .ref (a 0)), (1, .int x1), (2, .int x2), (3, .int x3)]) (by decide +kernel) rfl (Nat.le_of_ble_eq_true rfl) rfl ?_
  intro p e s m args below meth c A X hK hX hA hr hlk h
  have hR : ∀ σ H locs, hpM D (wM cI a) A s σ H locs → va_P D vwCl ((wM cI a σ)) H := fun _ _ _ h => h.1
  have hok := SXM_ok
  refine g_aload_n (pc := 0) X rfl 0 rfl dX7_timesOf_0 ?_
  refine fX7_34 (pc := 1) X hK hR k_isMod_0 dX7_timesOf_1 ?_
  refine g_iconst (pc := 4) X ic_0 dX7_timesOf_4 ?_
  obtain ⟨h_5, h⟩ := h
  refine aX7_train (pc := 5) X hK hR k_isMod_0 h_5 dX7_timesOf_5 ?_
  refine g_topi (fun x4_6 ex4_6 => ?_)
  have h := h x4_6 ex4_6
  refine g_istore (pc := 6) (lv' := [(4, .int x4_6), (0, .ref (a 0)), (1, .int x1), (2, .int x2), (3, .int x3)]) X (by decide) rfl dX7_timesOf_6 ?_
  refine g_aload_n (pc := 8) X rfl 1 rfl dX7_timesOf_8 ?_
  refine fX7_34 (pc := 9) X hK hR k_isMod_0 dX7_timesOf_9 ?_
  refine g_iconst (pc := 12) X ic_2 dX7_timesOf_12 ?_
  obtain ⟨h_13, h⟩ := h
  refine aX7_train (pc := 13) X hK hR k_isMod_0 h_13 dX7_timesOf_13 ?_
  refine g_topi (fun x5_14 ex5_14 => ?_)
  have h := h x5_14 ex5_14
  refine g_istore (pc := 14) (lv' := [(5, .int x5_14), (4, .int x4_6), (0, .ref (a 0)), (1, .int x1), (2, .int x2), (3, .int x3)]) X (by decide) rfl dX7_timesOf_14 ?_
  refine g_aload_n (pc := 16) X rfl 2 rfl dX7_timesOf_16 ?_
  refine g_iload_n (pc := 17) X rfl 3 rfl dX7_timesOf_17 ?_
  refine pX7_248 (pc := 18) X hK k_isMod_0 dX7_timesOf_18 (fun τ18 eτ18 => ?_)
  have h := h τ18 eτ18
  refine g_iconst (pc := 21) X ic_0 dX7_timesOf_21 ?_
  refine g_istore (pc := 22) (lv' := [(6, .int (0 : Int32)), (5, .int x5_14), (4, .int x4_6), (0, .ref (a 0)), (1, .int x1), (2, .int x2), (3, .int x3)]) X (by decide) rfl dX7_timesOf_22 ?_
  refine g_iconst (pc := 24) X ic_0 dX7_timesOf_24 ?_
  refine g_istore (pc := 25) (lv' := [(7, .int (0 : Int32)), (6, .int (0 : Int32)), (5, .int x5_14), (4, .int x4_6), (0, .ref (a 0)), (1, .int x1), (2, .int x2), (3, .int x3)]) X (by decide) rfl dX7_timesOf_25 ?_
  obtain ⟨n27, h⟩ := h
  have X85 : ∀ (u6_85 : Int32) (ρe85 : Sg), E_X7_timesOf_27 x4_6 x5_14 K u6_85 ρe85 → GMi p l e ({ frames := 3, cells := 0, slots := 0, locals := 72 } : Room) s m args below meth c K 8 D (tyM cI) (wM cI a) A 85 [(0, .ref (a 0)), (4, .int x4_6), (5, .int x5_14), (6, .int u6_85)] [] ρe85 := by
    intro u6_85 ρe85 h
    refine g_aload_n (pc := 85) X rfl 0 rfl dX7_timesOf_85 ?_
    refine fX7_34 (pc := 86) X hK hR k_isMod_0 dX7_timesOf_86 ?_
    refine g_iconst (pc := 89) X ic_0 dX7_timesOf_89 ?_
    refine g_iload (pc := 90) X 1 rfl dX7_timesOf_90 ?_
    obtain ⟨h_92, h⟩ := h
    refine tX7_train (pc := 92) X hK k_isMod_0 h_92 dX7_timesOf_92 (fun τ92 eτ92 => ?_)
    have h := h τ92 eτ92
    refine g_aload_n (pc := 93) X rfl 0 rfl dX7_timesOf_93 ?_
    refine fX7_34 (pc := 94) X hK hR k_isMod_0 dX7_timesOf_94 ?_
    refine g_iconst (pc := 97) X ic_2 dX7_timesOf_97 ?_
    refine g_iload (pc := 98) X 2 rfl dX7_timesOf_98 ?_
    obtain ⟨h_100, h⟩ := h
    refine tX7_train (pc := 100) X hK k_isMod_0 h_100 dX7_timesOf_100 (fun τ100 eτ100 => ?_)
    have h := h τ100 eτ100
    refine g_aload_n (pc := 101) X rfl 0 rfl dX7_timesOf_101 ?_
    refine g_cVMv (pc := 102) (As := []) X hK hX hok hA mi_X7_findNotes (c_X7_findNotes  τ100 _) (fun _ => ⟨_, wl_ate (oX7 (cI := cI) (a := a) k_isMod_0).1 ((oX7 (cI := cI) (a := a) k_isMod_0).2 _)⟩) rfl rfl kw4_71 ⟨rfl, rfl⟩ ⟨Nat.le_of_ble_eq_true rfl, Nat.le_of_ble_eq_true rfl⟩ rfl (Nat.le_of_ble_eq_true rfl) dX7_timesOf_102 rfl h (fun τ102 h => ?_)
    refine g_iload (pc := 105) X 3 rfl dX7_timesOf_105 ?_
    exact g_retMi (pc := 107) X hK hr hlk dX7_timesOf_107 h
  have L27 : ∀ (n : Nat) (y6_27 : Int32) (y7_27 : Int32) (ρ27 : Sg), lq3 (F_X7_timesOf_27 x2 x3 (E_X7_timesOf_27 x4_6 x5_14 K)) n y6_27 y7_27 ρ27 → GMi p l e ({ frames := 3, cells := 0, slots := 0, locals := 72 } : Room) s m args below meth c K 8 D (tyM cI) (wM cI a) A 27 [(0, .ref (a 0)), (2, .int x2), (3, .int x3), (4, .int x4_6), (5, .int x5_14), (6, .int y6_27), (7, .int y7_27)] [] ρ27 := by
    intro n
    induction n with
    | zero =>
      intro y6_27 y7_27 ρ27 h
      exact h.elim
    | succ n ih =>
      intro y6_27 y7_27 ρ27 h
      have h : F_X7_timesOf_27 x2 x3 (E_X7_timesOf_27 x4_6 x5_14 K) (lq3 (F_X7_timesOf_27 x2 x3 (E_X7_timesOf_27 x4_6 x5_14 K)) n) y6_27 y7_27 ρ27 := h
      refine g_iload (pc := 27) X 6 rfl dX7_timesOf_27 ?_
      refine g_iload_n (pc := 29) X rfl 1 rfl dX7_timesOf_29 ?_
      refine g_icmp_ge (pc := 30) (tgt := 85) X (by decide) dX7_timesOf_30 (fun c_30 => ?_) (fun c_30 => ?_)
      · have h := ite_t c_30 h
        exact g_lv (X85 y6_27 ρ27 h) [0, 3, 4, 5] rfl
      · have h := ite_f c_30 h
        refine g_aload_n (pc := 33) X rfl 0 rfl dX7_timesOf_33 ?_
        refine fX7_34 (pc := 34) X hK hR k_isMod_0 dX7_timesOf_34 ?_
        refine g_iconst (pc := 37) X ic_0 dX7_timesOf_37 ?_
        refine g_aload_n (pc := 38) X rfl 0 rfl dX7_timesOf_38 ?_
        refine g_bipush (pc := 39) X bp_100 dX7_timesOf_39 ?_
        refine g_cVMi (pc := 41) (As := [.int (100 : Int32)]) X hK hX hok hA mi_X7_lot (c_X7_lot (100 : Int32) ρ27 _) (fun _ => ⟨_, wl_ate (oX7 (cI := cI) (a := a) k_isMod_0).1 ((oX7 (cI := cI) (a := a) k_isMod_0).2 _)⟩) rfl rfl kw5_15 ⟨rfl, rfl⟩ ⟨Nat.le_of_ble_eq_true rfl, Nat.le_of_ble_eq_true rfl⟩ rfl (Nat.le_of_ble_eq_true rfl) dX7_timesOf_41 rfl h (fun r41 τ41 h => ?_)
        obtain ⟨h_44, h⟩ := h
        refine tX7_train (pc := 44) X hK k_isMod_0 h_44 dX7_timesOf_44 (fun τ44 eτ44 => ?_)
        have h := h τ44 eτ44
        refine g_aload_n (pc := 45) X rfl 0 rfl dX7_timesOf_45 ?_
        refine fX7_34 (pc := 46) X hK hR k_isMod_0 dX7_timesOf_46 ?_
        refine g_iconst (pc := 49) X ic_2 dX7_timesOf_49 ?_
        refine g_aload_n (pc := 50) X rfl 0 rfl dX7_timesOf_50 ?_
        refine g_bipush (pc := 51) X bp_19 dX7_timesOf_51 ?_
        refine g_cVMi (pc := 53) (As := [.int (19 : Int32)]) X hK hX hok hA mi_X7_lot (c_X7_lot (19 : Int32) τ44 _) (fun _ => ⟨_, wl_ate (oX7 (cI := cI) (a := a) k_isMod_0).1 ((oX7 (cI := cI) (a := a) k_isMod_0).2 _)⟩) rfl rfl kw5_15 ⟨rfl, rfl⟩ ⟨Nat.le_of_ble_eq_true rfl, Nat.le_of_ble_eq_true rfl⟩ rfl (Nat.le_of_ble_eq_true rfl) dX7_timesOf_53 rfl h (fun r53 τ53 h => ?_)
        obtain ⟨h_56, h⟩ := h
        refine tX7_train (pc := 56) X hK k_isMod_0 h_56 dX7_timesOf_56 (fun τ56 eτ56 => ?_)
        have h := h τ56 eτ56
        refine g_aload_n (pc := 57) X rfl 0 rfl dX7_timesOf_57 ?_
        refine g_cVMv (pc := 58) (As := []) X hK hX hok hA mi_X7_findNotes (c_X7_findNotes  τ56 _) (fun _ => ⟨_, wl_ate (oX7 (cI := cI) (a := a) k_isMod_0).1 ((oX7 (cI := cI) (a := a) k_isMod_0).2 _)⟩) rfl rfl kw4_71 ⟨rfl, rfl⟩ ⟨Nat.le_of_ble_eq_true rfl, Nat.le_of_ble_eq_true rfl⟩ rfl (Nat.le_of_ble_eq_true rfl) dX7_timesOf_58 rfl h (fun τ58 h => ?_)
        refine g_iload (pc := 61) X 5 rfl dX7_timesOf_61 ?_
        refine g_aload_n (pc := 63) X rfl 0 rfl dX7_timesOf_63 ?_
        refine g_iload_n (pc := 64) X rfl 2 rfl dX7_timesOf_64 ?_
        refine g_cVPi (pc := 65) (As := [.int x3]) X hK hR mi_X7_closes (c_X7_closes x3 τ58 _) (wl_ate (oX7 (cI := cI) (a := a) k_isMod_0).1 ((oX7 (cI := cI) (a := a) k_isMod_0).2 _)) rfl rfl kw4_131 ⟨rfl, rfl⟩ ⟨Nat.le_of_ble_eq_true rfl, Nat.le_of_ble_eq_true rfl⟩ rfl (Nat.le_of_ble_eq_true rfl) dX7_timesOf_65 rfl h (fun r65 h => ?_)
        refine g_if_eq (pc := 68) (tgt := 75) X (by decide) dX7_timesOf_68 (fun c_68 => ?_) (fun c_68 => ?_)
        · have h := ite_t c_68 h
          refine g_iconst (pc := 75) X ic_0 dX7_timesOf_75 ?_
          refine g_iadd (pc := 76) X dX7_timesOf_76 ?_
          refine g_istore (pc := 77) (lv' := [(6, .int (y6_27 + (0 : Int32))), (0, .ref (a 0)), (2, .int x2), (3, .int x3), (4, .int x4_6), (5, .int x5_14), (7, .int y7_27)]) X (by decide) rfl dX7_timesOf_77 ?_
          refine g_iinc (pc := 79) (lv' := [(7, .int (y7_27 + (1 : Int32))), (6, .int (y6_27 + (0 : Int32))), (0, .ref (a 0)), (2, .int x2), (3, .int x3), (4, .int x4_6), (5, .int x5_14)]) X 6 rfl rfl (by decide) rfl dX7_timesOf_79 ?_
          refine g_goto (pc := 82) (tgt := 27) X (by decide) dX7_timesOf_82 ?_
          exact g_lv (ih (y6_27 + (0 : Int32)) (y7_27 + (1 : Int32)) τ58 h) [2, 3, 4, 5, 6, 1, 0] rfl
        · have h := ite_f c_68 h
          refine g_iconst (pc := 71) X ic_1 dX7_timesOf_71 ?_
          refine g_goto (pc := 72) (tgt := 76) X (by decide) dX7_timesOf_72 ?_
          refine g_iadd (pc := 76) X dX7_timesOf_76 ?_
          refine g_istore (pc := 77) (lv' := [(6, .int (y6_27 + (1 : Int32))), (0, .ref (a 0)), (2, .int x2), (3, .int x3), (4, .int x4_6), (5, .int x5_14), (7, .int y7_27)]) X (by decide) rfl dX7_timesOf_77 ?_
          refine g_iinc (pc := 79) (lv' := [(7, .int (y7_27 + (1 : Int32))), (6, .int (y6_27 + (1 : Int32))), (0, .ref (a 0)), (2, .int x2), (3, .int x3), (4, .int x4_6), (5, .int x5_14)]) X 6 rfl rfl (by decide) rfl dX7_timesOf_79 ?_
          refine g_goto (pc := 82) (tgt := 27) X (by decide) dX7_timesOf_82 ?_
          exact g_lv (ih (y6_27 + (1 : Int32)) (y7_27 + (1 : Int32)) τ58 h) [2, 3, 4, 5, 6, 1, 0] rfl
  exact g_lv (L27 n27 (0 : Int32) (0 : Int32) τ18 h) [4, 6, 7, 3, 2, 1, 0] rfl
set_option maxRecDepth 20000 in
theorem c_X7_times (x1 : Int32) (x2 : Int32) (x3 : Int32) (σ : Sg) (K : Int32 → Sg → Prop) : ∀ sz, Met l yX7_times (.code yX7_times cX7_times 4 (some .int) :: AW) ({ frames := 4, cells := 0, slots := 0, locals := 99 } : Room) (pvM D (tyM cI) SXM (wM cI a σ) sz (w_X7_times x1 x2 x3 σ K) [.ref (a 0), .int x1, .int x2, .int x3]) (va_Qi K (atM D (tyM cI) (wM cI a) (va_A (wM cI a σ) sz)) (va_A (wM cI a σ) sz)) 0 0 (va_A (wM cI a σ) sz) := by
  intro sz
  refine met_Mi (own := "TrainNoteModel") (lv := [(0, .ref (a 0)), (1, .int x1), (2, .int x2), (3, .int x3)]) (by decide +kernel) rfl (Nat.le_of_ble_eq_true rfl) rfl ?_
  intro p e s m args below meth c A X hK hX hA hr hlk h
  have hR : ∀ σ H locs, hpM D (wM cI a) A s σ H locs → va_P D vwCl ((wM cI a σ)) H := fun _ _ _ h => h.1
  have hok := SXM_ok
  refine g_aload_n (pc := 0) X rfl 0 rfl dX7_times_0 ?_
  refine g_cVMv (pc := 1) (As := []) X hK hX hok hA mi_X7_find (c_X7_find  σ _) (fun _ => ⟨_, wl_ate (oX7 (cI := cI) (a := a) k_isMod_0).1 ((oX7 (cI := cI) (a := a) k_isMod_0).2 _)⟩) rfl rfl kw4_67 ⟨rfl, rfl⟩ ⟨Nat.le_of_ble_eq_true rfl, Nat.le_of_ble_eq_true rfl⟩ rfl (Nat.le_of_ble_eq_true rfl) dX7_times_1 rfl h (fun τ1 h => ?_)
  refine g_iload_n (pc := 4) X rfl 2 rfl dX7_times_4 ?_
  refine g_i2l (pc := 5) X dX7_times_5 ?_
  refine g_lconst (pc := 6) (v := 1) X rfl dX7_times_6 ?_
  refine g_ldc2 (pc := 7) X kw4_54 dX7_times_7 ?_
  refine g_cS0i (pc := 10) (As := [.long (x2).toInt64, .long (1 : Int64), .long (99 : Int64)]) X mi_X7_in (c_X7_in (x2).toInt64 (1 : Int64) (99 : Int64) _) kw3_210 ⟨rfl, rfl⟩ ⟨Nat.le_of_ble_eq_true rfl, Nat.le_of_ble_eq_true rfl⟩ rfl (Nat.le_of_ble_eq_true rfl) dX7_times_10 rfl h (fun r10 h => ?_)
  refine g_if_eq (pc := 13) (tgt := 34) X (by decide) dX7_times_13 (fun c_13 => ?_) (fun c_13 => ?_)
  · have h := ite_t c_13 h
    refine g_bipush (pc := 34) X bp_m2 dX7_times_34 ?_
    exact g_retMi (pc := 36) X hK hr hlk dX7_times_36 h
  · have h := ite_f c_13 h
    refine g_aload_n (pc := 16) X rfl 0 rfl dX7_times_16 ?_
    refine g_iload_n (pc := 17) X rfl 3 rfl dX7_times_17 ?_
    refine g_cVPi (pc := 18) (As := [.int x3]) X hK hR mi_X7_isSung (c_X7_isSung x3 τ1 _) (wl_ate (oX7 (cI := cI) (a := a) k_isMod_0).1 ((oX7 (cI := cI) (a := a) k_isMod_0).2 _)) rfl rfl kw4_232 ⟨rfl, rfl⟩ ⟨Nat.le_of_ble_eq_true rfl, Nat.le_of_ble_eq_true rfl⟩ rfl (Nat.le_of_ble_eq_true rfl) dX7_times_18 rfl h (fun r18 h => ?_)
    refine g_if_eq (pc := 21) (tgt := 34) X (by decide) dX7_times_21 (fun c_21 => ?_) (fun c_21 => ?_)
    · have h := ite_t c_21 h
      refine g_bipush (pc := 34) X bp_m2 dX7_times_34 ?_
      exact g_retMi (pc := 36) X hK hr hlk dX7_times_36 h
    · have h := ite_f c_21 h
      refine g_aload_n (pc := 24) X rfl 0 rfl dX7_times_24 ?_
      refine g_iload_n (pc := 25) X rfl 1 rfl dX7_times_25 ?_
      refine g_iload_n (pc := 26) X rfl 2 rfl dX7_times_26 ?_
      refine g_iload_n (pc := 27) X rfl 3 rfl dX7_times_27 ?_
      refine g_cVMi (pc := 28) (As := [.int x1, .int x2, .int x3]) X hK hX hok hA mi_X7_timesOf (c_X7_timesOf x1 x2 x3 τ1 _) (fun _ => ⟨_, wl_ate (oX7 (cI := cI) (a := a) k_isMod_0).1 ((oX7 (cI := cI) (a := a) k_isMod_0).2 _)⟩) rfl rfl kw5_11 ⟨rfl, rfl⟩ ⟨Nat.le_of_ble_eq_true rfl, Nat.le_of_ble_eq_true rfl⟩ rfl (Nat.le_of_ble_eq_true rfl) dX7_times_28 rfl h (fun r28 τ28 h => ?_)
      refine g_goto (pc := 31) (tgt := 36) X (by decide) dX7_times_31 ?_
      exact g_retMi (pc := 36) X hK hr hlk dX7_times_36 h
set_option maxRecDepth 20000 in
theorem c_X7_write (x1 : Int32) (x2 : Int32) (σ : Sg) (K : Int32 → Sg → Prop) : ∀ sz, Met l yX7_write (.code yX7_write cX7_write 5 (some .int) :: AW) ({ frames := 4, cells := 0, slots := 0, locals := 91 } : Room) (pvM D (tyM cI) SXM (wM cI a σ) sz (w_X7_write x1 x2 σ K) [.ref (a 0), .int x1, .int x2]) (va_Qi K (atM D (tyM cI) (wM cI a) (va_A (wM cI a σ) sz)) (va_A (wM cI a σ) sz)) 0 0 (va_A (wM cI a σ) sz) := by
  intro sz
  refine met_Mi (own := "TrainNoteModel") (lv := [(0, .ref (a 0)), (1, .int x1), (2, .int x2)]) (by decide +kernel) rfl (Nat.le_of_ble_eq_true rfl) rfl ?_
  intro p e s m args below meth c A X hK hX hA hr hlk h
  have hR : ∀ σ H locs, hpM D (wM cI a) A s σ H locs → va_P D vwCl ((wM cI a σ)) H := fun _ _ _ h => h.1
  have hok := SXM_ok
  refine g_aload_n (pc := 0) X rfl 0 rfl dX7_write_0 ?_
  refine g_cVMv (pc := 1) (As := []) X hK hX hok hA mi_X7_find (c_X7_find  σ _) (fun _ => ⟨_, wl_ate (oX7 (cI := cI) (a := a) k_isMod_0).1 ((oX7 (cI := cI) (a := a) k_isMod_0).2 _)⟩) rfl rfl kw4_67 ⟨rfl, rfl⟩ ⟨Nat.le_of_ble_eq_true rfl, Nat.le_of_ble_eq_true rfl⟩ rfl (Nat.le_of_ble_eq_true rfl) dX7_write_1 rfl h (fun τ1 h => ?_)
  refine g_aload_n (pc := 4) X rfl 0 rfl dX7_write_4 ?_
  refine g_iload_n (pc := 5) X rfl 1 rfl dX7_write_5 ?_
  refine g_cVPi (pc := 6) (As := [.int x1]) X hK hR mi_X7_isBar (c_X7_isBar x1 τ1 _) (wl_ate (oX7 (cI := cI) (a := a) k_isMod_0).1 ((oX7 (cI := cI) (a := a) k_isMod_0).2 _)) rfl rfl kw4_94 ⟨rfl, rfl⟩ ⟨Nat.le_of_ble_eq_true rfl, Nat.le_of_ble_eq_true rfl⟩ rfl (Nat.le_of_ble_eq_true rfl) dX7_write_6 rfl h (fun r6 h => ?_)
  refine g_if_eq (pc := 9) (tgt := 19) X (by decide) dX7_write_9 (fun c_9 => ?_) (fun c_9 => ?_)
  · have h := ite_t c_9 h
    refine g_bipush (pc := 19) X bp_m2 dX7_write_19 ?_
    exact g_retMi (pc := 21) X hK hr hlk dX7_write_21 h
  · have h := ite_f c_9 h
    refine g_iload_n (pc := 12) X rfl 2 rfl dX7_write_12 ?_
    refine g_cS0i (pc := 13) (As := [.int x2]) X mi_X7_isSheet (c_X7_isSheet x2 _) kw3_206 ⟨rfl, rfl⟩ ⟨Nat.le_of_ble_eq_true rfl, Nat.le_of_ble_eq_true rfl⟩ rfl (Nat.le_of_ble_eq_true rfl) dX7_write_13 rfl h (fun r13 h => ?_)
    refine g_if_ne (pc := 16) (tgt := 22) X (by decide) dX7_write_16 (fun c_16 => ?_) (fun c_16 => ?_)
    · have h := ite_f c_16 h
      refine g_aload_n (pc := 22) X rfl 0 rfl dX7_write_22 ?_
      refine fX7_7 (pc := 23) X hK hR k_isMod_0 dX7_write_23 ?_
      refine g_iload_n (pc := 26) X rfl 2 rfl dX7_write_26 ?_
      obtain ⟨h_27, h⟩ := h
      refine aX7_forms (pc := 27) X hK hR k_isMod_0 h_27 dX7_write_27 ?_
      refine g_if_ge (pc := 28) (tgt := 37) X (by decide) dX7_write_28 (fun c_28 => ?_) (fun c_28 => ?_)
      · have h := ite_t c_28 h
        refine g_aload_n (pc := 37) X rfl 0 rfl dX7_write_37 ?_
        refine fX7_13 (pc := 38) X hK hR k_isMod_0 dX7_write_38 ?_
        refine g_iload_n (pc := 41) X rfl 2 rfl dX7_write_41 ?_
        obtain ⟨h_42, h⟩ := h
        refine aX7_sizes (pc := 42) X hK hR k_isMod_0 h_42 dX7_write_42 ?_
        refine g_aload_n (pc := 43) X rfl 0 rfl dX7_write_43 ?_
        refine fX7_101 (pc := 44) X hK hR k_isMod_0 dX7_write_44 ?_
        refine g_cS0i (pc := 47) (As := [.int (τ1 2 (x2).toNatClampNeg), .int (τ1 0 7)]) X mi_X7_lesser (c_X7_lesser (τ1 2 (x2).toNatClampNeg) (τ1 0 7) _) kw4_125 ⟨rfl, rfl⟩ ⟨Nat.le_of_ble_eq_true rfl, Nat.le_of_ble_eq_true rfl⟩ rfl (Nat.le_of_ble_eq_true rfl) dX7_write_47 rfl h (fun r47 h => ?_)
        refine g_istore_n (pc := 50) (lv' := [(3, .int r47), (0, .ref (a 0)), (1, .int x1), (2, .int x2)]) X rfl (by decide) rfl dX7_write_50 ?_
        refine g_iconst (pc := 51) X ic_0 dX7_write_51 ?_
        refine g_istore (pc := 52) (lv' := [(4, .int (0 : Int32)), (3, .int r47), (0, .ref (a 0)), (1, .int x1), (2, .int x2)]) X (by decide) rfl dX7_write_52 ?_
        obtain ⟨n54, h⟩ := h
        have X94 : ∀ (ρe94 : Sg), E_X7_write_54 K r47 ρe94 → GMi p l e ({ frames := 4, cells := 0, slots := 0, locals := 91 } : Room) s m args below meth c K 5 D (tyM cI) (wM cI a) A 94 [(3, .int r47)] [] ρe94 := by
          intro ρe94 h
          refine g_iload_n (pc := 94) X rfl 0 rfl dX7_write_94 ?_
          exact g_retMi (pc := 95) X hK hr hlk dX7_write_95 h
        have L54 : ∀ (n : Nat) (y4_54 : Int32) (ρ54 : Sg), lq2 (F_X7_write_54 r47 x2 x1 (E_X7_write_54 K r47)) n y4_54 ρ54 → GMi p l e ({ frames := 4, cells := 0, slots := 0, locals := 91 } : Room) s m args below meth c K 5 D (tyM cI) (wM cI a) A 54 [(0, .ref (a 0)), (1, .int x1), (2, .int x2), (3, .int r47), (4, .int y4_54)] [] ρ54 := by
          intro n
          induction n with
          | zero =>
            intro y4_54 ρ54 h
            exact h.elim
          | succ n ih =>
            intro y4_54 ρ54 h
            have h : F_X7_write_54 r47 x2 x1 (E_X7_write_54 K r47) (lq2 (F_X7_write_54 r47 x2 x1 (E_X7_write_54 K r47)) n) y4_54 ρ54 := h
            refine g_iload (pc := 54) X 4 rfl dX7_write_54 ?_
            refine g_iload_n (pc := 56) X rfl 3 rfl dX7_write_56 ?_
            refine g_icmp_ge (pc := 57) (tgt := 94) X (by decide) dX7_write_57 (fun c_57 => ?_) (fun c_57 => ?_)
            · have h := ite_t c_57 h
              exact g_lv (X94 ρ54 h) [3] rfl
            · have h := ite_f c_57 h
              refine g_aload_n (pc := 60) X rfl 0 rfl dX7_write_60 ?_
              refine fX7_16 (pc := 61) X hK hR k_isMod_0 dX7_write_61 ?_
              refine g_bipush (pc := 64) X bp_60 dX7_write_64 ?_
              refine g_iload_n (pc := 66) X rfl 2 rfl dX7_write_66 ?_
              refine g_imul (pc := 67) X dX7_write_67 ?_
              refine g_iload (pc := 68) X 4 rfl dX7_write_68 ?_
              refine g_iadd (pc := 70) X dX7_write_70 ?_
              refine g_aload_n (pc := 71) X rfl 0 rfl dX7_write_71 ?_
              refine fX7_7 (pc := 72) X hK hR k_isMod_0 dX7_write_72 ?_
              refine g_iload_n (pc := 75) X rfl 2 rfl dX7_write_75 ?_
              obtain ⟨h_76, h⟩ := h
              refine aX7_forms (pc := 76) X hK hR k_isMod_0 h_76 dX7_write_76 ?_
              refine g_aload_n (pc := 77) X rfl 0 rfl dX7_write_77 ?_
              refine g_iload (pc := 78) X 4 rfl dX7_write_78 ?_
              refine g_iload_n (pc := 80) X rfl 1 rfl dX7_write_80 ?_
              refine g_cVPi (pc := 81) (As := [.int y4_54, .int x1]) X hK hR mi_X7_noteOr (c_X7_noteOr y4_54 x1 ρ54 _) (wl_ate (oX7 (cI := cI) (a := a) k_isMod_0).1 ((oX7 (cI := cI) (a := a) k_isMod_0).2 _)) rfl rfl kw4_98 ⟨rfl, rfl⟩ ⟨Nat.le_of_ble_eq_true rfl, Nat.le_of_ble_eq_true rfl⟩ rfl (Nat.le_of_ble_eq_true rfl) dX7_write_81 rfl h (fun r81 h => ?_)
              refine g_cS0i (pc := 84) (As := [.int (ρ54 1 (x2).toNatClampNeg), .int r81]) X mi_X7_cut (c_X7_cut (ρ54 1 (x2).toNatClampNeg) r81 _) kw3_230 ⟨rfl, rfl⟩ ⟨Nat.le_of_ble_eq_true rfl, Nat.le_of_ble_eq_true rfl⟩ rfl (Nat.le_of_ble_eq_true rfl) dX7_write_84 rfl h (fun r84 h => ?_)
              obtain ⟨h_87, h⟩ := h
              refine tX7_items (pc := 87) X hK k_isMod_0 h_87 dX7_write_87 (fun τ87 eτ87 => ?_)
              have h := h τ87 eτ87
              refine g_iinc (pc := 88) (lv' := [(4, .int (y4_54 + (1 : Int32))), (0, .ref (a 0)), (1, .int x1), (2, .int x2), (3, .int r47)]) X 4 rfl rfl (by decide) rfl dX7_write_88 ?_
              refine g_goto (pc := 91) (tgt := 54) X (by decide) dX7_write_91 ?_
              exact g_lv (ih (y4_54 + (1 : Int32)) τ87 h) [1, 2, 3, 4, 0] rfl
        exact g_lv (L54 n54 (0 : Int32) τ1 h) [2, 3, 4, 1, 0] rfl
      · have h := ite_f c_28 h
        refine g_aload_n (pc := 31) X rfl 0 rfl dX7_write_31 ?_
        refine g_iconst (pc := 32) X ic_1 dX7_write_32 ?_
        refine g_cVMi (pc := 33) (As := [.int (1 : Int32)]) X hK hX hok hA mi_X7_finds (c_X7_finds (1 : Int32) τ1 _) (fun _ => ⟨_, wl_ate (oX7 (cI := cI) (a := a) k_isMod_0).1 ((oX7 (cI := cI) (a := a) k_isMod_0).2 _)⟩) rfl rfl kw3_214 ⟨rfl, rfl⟩ ⟨Nat.le_of_ble_eq_true rfl, Nat.le_of_ble_eq_true rfl⟩ rfl (Nat.le_of_ble_eq_true rfl) dX7_write_33 rfl h (fun r33 τ33 h => ?_)
        exact g_retMi (pc := 36) X hK hr hlk dX7_write_36 h
    · have h := ite_t c_16 h
      refine g_bipush (pc := 19) X bp_m2 dX7_write_19 ?_
      exact g_retMi (pc := 21) X hK hr hlk dX7_write_21 h
set_option maxRecDepth 20000 in
theorem c_X7_silent (σ : Sg) (K : Int32 → Prop) : Met l yX7_silent (.code yX7_silent cX7_silent 3 (some .int) :: AW) ({ frames := 0, cells := 0, slots := 0, locals := 0 } : Room) (pvP D (tyM cI) (wM cI a σ) (w_X7_silent σ K) [.ref (a 0)]) (vp_Si K) 0 0 (fun _ => False) := by
  refine met_Pi (own := "TrainNoteModel") (lv := [(0, .ref (a 0))]) (by decide +kernel) rfl (Nat.le_of_ble_eq_true rfl) rfl ?_
  intro p e s m args below meth c X hK hr hlk h
  have hR : ∀ σ H locs, hpP D (wM cI a) s σ H locs → va_P D vwCl ((wM cI a σ)) H := fun _ _ _ h => h.1
  refine g_iconst (pc := 0) X ic_0 dX7_silent_0 ?_
  refine g_istore_n (pc := 1) (lv' := [(1, .int (0 : Int32)), (0, .ref (a 0))]) X rfl (by decide) rfl dX7_silent_1 ?_
  refine g_iconst (pc := 2) X ic_0 dX7_silent_2 ?_
  refine g_istore_n (pc := 3) (lv' := [(2, .int (0 : Int32)), (1, .int (0 : Int32)), (0, .ref (a 0))]) X rfl (by decide) rfl dX7_silent_3 ?_
  obtain ⟨n4, h⟩ := h
  have X36 : ∀ (u1_36 : Int32), E_X7_silent_4 K u1_36 → GPi p l e ({ frames := 0, cells := 0, slots := 0, locals := 0 } : Room) s m args below meth c K 3 D (wM cI a) 36 [(1, .int u1_36)] [] σ := by
    intro u1_36 h
    refine g_iload_n (pc := 36) X rfl 0 rfl dX7_silent_36 ?_
    exact g_retPi (pc := 37) X hr hlk dX7_silent_37 h
  have L4 : ∀ (n : Nat) (y1_4 : Int32) (y2_4 : Int32), lq2 (F_X7_silent_4 σ (E_X7_silent_4 K)) n y1_4 y2_4 → GPi p l e ({ frames := 0, cells := 0, slots := 0, locals := 0 } : Room) s m args below meth c K 3 D (wM cI a) 4 [(0, .ref (a 0)), (1, .int y1_4), (2, .int y2_4)] [] σ := by
    intro n
    induction n with
    | zero =>
      intro y1_4 y2_4 h
      exact h.elim
    | succ n ih =>
      intro y1_4 y2_4 h
      have h : F_X7_silent_4 σ (E_X7_silent_4 K) (lq2 (F_X7_silent_4 σ (E_X7_silent_4 K)) n) y1_4 y2_4 := h
      refine g_iload_n (pc := 4) X rfl 2 rfl dX7_silent_4 ?_
      refine g_aload_n (pc := 5) X rfl 0 rfl dX7_silent_5 ?_
      refine fX7_101 (pc := 6) X hK hR k_isMod_0 dX7_silent_6 ?_
      refine g_icmp_ge (pc := 9) (tgt := 36) X (by decide) dX7_silent_9 (fun c_9 => ?_) (fun c_9 => ?_)
      · have h := ite_t c_9 h
        exact g_lv (X36 y1_4 h) [1] rfl
      · have h := ite_f c_9 h
        refine g_iload_n (pc := 12) X rfl 1 rfl dX7_silent_12 ?_
        refine g_aload_n (pc := 13) X rfl 0 rfl dX7_silent_13 ?_
        refine fX7_43 (pc := 14) X hK hR k_isMod_0 dX7_silent_14 ?_
        refine g_iload_n (pc := 17) X rfl 2 rfl dX7_silent_17 ?_
        obtain ⟨h_18, h⟩ := h
        refine aX7_by (pc := 18) X hK hR k_isMod_0 h_18 dX7_silent_18 ?_
        refine g_iconst (pc := 19) X ic_m1 dX7_silent_19 ?_
        refine g_icmp_ne (pc := 20) (tgt := 27) X (by decide) dX7_silent_20 (fun c_20 => ?_) (fun c_20 => ?_)
        · have h := ite_f c_20 h
          refine g_iconst (pc := 27) X ic_0 dX7_silent_27 ?_
          refine g_iadd (pc := 28) X dX7_silent_28 ?_
          refine g_istore_n (pc := 29) (lv' := [(1, .int (y1_4 + (0 : Int32))), (0, .ref (a 0)), (2, .int y2_4)]) X rfl (by decide) rfl dX7_silent_29 ?_
          refine g_iinc (pc := 30) (lv' := [(2, .int (y2_4 + (1 : Int32))), (1, .int (y1_4 + (0 : Int32))), (0, .ref (a 0))]) X 2 rfl rfl (by decide) rfl dX7_silent_30 ?_
          refine g_goto (pc := 33) (tgt := 4) X (by decide) dX7_silent_33 ?_
          exact g_lv (ih (y1_4 + (0 : Int32)) (y2_4 + (1 : Int32)) h) [2, 1, 0] rfl
        · have h := ite_t c_20 h
          refine g_iconst (pc := 23) X ic_1 dX7_silent_23 ?_
          refine g_goto (pc := 24) (tgt := 28) X (by decide) dX7_silent_24 ?_
          refine g_iadd (pc := 28) X dX7_silent_28 ?_
          refine g_istore_n (pc := 29) (lv' := [(1, .int (y1_4 + (1 : Int32))), (0, .ref (a 0)), (2, .int y2_4)]) X rfl (by decide) rfl dX7_silent_29 ?_
          refine g_iinc (pc := 30) (lv' := [(2, .int (y2_4 + (1 : Int32))), (1, .int (y1_4 + (1 : Int32))), (0, .ref (a 0))]) X 2 rfl rfl (by decide) rfl dX7_silent_30 ?_
          refine g_goto (pc := 33) (tgt := 4) X (by decide) dX7_silent_33 ?_
          exact g_lv (ih (y1_4 + (1 : Int32)) (y2_4 + (1 : Int32)) h) [2, 1, 0] rfl
  exact g_lv (L4 n4 (0 : Int32) (0 : Int32) h) [2, 1, 0] rfl
set_option maxRecDepth 20000 in
theorem c_X7_rests (σ : Sg) (K : Int32 → Prop) : Met l yX7_rests (.code yX7_rests cX7_rests 3 (some .int) :: AW) ({ frames := 0, cells := 0, slots := 0, locals := 0 } : Room) (pvP D (tyM cI) (wM cI a σ) (w_X7_rests σ K) [.ref (a 0)]) (vp_Si K) 0 0 (fun _ => False) := by
  refine met_Pi (own := "TrainNoteModel") (lv := [(0, .ref (a 0))]) (by decide +kernel) rfl (Nat.le_of_ble_eq_true rfl) rfl ?_
  intro p e s m args below meth c X hK hr hlk h
  have hR : ∀ σ H locs, hpP D (wM cI a) s σ H locs → va_P D vwCl ((wM cI a σ)) H := fun _ _ _ h => h.1
  refine g_iconst (pc := 0) X ic_0 dX7_rests_0 ?_
  refine g_istore_n (pc := 1) (lv' := [(1, .int (0 : Int32)), (0, .ref (a 0))]) X rfl (by decide) rfl dX7_rests_1 ?_
  refine g_iconst (pc := 2) X ic_0 dX7_rests_2 ?_
  refine g_istore_n (pc := 3) (lv' := [(2, .int (0 : Int32)), (1, .int (0 : Int32)), (0, .ref (a 0))]) X rfl (by decide) rfl dX7_rests_3 ?_
  obtain ⟨n4, h⟩ := h
  have X36 : ∀ (u1_36 : Int32), E_X7_rests_4 K u1_36 → GPi p l e ({ frames := 0, cells := 0, slots := 0, locals := 0 } : Room) s m args below meth c K 3 D (wM cI a) 36 [(1, .int u1_36)] [] σ := by
    intro u1_36 h
    refine g_iload_n (pc := 36) X rfl 0 rfl dX7_rests_36 ?_
    exact g_retPi (pc := 37) X hr hlk dX7_rests_37 h
  have L4 : ∀ (n : Nat) (y1_4 : Int32) (y2_4 : Int32), lq2 (F_X7_rests_4 σ (E_X7_rests_4 K)) n y1_4 y2_4 → GPi p l e ({ frames := 0, cells := 0, slots := 0, locals := 0 } : Room) s m args below meth c K 3 D (wM cI a) 4 [(0, .ref (a 0)), (1, .int y1_4), (2, .int y2_4)] [] σ := by
    intro n
    induction n with
    | zero =>
      intro y1_4 y2_4 h
      exact h.elim
    | succ n ih =>
      intro y1_4 y2_4 h
      have h : F_X7_rests_4 σ (E_X7_rests_4 K) (lq2 (F_X7_rests_4 σ (E_X7_rests_4 K)) n) y1_4 y2_4 := h
      refine g_iload_n (pc := 4) X rfl 2 rfl dX7_rests_4 ?_
      refine g_aload_n (pc := 5) X rfl 0 rfl dX7_rests_5 ?_
      refine fX7_107 (pc := 6) X hK hR k_isMod_0 dX7_rests_6 ?_
      refine g_icmp_ge (pc := 9) (tgt := 36) X (by decide) dX7_rests_9 (fun c_9 => ?_) (fun c_9 => ?_)
      · have h := ite_t c_9 h
        exact g_lv (X36 y1_4 h) [1] rfl
      · have h := ite_f c_9 h
        refine g_iload_n (pc := 12) X rfl 1 rfl dX7_rests_12 ?_
        refine g_aload_n (pc := 13) X rfl 0 rfl dX7_rests_13 ?_
        refine fX7_31 (pc := 14) X hK hR k_isMod_0 dX7_rests_14 ?_
        refine g_iload_n (pc := 17) X rfl 2 rfl dX7_rests_17 ?_
        obtain ⟨h_18, h⟩ := h
        refine aX7_bar (pc := 18) X hK hR k_isMod_0 h_18 dX7_rests_18 ?_
        refine g_iconst (pc := 19) X ic_1 dX7_rests_19 ?_
        refine g_icmp_ne (pc := 20) (tgt := 27) X (by decide) dX7_rests_20 (fun c_20 => ?_) (fun c_20 => ?_)
        · have h := ite_f c_20 h
          refine g_iconst (pc := 27) X ic_0 dX7_rests_27 ?_
          refine g_iadd (pc := 28) X dX7_rests_28 ?_
          refine g_istore_n (pc := 29) (lv' := [(1, .int (y1_4 + (0 : Int32))), (0, .ref (a 0)), (2, .int y2_4)]) X rfl (by decide) rfl dX7_rests_29 ?_
          refine g_iinc (pc := 30) (lv' := [(2, .int (y2_4 + (1 : Int32))), (1, .int (y1_4 + (0 : Int32))), (0, .ref (a 0))]) X 2 rfl rfl (by decide) rfl dX7_rests_30 ?_
          refine g_goto (pc := 33) (tgt := 4) X (by decide) dX7_rests_33 ?_
          exact g_lv (ih (y1_4 + (0 : Int32)) (y2_4 + (1 : Int32)) h) [2, 1, 0] rfl
        · have h := ite_t c_20 h
          refine g_iconst (pc := 23) X ic_1 dX7_rests_23 ?_
          refine g_goto (pc := 24) (tgt := 28) X (by decide) dX7_rests_24 ?_
          refine g_iadd (pc := 28) X dX7_rests_28 ?_
          refine g_istore_n (pc := 29) (lv' := [(1, .int (y1_4 + (1 : Int32))), (0, .ref (a 0)), (2, .int y2_4)]) X rfl (by decide) rfl dX7_rests_29 ?_
          refine g_iinc (pc := 30) (lv' := [(2, .int (y2_4 + (1 : Int32))), (1, .int (y1_4 + (1 : Int32))), (0, .ref (a 0))]) X 2 rfl rfl (by decide) rfl dX7_rests_30 ?_
          refine g_goto (pc := 33) (tgt := 4) X (by decide) dX7_rests_33 ?_
          exact g_lv (ih (y1_4 + (1 : Int32)) (y2_4 + (1 : Int32)) h) [2, 1, 0] rfl
  exact g_lv (L4 n4 (0 : Int32) (0 : Int32) h) [2, 1, 0] rfl
set_option maxRecDepth 20000 in
theorem c_X7_count (x1 : Int32) (σ : Sg) (K : Int32 → Sg → Prop) : ∀ sz, Met l yX7_count (.code yX7_count cX7_count 2 (some .int) :: AW) ({ frames := 4, cells := 0, slots := 0, locals := 91 } : Room) (pvM D (tyM cI) SXM (wM cI a σ) sz (w_X7_count x1 σ K) [.ref (a 0), .int x1]) (va_Qi K (atM D (tyM cI) (wM cI a) (va_A (wM cI a σ) sz)) (va_A (wM cI a σ) sz)) 0 0 (va_A (wM cI a σ) sz) := by
  intro sz
  refine met_Mi (own := "TrainNoteModel") (lv := [(0, .ref (a 0)), (1, .int x1)]) (by decide +kernel) rfl (Nat.le_of_ble_eq_true rfl) rfl ?_
  intro p e s m args below meth c A X hK hX hA hr hlk h
  have hR : ∀ σ H locs, hpM D (wM cI a) A s σ H locs → va_P D vwCl ((wM cI a σ)) H := fun _ _ _ h => h.1
  have hok := SXM_ok
  refine g_aload_n (pc := 0) X rfl 0 rfl dX7_count_0 ?_
  refine g_cVMv (pc := 1) (As := []) X hK hX hok hA mi_X7_find (c_X7_find  σ _) (fun _ => ⟨_, wl_ate (oX7 (cI := cI) (a := a) k_isMod_0).1 ((oX7 (cI := cI) (a := a) k_isMod_0).2 _)⟩) rfl rfl kw4_67 ⟨rfl, rfl⟩ ⟨Nat.le_of_ble_eq_true rfl, Nat.le_of_ble_eq_true rfl⟩ rfl (Nat.le_of_ble_eq_true rfl) dX7_count_1 rfl h (fun τ1 h => ?_)
  refine g_iload_n (pc := 4) X rfl 1 rfl dX7_count_4 ?_
  by_cases c_5_0 : x1 = (0 : Int32)
  · have h := ite_t c_5_0 h
    refine g_tabI (pc := 5) (tgt := 56) (off := 51) X (by rw [c_5_0]; decide) (by rw [c_5_0]; decide) (by rw [c_5_0] <;> rfl) (by decide) dX7_count_5 ?_
    refine g_aload_n (pc := 56) X rfl 0 rfl dX7_count_56 ?_
    refine fX7_101 (pc := 57) X hK hR k_isMod_0 dX7_count_57 ?_
    exact g_retMi (pc := 60) X hK hr hlk dX7_count_60 h
  · have h := ite_f c_5_0 h
    by_cases c_5_1 : x1 = (1 : Int32)
    · have h := ite_t c_5_1 h
      refine g_tabI (pc := 5) (tgt := 61) (off := 56) X (by rw [c_5_1]; decide) (by rw [c_5_1]; decide) (by rw [c_5_1] <;> rfl) (by decide) dX7_count_5 ?_
      refine g_aload_n (pc := 61) X rfl 0 rfl dX7_count_61 ?_
      refine fX7_107 (pc := 62) X hK hR k_isMod_0 dX7_count_62 ?_
      exact g_retMi (pc := 65) X hK hr hlk dX7_count_65 h
    · have h := ite_f c_5_1 h
      by_cases c_5_2 : x1 = (2 : Int32)
      · have h := ite_t c_5_2 h
        refine g_tabI (pc := 5) (tgt := 66) (off := 61) X (by rw [c_5_2]; decide) (by rw [c_5_2]; decide) (by rw [c_5_2] <;> rfl) (by decide) dX7_count_5 ?_
        refine g_aload_n (pc := 66) X rfl 0 rfl dX7_count_66 ?_
        refine fX7_25 (pc := 67) X hK hR k_isMod_0 dX7_count_67 ?_
        refine g_iload_n (pc := 70) X rfl 1 rfl dX7_count_70 ?_
        refine g_iconst (pc := 71) X ic_2 dX7_count_71 ?_
        refine g_isub (pc := 72) X dX7_count_72 ?_
        obtain ⟨h_73, h⟩ := h
        refine aX7_typed (pc := 73) X hK hR k_isMod_0 h_73 dX7_count_73 ?_
        exact g_retMi (pc := 74) X hK hr hlk dX7_count_74 h
      · have h := ite_f c_5_2 h
        by_cases c_5_3 : x1 = (3 : Int32)
        · have h := ite_t c_5_3 h
          refine g_tabI (pc := 5) (tgt := 66) (off := 61) X (by rw [c_5_3]; decide) (by rw [c_5_3]; decide) (by rw [c_5_3] <;> rfl) (by decide) dX7_count_5 ?_
          refine g_aload_n (pc := 66) X rfl 0 rfl dX7_count_66 ?_
          refine fX7_25 (pc := 67) X hK hR k_isMod_0 dX7_count_67 ?_
          refine g_iload_n (pc := 70) X rfl 1 rfl dX7_count_70 ?_
          refine g_iconst (pc := 71) X ic_2 dX7_count_71 ?_
          refine g_isub (pc := 72) X dX7_count_72 ?_
          obtain ⟨h_73, h⟩ := h
          refine aX7_typed (pc := 73) X hK hR k_isMod_0 h_73 dX7_count_73 ?_
          exact g_retMi (pc := 74) X hK hr hlk dX7_count_74 h
        · have h := ite_f c_5_3 h
          by_cases c_5_4 : x1 = (4 : Int32)
          · have h := ite_t c_5_4 h
            refine g_tabI (pc := 5) (tgt := 75) (off := 70) X (by rw [c_5_4]; decide) (by rw [c_5_4]; decide) (by rw [c_5_4] <;> rfl) (by decide) dX7_count_5 ?_
            refine g_aload_n (pc := 75) X rfl 0 rfl dX7_count_75 ?_
            refine g_cVPi (pc := 76) (As := []) X hK hR mi_X7_silent (c_X7_silent  τ1 _) (wl_ate (oX7 (cI := cI) (a := a) k_isMod_0).1 ((oX7 (cI := cI) (a := a) k_isMod_0).2 _)) rfl rfl kw5_28 ⟨rfl, rfl⟩ ⟨Nat.le_of_ble_eq_true rfl, Nat.le_of_ble_eq_true rfl⟩ rfl (Nat.le_of_ble_eq_true rfl) dX7_count_76 rfl h (fun r76 h => ?_)
            exact g_retMi (pc := 79) X hK hr hlk dX7_count_79 h
          · have h := ite_f c_5_4 h
            by_cases c_5_5 : x1 = (5 : Int32)
            · have h := ite_t c_5_5 h
              refine g_tabI (pc := 5) (tgt := 80) (off := 75) X (by rw [c_5_5]; decide) (by rw [c_5_5]; decide) (by rw [c_5_5] <;> rfl) (by decide) dX7_count_5 ?_
              refine g_aload_n (pc := 80) X rfl 0 rfl dX7_count_80 ?_
              refine g_cVPi (pc := 81) (As := []) X hK hR mi_X7_rests (c_X7_rests  τ1 _) (wl_ate (oX7 (cI := cI) (a := a) k_isMod_0).1 ((oX7 (cI := cI) (a := a) k_isMod_0).2 _)) rfl rfl kw5_32 ⟨rfl, rfl⟩ ⟨Nat.le_of_ble_eq_true rfl, Nat.le_of_ble_eq_true rfl⟩ rfl (Nat.le_of_ble_eq_true rfl) dX7_count_81 rfl h (fun r81 h => ?_)
              exact g_retMi (pc := 84) X hK hr hlk dX7_count_84 h
            · have h := ite_f c_5_5 h
              by_cases c_5_6 : x1 = (6 : Int32)
              · have h := ite_t c_5_6 h
                refine g_tabI (pc := 5) (tgt := 85) (off := 80) X (by rw [c_5_6]; decide) (by rw [c_5_6]; decide) (by rw [c_5_6] <;> rfl) (by decide) dX7_count_5 ?_
                refine g_aload_n (pc := 85) X rfl 0 rfl dX7_count_85 ?_
                refine fX7_34 (pc := 86) X hK hR k_isMod_0 dX7_count_86 ?_
                refine g_iconst (pc := 89) X ic_0 dX7_count_89 ?_
                obtain ⟨h_90, h⟩ := h
                refine aX7_train (pc := 90) X hK hR k_isMod_0 h_90 dX7_count_90 ?_
                exact g_retMi (pc := 91) X hK hr hlk dX7_count_91 h
              · have h := ite_f c_5_6 h
                by_cases c_5_7 : x1 = (7 : Int32)
                · have h := ite_t c_5_7 h
                  refine g_tabI (pc := 5) (tgt := 92) (off := 87) X (by rw [c_5_7]; decide) (by rw [c_5_7]; decide) (by rw [c_5_7] <;> rfl) (by decide) dX7_count_5 ?_
                  refine g_aload_n (pc := 92) X rfl 0 rfl dX7_count_92 ?_
                  refine fX7_208 (pc := 93) X hK hR k_isMod_0 dX7_count_93 ?_
                  exact g_retMi (pc := 96) X hK hr hlk dX7_count_96 h
                · have h := ite_f c_5_7 h
                  by_cases c_5_8 : x1 = (8 : Int32)
                  · have h := ite_t c_5_8 h
                    refine g_tabI (pc := 5) (tgt := 97) (off := 92) X (by rw [c_5_8]; decide) (by rw [c_5_8]; decide) (by rw [c_5_8] <;> rfl) (by decide) dX7_count_5 ?_
                    refine g_aload_n (pc := 97) X rfl 0 rfl dX7_count_97 ?_
                    refine fX7_67 (pc := 98) X hK hR k_isMod_0 dX7_count_98 ?_
                    exact g_retMi (pc := 101) X hK hr hlk dX7_count_101 h
                  · have h := ite_f c_5_8 h
                    refine g_tabO (pc := 5) (tgt := 102) X (tabOut (fun z z1 z2 => ?_)) (by decide) dX7_count_5 ?_
                    · rcases (show z = 0 ∨ z = 1 ∨ z = 2 ∨ z = 3 ∨ z = 4 ∨ z = 5 ∨ z = 6 ∨ z = 7 ∨ z = 8 by omega) with rfl | rfl | rfl | rfl | rfl | rfl | rfl | rfl | rfl
                      · exact lv_neT c_5_0 (by decide)
                      · exact lv_neT c_5_1 (by decide)
                      · exact lv_neT c_5_2 (by decide)
                      · exact lv_neT c_5_3 (by decide)
                      · exact lv_neT c_5_4 (by decide)
                      · exact lv_neT c_5_5 (by decide)
                      · exact lv_neT c_5_6 (by decide)
                      · exact lv_neT c_5_7 (by decide)
                      · exact lv_neT c_5_8 (by decide)
                    · refine g_bipush (pc := 102) X bp_m2 dX7_count_102 ?_
                      exact g_retMi (pc := 104) X hK hr hlk dX7_count_104 h
end
