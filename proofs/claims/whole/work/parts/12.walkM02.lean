section
variable {l : Launch} {D : va_G} {cI cZ cS : ClassId} {a : Nat → Nat} {tS tF : Nat}
set_option maxRecDepth 20000 in
theorem c_X7_wrongBy (x1 : Int32) (x2 : Int32) (σ : Sg) (K : Int32 → Prop) : Met l yX7_wrongBy (.code yX7_wrongBy cX7_wrongBy 3 (some .int) :: AW) ({ frames := 0, cells := 0, slots := 0, locals := 0 } : Room) (pvP D (tyM cI) (wM cI a σ) (w_X7_wrongBy x1 x2 σ K) [.ref (a 0), .int x1, .int x2]) (vp_Si K) 0 0 (fun _ => False) := by
  refine met_Pi (own := "TrainNoteModel") (lv := [(0, .ref (a 0)), (1, .int x1), (2, .int x2)]) (by decide +kernel) rfl (Nat.le_of_ble_eq_true rfl) rfl ?_
  intro p e s m args below meth c X hK hr hlk h
  have hR : ∀ σ H locs, hpP D (wM cI a) s σ H locs → va_P D vwCl ((wM cI a σ)) H := fun _ _ _ h => h.1
  refine g_aload_n (pc := 0) X rfl 0 rfl dX7_wrongBy_0 ?_
  refine fX7_37 (pc := 1) X hK hR k_isMod_0 dX7_wrongBy_1 ?_
  refine g_iload_n (pc := 4) X rfl 1 rfl dX7_wrongBy_4 ?_
  obtain ⟨h_5, h⟩ := h
  refine aX7_places (pc := 5) X hK hR k_isMod_0 h_5 dX7_wrongBy_5 ?_
  refine g_iconst (pc := 6) X ic_2 dX7_wrongBy_6 ?_
  refine g_irem (pc := 7) X (by decide) dX7_wrongBy_7 ?_
  refine g_if_ne (pc := 8) (tgt := 15) X (by decide) dX7_wrongBy_8 (fun c_8 => ?_) (fun c_8 => ?_)
  · have h := ite_f c_8 h
    refine g_iload_n (pc := 15) X rfl 2 rfl dX7_wrongBy_15 ?_
    refine g_ineg (pc := 16) X dX7_wrongBy_16 ?_
    exact g_retPi (pc := 17) X hr hlk dX7_wrongBy_17 h
  · have h := ite_t c_8 h
    refine g_iload_n (pc := 11) X rfl 2 rfl dX7_wrongBy_11 ?_
    refine g_goto (pc := 12) (tgt := 17) X (by decide) dX7_wrongBy_12 ?_
    exact g_retPi (pc := 17) X hr hlk dX7_wrongBy_17 h
set_option maxRecDepth 20000 in
theorem c_X7_listens (x1 : Int32) (σ : Sg) (K : Sg → Prop) : ∀ sz, Met l yX7_listens (.code yX7_listens cX7_listens 5 (none) :: AW) ({ frames := 1, cells := 0, slots := 0, locals := 22 } : Room) (pvM D (tyM cI) SXM (wM cI a σ) sz (w_X7_listens x1 σ K) [.ref (a 0), .int x1]) (va_Qv K (atM D (tyM cI) (wM cI a) (va_A (wM cI a σ) sz)) (va_A (wM cI a σ) sz)) 0 0 (va_A (wM cI a σ) sz) := by
  intro sz
  refine met_Mv (own := "TrainNoteModel") (lv := [(0, .ref (a 0)), (1, .int x1)]) (by decide +kernel) rfl (Nat.le_of_ble_eq_true rfl) rfl ?_
  intro p e s m args below meth c A X hK hX hA hr hlk h
  have hR : ∀ σ H locs, hpM D (wM cI a) A s σ H locs → va_P D vwCl ((wM cI a σ)) H := fun _ _ _ h => h.1
  have hok := SXM_ok
  refine g_iload_n (pc := 0) X rfl 1 rfl dX7_listens_0 ?_
  refine g_istore_n (pc := 1) (lv' := [(2, .int x1), (0, .ref (a 0)), (1, .int x1)]) X rfl (by decide) rfl dX7_listens_1 ?_
  refine g_iconst (pc := 2) X ic_0 dX7_listens_2 ?_
  refine g_istore_n (pc := 3) (lv' := [(3, .int (0 : Int32)), (2, .int x1), (0, .ref (a 0)), (1, .int x1)]) X rfl (by decide) rfl dX7_listens_3 ?_
  refine g_iconst (pc := 4) X ic_0 dX7_listens_4 ?_
  refine g_istore (pc := 5) (lv' := [(4, .int (0 : Int32)), (3, .int (0 : Int32)), (2, .int x1), (0, .ref (a 0)), (1, .int x1)]) X (by decide) rfl dX7_listens_5 ?_
  obtain ⟨n7, h⟩ := h
  have X105 : E_X7_listens_7 K σ → GMv p l e ({ frames := 1, cells := 0, slots := 0, locals := 22 } : Room) s m args below meth c K 5 D (tyM cI) (wM cI a) A 105 [] [] σ := by
    intro  h
    exact g_retMv (pc := 105) X hK hr hlk dX7_listens_105 h
  have L7 : ∀ (n : Nat) (y2_7 : Int32) (y3_7 : Int32) (y4_7 : Int32), lq3 (F_X7_listens_7 K σ x1 (E_X7_listens_7 K σ)) n y2_7 y3_7 y4_7 → GMv p l e ({ frames := 1, cells := 0, slots := 0, locals := 22 } : Room) s m args below meth c K 5 D (tyM cI) (wM cI a) A 7 [(0, .ref (a 0)), (1, .int x1), (2, .int y2_7), (3, .int y3_7), (4, .int y4_7)] [] σ := by
    intro n
    induction n with
    | zero =>
      intro y2_7 y3_7 y4_7 h
      exact h.elim
    | succ n ih =>
      intro y2_7 y3_7 y4_7 h
      have h : F_X7_listens_7 K σ x1 (E_X7_listens_7 K σ) (lq3 (F_X7_listens_7 K σ x1 (E_X7_listens_7 K σ)) n) y2_7 y3_7 y4_7 := h
      refine g_iload (pc := 7) X 4 rfl dX7_listens_7 ?_
      refine g_bipush (pc := 9) X bp_9 dX7_listens_9 ?_
      refine g_icmp_ge (pc := 11) (tgt := 105) X (by decide) dX7_listens_11 (fun c_11 => ?_) (fun c_11 => ?_)
      · have h := ite_t c_11 h
        exact g_lv (X105  h) [] rfl
      · have h := ite_f c_11 h
        refine g_iload_n (pc := 14) X rfl 2 rfl dX7_listens_14 ?_
        refine g_iconst (pc := 15) X ic_m1 dX7_listens_15 ?_
        refine g_icmp_ne (pc := 16) (tgt := 20) X (by decide) dX7_listens_16 (fun c_16 => ?_) (fun c_16 => ?_)
        · have h := ite_f c_16 h
          refine g_aload_n (pc := 20) X rfl 0 rfl dX7_listens_20 ?_
          refine fX7_28 (pc := 21) X hK hR k_isMod_0 dX7_listens_21 ?_
          refine g_iconst (pc := 24) X ic_4 dX7_listens_24 ?_
          refine g_iload_n (pc := 25) X rfl 2 rfl dX7_listens_25 ?_
          refine g_imul (pc := 26) X dX7_listens_26 ?_
          refine g_iconst (pc := 27) X ic_3 dX7_listens_27 ?_
          refine g_iadd (pc := 28) X dX7_listens_28 ?_
          obtain ⟨h_29, h⟩ := h
          refine aX7_singer (pc := 29) X hK hR k_isMod_0 h_29 dX7_listens_29 ?_
          refine g_iconst (pc := 30) X ic_1 dX7_listens_30 ?_
          refine g_icmp_ne (pc := 31) (tgt := 77) X (by decide) dX7_listens_31 (fun c_31 => ?_) (fun c_31 => ?_)
          · have h := ite_f c_31 h
            refine g_iload_n (pc := 77) X rfl 3 rfl dX7_listens_77 ?_
            refine g_aload_n (pc := 78) X rfl 0 rfl dX7_listens_78 ?_
            refine fX7_28 (pc := 79) X hK hR k_isMod_0 dX7_listens_79 ?_
            refine g_iconst (pc := 82) X ic_4 dX7_listens_82 ?_
            refine g_iload_n (pc := 83) X rfl 2 rfl dX7_listens_83 ?_
            refine g_imul (pc := 84) X dX7_listens_84 ?_
            refine g_iconst (pc := 85) X ic_1 dX7_listens_85 ?_
            refine g_iadd (pc := 86) X dX7_listens_86 ?_
            obtain ⟨h_87, h⟩ := h
            refine aX7_singer (pc := 87) X hK hR k_isMod_0 h_87 dX7_listens_87 ?_
            refine g_iconst (pc := 88) X ic_2 dX7_listens_88 ?_
            refine g_idiv (pc := 89) X (by decide) dX7_listens_89 ?_
            refine g_iadd (pc := 90) X dX7_listens_90 ?_
            refine g_topi (fun x3_91 ex3_91 => ?_)
            have h := h x3_91 ex3_91
            refine g_istore_n (pc := 91) (lv' := [(3, .int x3_91), (0, .ref (a 0)), (1, .int x1), (2, .int y2_7), (4, .int y4_7)]) X rfl (by decide) rfl dX7_listens_91 ?_
            refine g_aload_n (pc := 92) X rfl 1 rfl dX7_listens_92 ?_
            refine fX7_40 (pc := 93) X hK hR k_isMod_0 dX7_listens_93 ?_
            refine g_iload_n (pc := 96) X rfl 3 rfl dX7_listens_96 ?_
            obtain ⟨h_97, h⟩ := h
            refine aX7_near (pc := 97) X hK hR k_isMod_0 h_97 dX7_listens_97 ?_
            refine g_topi (fun x2_98 ex2_98 => ?_)
            have h := h x2_98 ex2_98
            refine g_istore_n (pc := 98) (lv' := [(2, .int x2_98), (3, .int x3_91), (0, .ref (a 0)), (1, .int x1), (4, .int y4_7)]) X rfl (by decide) rfl dX7_listens_98 ?_
            refine g_iinc (pc := 99) (lv' := [(4, .int (y4_7 + (1 : Int32))), (2, .int x2_98), (3, .int x3_91), (0, .ref (a 0)), (1, .int x1)]) X 4 rfl rfl (by decide) rfl dX7_listens_99 ?_
            refine g_goto (pc := 102) (tgt := 7) X (by decide) dX7_listens_102 ?_
            exact g_lv (ih x2_98 x3_91 (y4_7 + (1 : Int32)) h) [3, 4, 1, 2, 0] rfl
          · have h := ite_t c_31 h
            refine g_aload_n (pc := 34) X rfl 0 rfl dX7_listens_34 ?_
            refine fX7_43 (pc := 35) X hK hR k_isMod_0 dX7_listens_35 ?_
            refine g_iload_n (pc := 38) X rfl 1 rfl dX7_listens_38 ?_
            refine g_iload (pc := 39) X 4 rfl dX7_listens_39 ?_
            obtain ⟨h_41, h⟩ := h
            refine tX7_by (pc := 41) X hK k_isMod_0 h_41 dX7_listens_41 (fun τ41 eτ41 => ?_)
            have h := h τ41 eτ41
            refine g_aload_n (pc := 42) X rfl 0 rfl dX7_listens_42 ?_
            refine fX7_46 (pc := 43) X hK hR k_isMod_0 dX7_listens_43 ?_
            refine g_iload_n (pc := 46) X rfl 1 rfl dX7_listens_46 ?_
            refine g_iload_n (pc := 47) X rfl 3 rfl dX7_listens_47 ?_
            refine g_aload_n (pc := 48) X rfl 0 rfl dX7_listens_48 ?_
            refine g_aload_n (pc := 49) X rfl 0 rfl dX7_listens_49 ?_
            refine fX7_37 (pc := 50) X hK hR k_isMod_0 dX7_listens_50 ?_
            refine g_iload_n (pc := 53) X rfl 2 rfl dX7_listens_53 ?_
            obtain ⟨h_54, h⟩ := h
            refine aX7_places (pc := 54) X hK hR k_isMod_0 h_54 dX7_listens_54 ?_
            refine g_cVPi (pc := 55) (As := [.int (τ41 10 (y2_7).toNatClampNeg)]) X hK hR mi_X7_whistleAt (c_X7_whistleAt (τ41 10 (y2_7).toNatClampNeg) τ41 _) (wl_ate (oX7 (cI := cI) (a := a) k_isMod_0).1 ((oX7 (cI := cI) (a := a) k_isMod_0).2 _)) rfl rfl kw4_59 ⟨rfl, rfl⟩ ⟨Nat.le_of_ble_eq_true rfl, Nat.le_of_ble_eq_true rfl⟩ rfl (Nat.le_of_ble_eq_true rfl) dX7_listens_55 rfl h (fun r55 h => ?_)
            refine g_iadd (pc := 58) X dX7_listens_58 ?_
            refine g_aload_n (pc := 59) X rfl 0 rfl dX7_listens_59 ?_
            refine g_iload_n (pc := 60) X rfl 2 rfl dX7_listens_60 ?_
            refine g_aload_n (pc := 61) X rfl 0 rfl dX7_listens_61 ?_
            refine fX7_28 (pc := 62) X hK hR k_isMod_0 dX7_listens_62 ?_
            refine g_iconst (pc := 65) X ic_4 dX7_listens_65 ?_
            refine g_iload_n (pc := 66) X rfl 2 rfl dX7_listens_66 ?_
            refine g_imul (pc := 67) X dX7_listens_67 ?_
            refine g_iconst (pc := 68) X ic_1 dX7_listens_68 ?_
            refine g_iadd (pc := 69) X dX7_listens_69 ?_
            obtain ⟨h_70, h⟩ := h
            refine aX7_singer (pc := 70) X hK hR k_isMod_0 h_70 dX7_listens_70 ?_
            refine g_cVPi (pc := 71) (As := [.int y2_7, .int (τ41 7 ((((4 : Int32) * y2_7) + (1 : Int32))).toNatClampNeg)]) X hK hR mi_X7_wrongBy (c_X7_wrongBy y2_7 (τ41 7 ((((4 : Int32) * y2_7) + (1 : Int32))).toNatClampNeg) τ41 _) (wl_ate (oX7 (cI := cI) (a := a) k_isMod_0).1 ((oX7 (cI := cI) (a := a) k_isMod_0).2 _)) rfl rfl kw4_86 ⟨rfl, rfl⟩ ⟨Nat.le_of_ble_eq_true rfl, Nat.le_of_ble_eq_true rfl⟩ rfl (Nat.le_of_ble_eq_true rfl) dX7_listens_71 rfl h (fun r71 h => ?_)
            refine g_iadd (pc := 74) X dX7_listens_74 ?_
            obtain ⟨h_75, h⟩ := h
            refine tX7_first (pc := 75) X hK k_isMod_0 h_75 dX7_listens_75 (fun τ75 eτ75 => ?_)
            have h := h τ75 eτ75
            exact g_retMv (pc := 76) X hK hr hlk dX7_listens_76 h
        · have h := ite_t c_16 h
          exact g_retMv (pc := 19) X hK hr hlk dX7_listens_19 h
  exact g_lv (L7 n7 x1 (0 : Int32) (0 : Int32) h) [3, 4, 2, 1, 0] rfl
set_option maxRecDepth 20000 in
theorem c_X7_findNotes (σ : Sg) (K : Sg → Prop) : ∀ sz, Met l yX7_findNotes (.code yX7_findNotes cX7_findNotes 2 (none) :: AW) ({ frames := 2, cells := 0, slots := 0, locals := 46 } : Room) (pvM D (tyM cI) SXM (wM cI a σ) sz (w_X7_findNotes σ K) [.ref (a 0)]) (va_Qv K (atM D (tyM cI) (wM cI a) (va_A (wM cI a σ) sz)) (va_A (wM cI a σ) sz)) 0 0 (va_A (wM cI a σ) sz) := by
  intro sz
  refine met_Mv (own := "TrainNoteModel") (lv := [(0, .ref (a 0))]) (by decide +kernel) rfl (Nat.le_of_ble_eq_true rfl) rfl ?_
  intro p e s m args below meth c A X hK hX hA hr hlk h
  have hR : ∀ σ H locs, hpM D (wM cI a) A s σ H locs → va_P D vwCl ((wM cI a σ)) H := fun _ _ _ h => h.1
  have hok := SXM_ok
  refine g_iconst (pc := 0) X ic_0 dX7_findNotes_0 ?_
  refine g_istore_n (pc := 1) (lv' := [(1, .int (0 : Int32)), (0, .ref (a 0))]) X rfl (by decide) rfl dX7_findNotes_1 ?_
  obtain ⟨n2, h⟩ := h
  have X27 : ∀ (ρe27 : Sg), E_X7_findNotes_2 K ρe27 → GMv p l e ({ frames := 2, cells := 0, slots := 0, locals := 46 } : Room) s m args below meth c K 2 D (tyM cI) (wM cI a) A 27 [(0, .ref (a 0))] [] ρe27 := by
    intro ρe27 h
    refine g_iconst (pc := 27) X ic_0 dX7_findNotes_27 ?_
    refine g_istore_n (pc := 28) (lv' := [(1, .int (0 : Int32)), (0, .ref (a 0))]) X rfl (by decide) rfl dX7_findNotes_28 ?_
    obtain ⟨n29, h⟩ := h
    have X55 : ∀ (ρe55 : Sg), E_X7_findNotes_29 K ρe55 → GMv p l e ({ frames := 2, cells := 0, slots := 0, locals := 46 } : Room) s m args below meth c K 2 D (tyM cI) (wM cI a) A 55 [] [] ρe55 := by
      intro ρe55 h
      exact g_retMv (pc := 55) X hK hr hlk dX7_findNotes_55 h
    have L29 : ∀ (n : Nat) (y1_29 : Int32) (ρ29 : Sg), lq2 (F_X7_findNotes_29 (E_X7_findNotes_29 K)) n y1_29 ρ29 → GMv p l e ({ frames := 2, cells := 0, slots := 0, locals := 46 } : Room) s m args below meth c K 2 D (tyM cI) (wM cI a) A 29 [(0, .ref (a 0)), (1, .int y1_29)] [] ρ29 := by
      intro n
      induction n with
      | zero =>
        intro y1_29 ρ29 h
        exact h.elim
      | succ n ih =>
        intro y1_29 ρ29 h
        have h : F_X7_findNotes_29 (E_X7_findNotes_29 K) (lq2 (F_X7_findNotes_29 (E_X7_findNotes_29 K)) n) y1_29 ρ29 := h
        refine g_iload_n (pc := 29) X rfl 1 rfl dX7_findNotes_29 ?_
        refine g_aload_n (pc := 30) X rfl 0 rfl dX7_findNotes_30 ?_
        refine fX7_101 (pc := 31) X hK hR k_isMod_0 dX7_findNotes_31 ?_
        refine g_icmp_ge (pc := 34) (tgt := 55) X (by decide) dX7_findNotes_34 (fun c_34 => ?_) (fun c_34 => ?_)
        · have h := ite_t c_34 h
          exact g_lv (X55 ρ29 h) [] rfl
        · have h := ite_f c_34 h
          refine g_aload_n (pc := 37) X rfl 0 rfl dX7_findNotes_37 ?_
          refine fX7_43 (pc := 38) X hK hR k_isMod_0 dX7_findNotes_38 ?_
          refine g_iload_n (pc := 41) X rfl 1 rfl dX7_findNotes_41 ?_
          refine g_iconst (pc := 42) X ic_m1 dX7_findNotes_42 ?_
          obtain ⟨h_43, h⟩ := h
          refine tX7_by (pc := 43) X hK k_isMod_0 h_43 dX7_findNotes_43 (fun τ43 eτ43 => ?_)
          have h := h τ43 eτ43
          refine g_aload_n (pc := 44) X rfl 0 rfl dX7_findNotes_44 ?_
          refine g_iload_n (pc := 45) X rfl 1 rfl dX7_findNotes_45 ?_
          refine g_cVMv (pc := 46) (As := [.int y1_29]) X hK hX hok hA mi_X7_listens (c_X7_listens y1_29 τ43 _) (fun _ => ⟨_, wl_ate (oX7 (cI := cI) (a := a) k_isMod_0).1 ((oX7 (cI := cI) (a := a) k_isMod_0).2 _)⟩) rfl rfl kw4_82 ⟨rfl, rfl⟩ ⟨Nat.le_of_ble_eq_true rfl, Nat.le_of_ble_eq_true rfl⟩ rfl (Nat.le_of_ble_eq_true rfl) dX7_findNotes_46 rfl h (fun τ46 h => ?_)
          refine g_iinc (pc := 49) (lv' := [(1, .int (y1_29 + (1 : Int32))), (0, .ref (a 0))]) X 1 rfl rfl (by decide) rfl dX7_findNotes_49 ?_
          refine g_goto (pc := 52) (tgt := 29) X (by decide) dX7_findNotes_52 ?_
          exact g_lv (ih (y1_29 + (1 : Int32)) τ46 h) [1, 0] rfl
    exact g_lv (L29 n29 (0 : Int32) ρe27 h) [1, 0] rfl
  have L2 : ∀ (n : Nat) (y1_2 : Int32) (ρ2 : Sg), lq2 (F_X7_findNotes_2 (E_X7_findNotes_2 K)) n y1_2 ρ2 → GMv p l e ({ frames := 2, cells := 0, slots := 0, locals := 46 } : Room) s m args below meth c K 2 D (tyM cI) (wM cI a) A 2 [(0, .ref (a 0)), (1, .int y1_2)] [] ρ2 := by
    intro n
    induction n with
    | zero =>
      intro y1_2 ρ2 h
      exact h.elim
    | succ n ih =>
      intro y1_2 ρ2 h
      have h : F_X7_findNotes_2 (E_X7_findNotes_2 K) (lq2 (F_X7_findNotes_2 (E_X7_findNotes_2 K)) n) y1_2 ρ2 := h
      refine g_iload_n (pc := 2) X rfl 1 rfl dX7_findNotes_2 ?_
      refine g_aload_n (pc := 3) X rfl 0 rfl dX7_findNotes_3 ?_
      refine fX7_101 (pc := 4) X hK hR k_isMod_0 dX7_findNotes_4 ?_
      refine g_icmp_ge (pc := 7) (tgt := 27) X (by decide) dX7_findNotes_7 (fun c_7 => ?_) (fun c_7 => ?_)
      · have h := ite_t c_7 h
        exact g_lv (X27 ρ2 h) [0] rfl
      · have h := ite_f c_7 h
        refine g_aload_n (pc := 10) X rfl 0 rfl dX7_findNotes_10 ?_
        refine fX7_40 (pc := 11) X hK hR k_isMod_0 dX7_findNotes_11 ?_
        refine g_iload_n (pc := 14) X rfl 1 rfl dX7_findNotes_14 ?_
        refine g_aload_n (pc := 15) X rfl 0 rfl dX7_findNotes_15 ?_
        refine g_iload_n (pc := 16) X rfl 1 rfl dX7_findNotes_16 ?_
        refine g_cVPi (pc := 17) (As := [.int y1_2]) X hK hR mi_X7_nearest (c_X7_nearest y1_2 ρ2 _) (wl_ate (oX7 (cI := cI) (a := a) k_isMod_0).1 ((oX7 (cI := cI) (a := a) k_isMod_0).2 _)) rfl rfl kw4_75 ⟨rfl, rfl⟩ ⟨Nat.le_of_ble_eq_true rfl, Nat.le_of_ble_eq_true rfl⟩ rfl (Nat.le_of_ble_eq_true rfl) dX7_findNotes_17 rfl h (fun r17 h => ?_)
        obtain ⟨h_20, h⟩ := h
        refine tX7_near (pc := 20) X hK k_isMod_0 h_20 dX7_findNotes_20 (fun τ20 eτ20 => ?_)
        have h := h τ20 eτ20
        refine g_iinc (pc := 21) (lv' := [(1, .int (y1_2 + (1 : Int32))), (0, .ref (a 0))]) X 1 rfl rfl (by decide) rfl dX7_findNotes_21 ?_
        refine g_goto (pc := 24) (tgt := 2) X (by decide) dX7_findNotes_24 ?_
        exact g_lv (ih (y1_2 + (1 : Int32)) τ20 h) [1, 0] rfl
  exact g_lv (L2 n2 (0 : Int32) σ h) [1, 0] rfl
set_option maxRecDepth 20000 in
theorem c_X7_find (σ : Sg) (K : Sg → Prop) : ∀ sz, Met l yX7_find (.code yX7_find cX7_find 2 (none) :: AW) ({ frames := 3, cells := 0, slots := 0, locals := 70 } : Room) (pvM D (tyM cI) SXM (wM cI a σ) sz (w_X7_find σ K) [.ref (a 0)]) (va_Qv K (atM D (tyM cI) (wM cI a) (va_A (wM cI a σ) sz)) (va_A (wM cI a σ) sz)) 0 0 (va_A (wM cI a σ) sz) := by
  intro sz
  refine met_Mv (own := "TrainNoteModel") (lv := [(0, .ref (a 0))]) (by decide +kernel) rfl (Nat.le_of_ble_eq_true rfl) rfl ?_
  intro p e s m args below meth c A X hK hX hA hr hlk h
  have hR : ∀ σ H locs, hpM D (wM cI a) A s σ H locs → va_P D vwCl ((wM cI a σ)) H := fun _ _ _ h => h.1
  have hok := SXM_ok
  refine g_aload_n (pc := 0) X rfl 0 rfl dX7_find_0 ?_
  refine g_cVMi (pc := 1) (As := []) X hK hX hok hA mi_X7_readsSingers (c_X7_readsSingers  σ _) (fun _ => ⟨_, wl_ate (oX7 (cI := cI) (a := a) k_isMod_0).1 ((oX7 (cI := cI) (a := a) k_isMod_0).2 _)⟩) rfl rfl kw4_22 ⟨rfl, rfl⟩ ⟨Nat.le_of_ble_eq_true rfl, Nat.le_of_ble_eq_true rfl⟩ rfl (Nat.le_of_ble_eq_true rfl) dX7_find_1 rfl h (fun r1 τ1 h => ?_)
  refine g_pop (pc := 4) X rfl dX7_find_4 ?_
  refine g_aload_n (pc := 5) X rfl 0 rfl dX7_find_5 ?_
  refine g_cVMi (pc := 6) (As := []) X hK hX hok hA mi_X7_readsBars (c_X7_readsBars  τ1 _) (fun _ => ⟨_, wl_ate (oX7 (cI := cI) (a := a) k_isMod_0).1 ((oX7 (cI := cI) (a := a) k_isMod_0).2 _)⟩) rfl rfl kw4_31 ⟨rfl, rfl⟩ ⟨Nat.le_of_ble_eq_true rfl, Nat.le_of_ble_eq_true rfl⟩ rfl (Nat.le_of_ble_eq_true rfl) dX7_find_6 rfl h (fun r6 τ6 h => ?_)
  refine g_pop (pc := 9) X rfl dX7_find_9 ?_
  refine g_iconst (pc := 10) X ic_0 dX7_find_10 ?_
  refine g_istore_n (pc := 11) (lv' := [(1, .int (0 : Int32)), (0, .ref (a 0))]) X rfl (by decide) rfl dX7_find_11 ?_
  obtain ⟨n12, h⟩ := h
  have X40 : ∀ (ρe40 : Sg), E_X7_find_12 K ρe40 → GMv p l e ({ frames := 3, cells := 0, slots := 0, locals := 70 } : Room) s m args below meth c K 2 D (tyM cI) (wM cI a) A 40 [(0, .ref (a 0))] [] ρe40 := by
    intro ρe40 h
    refine g_aload_n (pc := 40) X rfl 0 rfl dX7_find_40 ?_
    refine g_cVMv (pc := 41) (As := []) X hK hX hok hA mi_X7_findNotes (c_X7_findNotes  ρe40 _) (fun _ => ⟨_, wl_ate (oX7 (cI := cI) (a := a) k_isMod_0).1 ((oX7 (cI := cI) (a := a) k_isMod_0).2 _)⟩) rfl rfl kw4_71 ⟨rfl, rfl⟩ ⟨Nat.le_of_ble_eq_true rfl, Nat.le_of_ble_eq_true rfl⟩ rfl (Nat.le_of_ble_eq_true rfl) dX7_find_41 rfl h (fun τ41 h => ?_)
    exact g_retMv (pc := 44) X hK hr hlk dX7_find_44 h
  have L12 : ∀ (n : Nat) (y1_12 : Int32) (ρ12 : Sg), lq2 (F_X7_find_12 (E_X7_find_12 K)) n y1_12 ρ12 → GMv p l e ({ frames := 3, cells := 0, slots := 0, locals := 70 } : Room) s m args below meth c K 2 D (tyM cI) (wM cI a) A 12 [(0, .ref (a 0)), (1, .int y1_12)] [] ρ12 := by
    intro n
    induction n with
    | zero =>
      intro y1_12 ρ12 h
      exact h.elim
    | succ n ih =>
      intro y1_12 ρ12 h
      have h : F_X7_find_12 (E_X7_find_12 K) (lq2 (F_X7_find_12 (E_X7_find_12 K)) n) y1_12 ρ12 := h
      refine g_iload_n (pc := 12) X rfl 1 rfl dX7_find_12 ?_
      refine g_aload_n (pc := 13) X rfl 0 rfl dX7_find_13 ?_
      refine fX7_101 (pc := 14) X hK hR k_isMod_0 dX7_find_14 ?_
      refine g_icmp_ge (pc := 17) (tgt := 40) X (by decide) dX7_find_17 (fun c_17 => ?_) (fun c_17 => ?_)
      · have h := ite_t c_17 h
        exact g_lv (X40 ρ12 h) [0] rfl
      · have h := ite_f c_17 h
        refine g_aload_n (pc := 20) X rfl 0 rfl dX7_find_20 ?_
        refine fX7_37 (pc := 21) X hK hR k_isMod_0 dX7_find_21 ?_
        refine g_iload_n (pc := 24) X rfl 1 rfl dX7_find_24 ?_
        refine g_aload_n (pc := 25) X rfl 0 rfl dX7_find_25 ?_
        refine fX7_28 (pc := 26) X hK hR k_isMod_0 dX7_find_26 ?_
        refine g_iconst (pc := 29) X ic_4 dX7_find_29 ?_
        refine g_iload_n (pc := 30) X rfl 1 rfl dX7_find_30 ?_
        refine g_imul (pc := 31) X dX7_find_31 ?_
        obtain ⟨h_32, h⟩ := h
        refine aX7_singer (pc := 32) X hK hR k_isMod_0 h_32 dX7_find_32 ?_
        obtain ⟨h_33, h⟩ := h
        refine tX7_places (pc := 33) X hK k_isMod_0 h_33 dX7_find_33 (fun τ33 eτ33 => ?_)
        have h := h τ33 eτ33
        refine g_iinc (pc := 34) (lv' := [(1, .int (y1_12 + (1 : Int32))), (0, .ref (a 0))]) X 1 rfl rfl (by decide) rfl dX7_find_34 ?_
        refine g_goto (pc := 37) (tgt := 12) X (by decide) dX7_find_37 ?_
        exact g_lv (ih (y1_12 + (1 : Int32)) τ33 h) [1, 0] rfl
  exact g_lv (L12 n12 (0 : Int32) τ6 h) [1, 0] rfl
set_option maxRecDepth 20000 in
theorem c_X7_ear (x1 : Int32) (x2 : Int32) (σ : Sg) (K : Int32 → Sg → Prop) : ∀ sz, Met l yX7_ear (.code yX7_ear cX7_ear 3 (some .int) :: AW) ({ frames := 4, cells := 0, slots := 0, locals := 91 } : Room) (pvM D (tyM cI) SXM (wM cI a σ) sz (w_X7_ear x1 x2 σ K) [.ref (a 0), .int x1, .int x2]) (va_Qi K (atM D (tyM cI) (wM cI a) (va_A (wM cI a σ) sz)) (va_A (wM cI a σ) sz)) 0 0 (va_A (wM cI a σ) sz) := by
  intro sz
  refine met_Mi (own := "TrainNoteModel") (lv := [(0, .ref (a 0)), (1, .int x1), (2, .int x2)]) (by decide +kernel) rfl (Nat.le_of_ble_eq_true rfl) rfl ?_
  intro p e s m args below meth c A X hK hX hA hr hlk h
  have hR : ∀ σ H locs, hpM D (wM cI a) A s σ H locs → va_P D vwCl ((wM cI a σ)) H := fun _ _ _ h => h.1
  have hok := SXM_ok
  refine g_aload_n (pc := 0) X rfl 0 rfl dX7_ear_0 ?_
  refine g_cVMv (pc := 1) (As := []) X hK hX hok hA mi_X7_find (c_X7_find  σ _) (fun _ => ⟨_, wl_ate (oX7 (cI := cI) (a := a) k_isMod_0).1 ((oX7 (cI := cI) (a := a) k_isMod_0).2 _)⟩) rfl rfl kw4_67 ⟨rfl, rfl⟩ ⟨Nat.le_of_ble_eq_true rfl, Nat.le_of_ble_eq_true rfl⟩ rfl (Nat.le_of_ble_eq_true rfl) dX7_ear_1 rfl h (fun τ1 h => ?_)
  refine g_aload_n (pc := 4) X rfl 0 rfl dX7_ear_4 ?_
  refine g_iload_n (pc := 5) X rfl 1 rfl dX7_ear_5 ?_
  refine g_cVPi (pc := 6) (As := [.int x1]) X hK hR mi_X7_isSinger (c_X7_isSinger x1 τ1 _) (wl_ate (oX7 (cI := cI) (a := a) k_isMod_0).1 ((oX7 (cI := cI) (a := a) k_isMod_0).2 _)) rfl rfl kw4_39 ⟨rfl, rfl⟩ ⟨Nat.le_of_ble_eq_true rfl, Nat.le_of_ble_eq_true rfl⟩ rfl (Nat.le_of_ble_eq_true rfl) dX7_ear_6 rfl h (fun r6 h => ?_)
  refine g_if_eq (pc := 9) (tgt := 19) X (by decide) dX7_ear_9 (fun c_9 => ?_) (fun c_9 => ?_)
  · have h := ite_t c_9 h
    refine g_bipush (pc := 19) X bp_m2 dX7_ear_19 ?_
    refine g_goto (pc := 21) (tgt := 43) X (by decide) dX7_ear_21 ?_
    exact g_retMi (pc := 43) X hK hr hlk dX7_ear_43 h
  · have h := ite_f c_9 h
    refine g_iload_n (pc := 12) X rfl 2 rfl dX7_ear_12 ?_
    refine g_cS0i (pc := 13) (As := [.int x2]) X mi_X7_isTwo (c_X7_isTwo x2 _) kw4_6 ⟨rfl, rfl⟩ ⟨Nat.le_of_ble_eq_true rfl, Nat.le_of_ble_eq_true rfl⟩ rfl (Nat.le_of_ble_eq_true rfl) dX7_ear_13 rfl h (fun r13 h => ?_)
    refine g_if_ne (pc := 16) (tgt := 24) X (by decide) dX7_ear_16 (fun c_16 => ?_) (fun c_16 => ?_)
    · have h := ite_f c_16 h
      refine g_iload_n (pc := 24) X rfl 2 rfl dX7_ear_24 ?_
      refine g_if_ne (pc := 25) (tgt := 37) X (by decide) dX7_ear_25 (fun c_25 => ?_) (fun c_25 => ?_)
      · have h := ite_f c_25 h
        refine g_aload_n (pc := 37) X rfl 0 rfl dX7_ear_37 ?_
        refine fX7_43 (pc := 38) X hK hR k_isMod_0 dX7_ear_38 ?_
        refine g_iload_n (pc := 41) X rfl 1 rfl dX7_ear_41 ?_
        obtain ⟨h_42, h⟩ := h
        refine aX7_by (pc := 42) X hK hR k_isMod_0 h_42 dX7_ear_42 ?_
        exact g_retMi (pc := 43) X hK hr hlk dX7_ear_43 h
      · have h := ite_t c_25 h
        refine g_aload_n (pc := 28) X rfl 0 rfl dX7_ear_28 ?_
        refine fX7_40 (pc := 29) X hK hR k_isMod_0 dX7_ear_29 ?_
        refine g_iload_n (pc := 32) X rfl 1 rfl dX7_ear_32 ?_
        obtain ⟨h_33, h⟩ := h
        refine aX7_near (pc := 33) X hK hR k_isMod_0 h_33 dX7_ear_33 ?_
        refine g_goto (pc := 34) (tgt := 43) X (by decide) dX7_ear_34 ?_
        exact g_retMi (pc := 43) X hK hr hlk dX7_ear_43 h
    · have h := ite_t c_16 h
      refine g_bipush (pc := 19) X bp_m2 dX7_ear_19 ?_
      refine g_goto (pc := 21) (tgt := 43) X (by decide) dX7_ear_21 ?_
      exact g_retMi (pc := 43) X hK hr hlk dX7_ear_43 h
set_option maxRecDepth 20000 in
theorem c_X7_noteIn (x1 : Int32) (x2 : Int32) (σ : Sg) (K : Int32 → Prop) : Met l yX7_noteIn (.code yX7_noteIn cX7_noteIn 5 (some .int) :: AW) ({ frames := 0, cells := 0, slots := 0, locals := 0 } : Room) (pvP D (tyM cI) (wM cI a σ) (w_X7_noteIn x1 x2 σ K) [.ref (a 0), .int x1, .int x2]) (vp_Si K) 0 0 (fun _ => False) := by
  refine met_Pi (own := "TrainNoteModel") (lv := [(0, .ref (a 0)), (1, .int x1), (2, .int x2)]) (by decide +kernel) rfl (Nat.le_of_ble_eq_true rfl) rfl ?_
  intro p e s m args below meth c X hK hr hlk h
  have hR : ∀ σ H locs, hpP D (wM cI a) s σ H locs → va_P D vwCl ((wM cI a σ)) H := fun _ _ _ h => h.1
  refine g_aload_n (pc := 0) X rfl 0 rfl dX7_noteIn_0 ?_
  refine fX7_46 (pc := 1) X hK hR k_isMod_0 dX7_noteIn_1 ?_
  refine g_iload_n (pc := 4) X rfl 1 rfl dX7_noteIn_4 ?_
  obtain ⟨h_5, h⟩ := h
  refine aX7_first (pc := 5) X hK hR k_isMod_0 h_5 dX7_noteIn_5 ?_
  refine g_topi (fun x3_6 ex3_6 => ?_)
  have h := h x3_6 ex3_6
  refine g_istore_n (pc := 6) (lv' := [(3, .int x3_6), (0, .ref (a 0)), (1, .int x1), (2, .int x2)]) X rfl (by decide) rfl dX7_noteIn_6 ?_
  refine g_iconst (pc := 7) X ic_0 dX7_noteIn_7 ?_
  refine g_istore (pc := 8) (lv' := [(4, .int (0 : Int32)), (3, .int x3_6), (0, .ref (a 0)), (1, .int x1), (2, .int x2)]) X (by decide) rfl dX7_noteIn_8 ?_
  obtain ⟨n10, h⟩ := h
  have X72 : ∀ (u3_72 : Int32), E_X7_noteIn_10 x2 σ x1 K u3_72 → GPi p l e ({ frames := 0, cells := 0, slots := 0, locals := 0 } : Room) s m args below meth c K 5 D (wM cI a) 72 [(0, .ref (a 0)), (1, .int x1), (2, .int x2), (3, .int u3_72)] [] σ := by
    intro u3_72 h
    refine g_aload_n (pc := 72) X rfl 0 rfl dX7_noteIn_72 ?_
    refine fX7_31 (pc := 73) X hK hR k_isMod_0 dX7_noteIn_73 ?_
    refine g_iload_n (pc := 76) X rfl 2 rfl dX7_noteIn_76 ?_
    obtain ⟨h_77, h⟩ := h
    refine aX7_bar (pc := 77) X hK hR k_isMod_0 h_77 dX7_noteIn_77 ?_
    refine g_iconst (pc := 78) X ic_2 dX7_noteIn_78 ?_
    refine g_icmp_ne (pc := 79) (tgt := 91) X (by decide) dX7_noteIn_79 (fun c_79 => ?_) (fun c_79 => ?_)
    · have h := ite_f c_79 h
      refine g_iload_n (pc := 91) X rfl 3 rfl dX7_noteIn_91 ?_
      exact g_retPi (pc := 92) X hr hlk dX7_noteIn_92 h
    · have h := ite_t c_79 h
      refine g_aload_n (pc := 82) X rfl 0 rfl dX7_noteIn_82 ?_
      refine fX7_46 (pc := 83) X hK hR k_isMod_0 dX7_noteIn_83 ?_
      refine g_iload_n (pc := 86) X rfl 1 rfl dX7_noteIn_86 ?_
      obtain ⟨h_87, h⟩ := h
      refine aX7_first (pc := 87) X hK hR k_isMod_0 h_87 dX7_noteIn_87 ?_
      refine g_goto (pc := 88) (tgt := 92) X (by decide) dX7_noteIn_88 ?_
      exact g_retPi (pc := 92) X hr hlk dX7_noteIn_92 h
  have L10 : ∀ (n : Nat) (y3_10 : Int32) (y4_10 : Int32), lq2 (F_X7_noteIn_10 x2 σ x1 (E_X7_noteIn_10 x2 σ x1 K)) n y3_10 y4_10 → GPi p l e ({ frames := 0, cells := 0, slots := 0, locals := 0 } : Room) s m args below meth c K 5 D (wM cI a) 10 [(0, .ref (a 0)), (1, .int x1), (2, .int x2), (3, .int y3_10), (4, .int y4_10)] [] σ := by
    intro n
    induction n with
    | zero =>
      intro y3_10 y4_10 h
      exact h.elim
    | succ n ih =>
      intro y3_10 y4_10 h
      have h : F_X7_noteIn_10 x2 σ x1 (E_X7_noteIn_10 x2 σ x1 K) (lq2 (F_X7_noteIn_10 x2 σ x1 (E_X7_noteIn_10 x2 σ x1 K)) n) y3_10 y4_10 := h
      generalize lq2 (F_X7_noteIn_10 x2 σ x1 (E_X7_noteIn_10 x2 σ x1 K)) n = rec10 at h ih
      refine g_iload (pc := 10) X 4 rfl dX7_noteIn_10 ?_
      refine g_iload_n (pc := 12) X rfl 2 rfl dX7_noteIn_12 ?_
      refine g_icmp_ge (pc := 13) (tgt := 72) X (by decide) dX7_noteIn_13 (fun c_13 => ?_) (fun c_13 => ?_)
      · have h := ite_t c_13 h
        exact g_lv (X72 y3_10 h) [0, 1, 2, 3] rfl
      · have h := ite_f c_13 h
        refine g_aload_n (pc := 16) X rfl 0 rfl dX7_noteIn_16 ?_
        refine fX7_31 (pc := 17) X hK hR k_isMod_0 dX7_noteIn_17 ?_
        refine g_iload (pc := 20) X 4 rfl dX7_noteIn_20 ?_
        obtain ⟨h_22, h⟩ := h
        refine aX7_bar (pc := 22) X hK hR k_isMod_0 h_22 dX7_noteIn_22 ?_
        refine g_iconst (pc := 23) X ic_2 dX7_noteIn_23 ?_
        have J37 : ∀ (v0_37 : Int32), J_X7_noteIn_37 y4_10 σ x1 rec10 v0_37 → GPi p l e ({ frames := 0, cells := 0, slots := 0, locals := 0 } : Room) s m args below meth c K 5 D (wM cI a) 37 [(0, .ref (a 0)), (1, .int x1), (2, .int x2), (4, .int y4_10)] [.int v0_37] σ := by
          intro v0_37 h
          refine g_istore_n (pc := 37) (lv' := [(3, .int v0_37), (0, .ref (a 0)), (1, .int x1), (2, .int x2), (4, .int y4_10)]) X rfl (by decide) rfl dX7_noteIn_37 ?_
          refine g_iload_n (pc := 38) X rfl 0 rfl dX7_noteIn_38 ?_
          refine g_aload_n (pc := 39) X rfl 1 rfl dX7_noteIn_39 ?_
          refine fX7_31 (pc := 40) X hK hR k_isMod_0 dX7_noteIn_40 ?_
          refine g_iload (pc := 43) X 4 rfl dX7_noteIn_43 ?_
          obtain ⟨h_45, h⟩ := h
          refine aX7_bar (pc := 45) X hK hR k_isMod_0 h_45 dX7_noteIn_45 ?_
          refine g_iconst (pc := 46) X ic_1 dX7_noteIn_46 ?_
          refine g_icmp_ne (pc := 47) (tgt := 63) X (by decide) dX7_noteIn_47 (fun c_47 => ?_) (fun c_47 => ?_)
          · have h := ite_f c_47 h
            refine g_iconst (pc := 63) X ic_0 dX7_noteIn_63 ?_
            refine g_isub (pc := 64) X dX7_noteIn_64 ?_
            refine g_istore_n (pc := 65) (lv' := [(3, .int (v0_37 - (0 : Int32))), (0, .ref (a 0)), (1, .int x1), (2, .int x2), (4, .int y4_10)]) X rfl (by decide) rfl dX7_noteIn_65 ?_
            refine g_iinc (pc := 66) (lv' := [(4, .int (y4_10 + (1 : Int32))), (3, .int (v0_37 - (0 : Int32))), (0, .ref (a 0)), (1, .int x1), (2, .int x2)]) X 4 rfl rfl (by decide) rfl dX7_noteIn_66 ?_
            refine g_goto (pc := 69) (tgt := 10) X (by decide) dX7_noteIn_69 ?_
            exact g_lv (ih (v0_37 - (0 : Int32)) (y4_10 + (1 : Int32)) h) [2, 3, 4, 1, 0] rfl
          · have h := ite_t c_47 h
            refine g_aload_n (pc := 50) X rfl 1 rfl dX7_noteIn_50 ?_
            refine fX7_28 (pc := 51) X hK hR k_isMod_0 dX7_noteIn_51 ?_
            refine g_iconst (pc := 54) X ic_4 dX7_noteIn_54 ?_
            refine g_iload_n (pc := 55) X rfl 2 rfl dX7_noteIn_55 ?_
            refine g_imul (pc := 56) X dX7_noteIn_56 ?_
            refine g_iconst (pc := 57) X ic_2 dX7_noteIn_57 ?_
            refine g_iadd (pc := 58) X dX7_noteIn_58 ?_
            obtain ⟨h_59, h⟩ := h
            refine aX7_singer (pc := 59) X hK hR k_isMod_0 h_59 dX7_noteIn_59 ?_
            refine g_goto (pc := 60) (tgt := 64) X (by decide) dX7_noteIn_60 ?_
            refine g_isub (pc := 64) X dX7_noteIn_64 ?_
            refine g_topi (fun x3_65 ex3_65 => ?_)
            have h := h x3_65 ex3_65
            refine g_istore_n (pc := 65) (lv' := [(3, .int x3_65), (0, .ref (a 0)), (1, .int x1), (2, .int x2), (4, .int y4_10)]) X rfl (by decide) rfl dX7_noteIn_65 ?_
            refine g_iinc (pc := 66) (lv' := [(4, .int (y4_10 + (1 : Int32))), (3, .int x3_65), (0, .ref (a 0)), (1, .int x1), (2, .int x2)]) X 4 rfl rfl (by decide) rfl dX7_noteIn_66 ?_
            refine g_goto (pc := 69) (tgt := 10) X (by decide) dX7_noteIn_69 ?_
            exact g_lv (ih x3_65 (y4_10 + (1 : Int32)) h) [2, 3, 4, 1, 0] rfl
        refine g_icmp_ne (pc := 24) (tgt := 36) X (by decide) dX7_noteIn_24 (fun c_24 => ?_) (fun c_24 => ?_)
        · have h := ite_f c_24 h
          refine g_iload_n (pc := 36) X rfl 3 rfl dX7_noteIn_36 ?_
          exact g_lv (J37 y3_10 h) [0, 1, 2, 4] rfl
        · have h := ite_t c_24 h
          refine g_aload_n (pc := 27) X rfl 0 rfl dX7_noteIn_27 ?_
          refine fX7_46 (pc := 28) X hK hR k_isMod_0 dX7_noteIn_28 ?_
          refine g_iload_n (pc := 31) X rfl 1 rfl dX7_noteIn_31 ?_
          obtain ⟨h_32, h⟩ := h
          refine aX7_first (pc := 32) X hK hR k_isMod_0 h_32 dX7_noteIn_32 ?_
          refine g_goto (pc := 33) (tgt := 37) X (by decide) dX7_noteIn_33 ?_
          exact g_lv (J37 (σ 13 (x1).toNatClampNeg) h) [0, 1, 2, 4] rfl
  exact g_lv (L10 n10 x3_6 (0 : Int32) h) [2, 3, 4, 1, 0] rfl
set_option maxRecDepth 20000 in
theorem c_X7_noteOr (x1 : Int32) (x2 : Int32) (σ : Sg) (K : Int32 → Prop) : Met l yX7_noteOr (.code yX7_noteOr cX7_noteOr 3 (some .int) :: AW) ({ frames := 1, cells := 0, slots := 0, locals := 24 } : Room) (pvP D (tyM cI) (wM cI a σ) (w_X7_noteOr x1 x2 σ K) [.ref (a 0), .int x1, .int x2]) (vp_Si K) 0 0 (fun _ => False) := by
  refine met_Pi (own := "TrainNoteModel") (lv := [(0, .ref (a 0)), (1, .int x1), (2, .int x2)]) (by decide +kernel) rfl (Nat.le_of_ble_eq_true rfl) rfl ?_
  intro p e s m args below meth c X hK hr hlk h
  have hR : ∀ σ H locs, hpP D (wM cI a) s σ H locs → va_P D vwCl ((wM cI a σ)) H := fun _ _ _ h => h.1
  refine g_aload_n (pc := 0) X rfl 0 rfl dX7_noteOr_0 ?_
  refine fX7_43 (pc := 1) X hK hR k_isMod_0 dX7_noteOr_1 ?_
  refine g_iload_n (pc := 4) X rfl 1 rfl dX7_noteOr_4 ?_
  obtain ⟨h_5, h⟩ := h
  refine aX7_by (pc := 5) X hK hR k_isMod_0 h_5 dX7_noteOr_5 ?_
  refine g_iconst (pc := 6) X ic_m1 dX7_noteOr_6 ?_
  refine g_icmp_ne (pc := 7) (tgt := 16) X (by decide) dX7_noteOr_7 (fun c_7 => ?_) (fun c_7 => ?_)
  · have h := ite_f c_7 h
    refine g_aload_n (pc := 16) X rfl 0 rfl dX7_noteOr_16 ?_
    refine g_iload_n (pc := 17) X rfl 1 rfl dX7_noteOr_17 ?_
    refine g_iload_n (pc := 18) X rfl 2 rfl dX7_noteOr_18 ?_
    refine g_cVPi (pc := 19) (As := [.int x1, .int x2]) X hK hR mi_X7_noteIn (c_X7_noteIn x1 x2 σ _) (wl_ate (oX7 (cI := cI) (a := a) k_isMod_0).1 ((oX7 (cI := cI) (a := a) k_isMod_0).2 _)) rfl rfl kw4_102 ⟨rfl, rfl⟩ ⟨Nat.le_of_ble_eq_true rfl, Nat.le_of_ble_eq_true rfl⟩ rfl (Nat.le_of_ble_eq_true rfl) dX7_noteOr_19 rfl h (fun r19 h => ?_)
    exact g_retPi (pc := 22) X hr hlk dX7_noteOr_22 h
  · have h := ite_t c_7 h
    refine g_sipush (pc := 10) X sp_m10000 dX7_noteOr_10 ?_
    refine g_goto (pc := 13) (tgt := 22) X (by decide) dX7_noteOr_13 ?_
    exact g_retPi (pc := 22) X hr hlk dX7_noteOr_22 h
set_option maxRecDepth 20000 in
theorem c_X7_note (x1 : Int32) (x2 : Int32) (σ : Sg) (K : Int32 → Sg → Prop) : ∀ sz, Met l yX7_note (.code yX7_note cX7_note 3 (some .int) :: AW) ({ frames := 4, cells := 0, slots := 0, locals := 91 } : Room) (pvM D (tyM cI) SXM (wM cI a σ) sz (w_X7_note x1 x2 σ K) [.ref (a 0), .int x1, .int x2]) (va_Qi K (atM D (tyM cI) (wM cI a) (va_A (wM cI a σ) sz)) (va_A (wM cI a σ) sz)) 0 0 (va_A (wM cI a σ) sz) := by
  intro sz
  refine met_Mi (own := "TrainNoteModel") (lv := [(0, .ref (a 0)), (1, .int x1), (2, .int x2)]) (by decide +kernel) rfl (Nat.le_of_ble_eq_true rfl) rfl ?_
  intro p e s m args below meth c A X hK hX hA hr hlk h
  have hR : ∀ σ H locs, hpM D (wM cI a) A s σ H locs → va_P D vwCl ((wM cI a σ)) H := fun _ _ _ h => h.1
  have hok := SXM_ok
  refine g_aload_n (pc := 0) X rfl 0 rfl dX7_note_0 ?_
  refine g_cVMv (pc := 1) (As := []) X hK hX hok hA mi_X7_find (c_X7_find  σ _) (fun _ => ⟨_, wl_ate (oX7 (cI := cI) (a := a) k_isMod_0).1 ((oX7 (cI := cI) (a := a) k_isMod_0).2 _)⟩) rfl rfl kw4_67 ⟨rfl, rfl⟩ ⟨Nat.le_of_ble_eq_true rfl, Nat.le_of_ble_eq_true rfl⟩ rfl (Nat.le_of_ble_eq_true rfl) dX7_note_1 rfl h (fun τ1 h => ?_)
  refine g_aload_n (pc := 4) X rfl 0 rfl dX7_note_4 ?_
  refine g_iload_n (pc := 5) X rfl 1 rfl dX7_note_5 ?_
  refine g_cVPi (pc := 6) (As := [.int x1]) X hK hR mi_X7_isSinger (c_X7_isSinger x1 τ1 _) (wl_ate (oX7 (cI := cI) (a := a) k_isMod_0).1 ((oX7 (cI := cI) (a := a) k_isMod_0).2 _)) rfl rfl kw4_39 ⟨rfl, rfl⟩ ⟨Nat.le_of_ble_eq_true rfl, Nat.le_of_ble_eq_true rfl⟩ rfl (Nat.le_of_ble_eq_true rfl) dX7_note_6 rfl h (fun r6 h => ?_)
  refine g_if_eq (pc := 9) (tgt := 29) X (by decide) dX7_note_9 (fun c_9 => ?_) (fun c_9 => ?_)
  · have h := ite_t c_9 h
    refine g_sipush (pc := 29) X sp_m10002 dX7_note_29 ?_
    exact g_retMi (pc := 32) X hK hr hlk dX7_note_32 h
  · have h := ite_f c_9 h
    refine g_aload_n (pc := 12) X rfl 0 rfl dX7_note_12 ?_
    refine g_iload_n (pc := 13) X rfl 2 rfl dX7_note_13 ?_
    refine g_cVPi (pc := 14) (As := [.int x2]) X hK hR mi_X7_isBar (c_X7_isBar x2 τ1 _) (wl_ate (oX7 (cI := cI) (a := a) k_isMod_0).1 ((oX7 (cI := cI) (a := a) k_isMod_0).2 _)) rfl rfl kw4_94 ⟨rfl, rfl⟩ ⟨Nat.le_of_ble_eq_true rfl, Nat.le_of_ble_eq_true rfl⟩ rfl (Nat.le_of_ble_eq_true rfl) dX7_note_14 rfl h (fun r14 h => ?_)
    refine g_if_eq (pc := 17) (tgt := 29) X (by decide) dX7_note_17 (fun c_17 => ?_) (fun c_17 => ?_)
    · have h := ite_t c_17 h
      refine g_sipush (pc := 29) X sp_m10002 dX7_note_29 ?_
      exact g_retMi (pc := 32) X hK hr hlk dX7_note_32 h
    · have h := ite_f c_17 h
      refine g_aload_n (pc := 20) X rfl 0 rfl dX7_note_20 ?_
      refine g_iload_n (pc := 21) X rfl 1 rfl dX7_note_21 ?_
      refine g_iload_n (pc := 22) X rfl 2 rfl dX7_note_22 ?_
      refine g_cVPi (pc := 23) (As := [.int x1, .int x2]) X hK hR mi_X7_noteOr (c_X7_noteOr x1 x2 τ1 _) (wl_ate (oX7 (cI := cI) (a := a) k_isMod_0).1 ((oX7 (cI := cI) (a := a) k_isMod_0).2 _)) rfl rfl kw4_98 ⟨rfl, rfl⟩ ⟨Nat.le_of_ble_eq_true rfl, Nat.le_of_ble_eq_true rfl⟩ rfl (Nat.le_of_ble_eq_true rfl) dX7_note_23 rfl h (fun r23 h => ?_)
      refine g_goto (pc := 26) (tgt := 32) X (by decide) dX7_note_26 ?_
      exact g_retMi (pc := 32) X hK hr hlk dX7_note_32 h
set_option maxRecDepth 20000 in
theorem c_X7_away (x1 : Int32) (x2 : Int32) (σ : Sg) (K : Int32 → Sg → Prop) : ∀ sz, Met l yX7_away (.code yX7_away cX7_away 3 (some .int) :: AW) ({ frames := 4, cells := 0, slots := 0, locals := 91 } : Room) (pvM D (tyM cI) SXM (wM cI a σ) sz (w_X7_away x1 x2 σ K) [.ref (a 0), .int x1, .int x2]) (va_Qi K (atM D (tyM cI) (wM cI a) (va_A (wM cI a σ) sz)) (va_A (wM cI a σ) sz)) 0 0 (va_A (wM cI a σ) sz) := by
  intro sz
  refine met_Mi (own := "TrainNoteModel") (lv := [(0, .ref (a 0)), (1, .int x1), (2, .int x2)]) (by decide +kernel) rfl (Nat.le_of_ble_eq_true rfl) rfl ?_
  intro p e s m args below meth c A X hK hX hA hr hlk h
  have hR : ∀ σ H locs, hpM D (wM cI a) A s σ H locs → va_P D vwCl ((wM cI a σ)) H := fun _ _ _ h => h.1
  have hok := SXM_ok
  refine g_aload_n (pc := 0) X rfl 0 rfl dX7_away_0 ?_
  refine g_cVMv (pc := 1) (As := []) X hK hX hok hA mi_X7_find (c_X7_find  σ _) (fun _ => ⟨_, wl_ate (oX7 (cI := cI) (a := a) k_isMod_0).1 ((oX7 (cI := cI) (a := a) k_isMod_0).2 _)⟩) rfl rfl kw4_67 ⟨rfl, rfl⟩ ⟨Nat.le_of_ble_eq_true rfl, Nat.le_of_ble_eq_true rfl⟩ rfl (Nat.le_of_ble_eq_true rfl) dX7_away_1 rfl h (fun τ1 h => ?_)
  refine g_aload_n (pc := 4) X rfl 0 rfl dX7_away_4 ?_
  refine g_iload_n (pc := 5) X rfl 1 rfl dX7_away_5 ?_
  refine g_cVPi (pc := 6) (As := [.int x1]) X hK hR mi_X7_isSinger (c_X7_isSinger x1 τ1 _) (wl_ate (oX7 (cI := cI) (a := a) k_isMod_0).1 ((oX7 (cI := cI) (a := a) k_isMod_0).2 _)) rfl rfl kw4_39 ⟨rfl, rfl⟩ ⟨Nat.le_of_ble_eq_true rfl, Nat.le_of_ble_eq_true rfl⟩ rfl (Nat.le_of_ble_eq_true rfl) dX7_away_6 rfl h (fun r6 h => ?_)
  refine g_if_eq (pc := 9) (tgt := 20) X (by decide) dX7_away_9 (fun c_9 => ?_) (fun c_9 => ?_)
  · have h := ite_t c_9 h
    refine g_sipush (pc := 20) X sp_m10002 dX7_away_20 ?_
    refine g_goto (pc := 23) (tgt := 52) X (by decide) dX7_away_23 ?_
    exact g_retMi (pc := 52) X hK hr hlk dX7_away_52 h
  · have h := ite_f c_9 h
    refine g_aload_n (pc := 12) X rfl 0 rfl dX7_away_12 ?_
    refine g_iload_n (pc := 13) X rfl 2 rfl dX7_away_13 ?_
    refine g_cVPi (pc := 14) (As := [.int x2]) X hK hR mi_X7_isBar (c_X7_isBar x2 τ1 _) (wl_ate (oX7 (cI := cI) (a := a) k_isMod_0).1 ((oX7 (cI := cI) (a := a) k_isMod_0).2 _)) rfl rfl kw4_94 ⟨rfl, rfl⟩ ⟨Nat.le_of_ble_eq_true rfl, Nat.le_of_ble_eq_true rfl⟩ rfl (Nat.le_of_ble_eq_true rfl) dX7_away_14 rfl h (fun r14 h => ?_)
    refine g_if_ne (pc := 17) (tgt := 26) X (by decide) dX7_away_17 (fun c_17 => ?_) (fun c_17 => ?_)
    · have h := ite_f c_17 h
      refine g_aload_n (pc := 26) X rfl 0 rfl dX7_away_26 ?_
      refine fX7_43 (pc := 27) X hK hR k_isMod_0 dX7_away_27 ?_
      refine g_iload_n (pc := 30) X rfl 1 rfl dX7_away_30 ?_
      obtain ⟨h_31, h⟩ := h
      refine aX7_by (pc := 31) X hK hR k_isMod_0 h_31 dX7_away_31 ?_
      refine g_iconst (pc := 32) X ic_m1 dX7_away_32 ?_
      refine g_icmp_ne (pc := 33) (tgt := 42) X (by decide) dX7_away_33 (fun c_33 => ?_) (fun c_33 => ?_)
      · have h := ite_f c_33 h
        refine g_aload_n (pc := 42) X rfl 0 rfl dX7_away_42 ?_
        refine g_iload_n (pc := 43) X rfl 1 rfl dX7_away_43 ?_
        refine g_iload_n (pc := 44) X rfl 2 rfl dX7_away_44 ?_
        refine g_cVPi (pc := 45) (As := [.int x1, .int x2]) X hK hR mi_X7_noteIn (c_X7_noteIn x1 x2 τ1 _) (wl_ate (oX7 (cI := cI) (a := a) k_isMod_0).1 ((oX7 (cI := cI) (a := a) k_isMod_0).2 _)) rfl rfl kw4_102 ⟨rfl, rfl⟩ ⟨Nat.le_of_ble_eq_true rfl, Nat.le_of_ble_eq_true rfl⟩ rfl (Nat.le_of_ble_eq_true rfl) dX7_away_45 rfl h (fun r45 h => ?_)
        refine g_sipush (pc := 48) X sp_1000 dX7_away_48 ?_
        refine g_isub (pc := 51) X dX7_away_51 ?_
        exact g_retMi (pc := 52) X hK hr hlk dX7_away_52 h
      · have h := ite_t c_33 h
        refine g_sipush (pc := 36) X sp_m10000 dX7_away_36 ?_
        refine g_goto (pc := 39) (tgt := 52) X (by decide) dX7_away_39 ?_
        exact g_retMi (pc := 52) X hK hr hlk dX7_away_52 h
    · have h := ite_t c_17 h
      refine g_sipush (pc := 20) X sp_m10002 dX7_away_20 ?_
      refine g_goto (pc := 23) (tgt := 52) X (by decide) dX7_away_23 ?_
      exact g_retMi (pc := 52) X hK hr hlk dX7_away_52 h
set_option maxRecDepth 20000 in
theorem c_X7_spreadOf (x1 : Int32) (x2 : Int32) (σ : Sg) (K : Int32 → Prop) : Met l yX7_spreadOf (.code yX7_spreadOf cX7_spreadOf 8 (some .int) :: AW) ({ frames := 1, cells := 0, slots := 0, locals := 24 } : Room) (pvP D (tyM cI) (wM cI a σ) (w_X7_spreadOf x1 x2 σ K) [.ref (a 0), .int x1, .int x2]) (vp_Si K) 0 0 (fun _ => False) := by
  refine met_Pi (own := "TrainNoteModel") (lv := [(0, .ref (a 0)), (1, .int x1), (2, .int x2)]) (by decide +kernel) rfl (Nat.le_of_ble_eq_true rfl) rfl ?_
  intro p e s m args below meth c X hK hr hlk h
  have hR : ∀ σ H locs, hpP D (wM cI a) s σ H locs → va_P D vwCl ((wM cI a σ)) H := fun _ _ _ h => h.1
  refine g_iconst (pc := 0) X ic_0 dX7_spreadOf_0 ?_
  refine g_istore_n (pc := 1) (lv' := [(3, .int (0 : Int32)), (0, .ref (a 0)), (1, .int x1), (2, .int x2)]) X rfl (by decide) rfl dX7_spreadOf_1 ?_
  refine g_iconst (pc := 2) X ic_0 dX7_spreadOf_2 ?_
  refine g_istore (pc := 3) (lv' := [(4, .int (0 : Int32)), (3, .int (0 : Int32)), (0, .ref (a 0)), (1, .int x1), (2, .int x2)]) X (by decide) rfl dX7_spreadOf_3 ?_
  refine g_iconst (pc := 5) X ic_0 dX7_spreadOf_5 ?_
  refine g_istore (pc := 6) (lv' := [(5, .int (0 : Int32)), (4, .int (0 : Int32)), (3, .int (0 : Int32)), (0, .ref (a 0)), (1, .int x1), (2, .int x2)]) X (by decide) rfl dX7_spreadOf_6 ?_
  refine g_iconst (pc := 8) X ic_0 dX7_spreadOf_8 ?_
  refine g_istore (pc := 9) (lv' := [(6, .int (0 : Int32)), (5, .int (0 : Int32)), (4, .int (0 : Int32)), (3, .int (0 : Int32)), (0, .ref (a 0)), (1, .int x1), (2, .int x2)]) X (by decide) rfl dX7_spreadOf_9 ?_
  obtain ⟨n11, h⟩ := h
  have X94 : ∀ (u3_94 : Int32) (u4_94 : Int32), E_X7_spreadOf_11 K u3_94 u4_94 → GPi p l e ({ frames := 1, cells := 0, slots := 0, locals := 24 } : Room) s m args below meth c K 8 D (wM cI a) 94 [(3, .int u3_94), (4, .int u4_94)] [] σ := by
    intro u3_94 u4_94 h
    refine g_iload (pc := 94) X 1 rfl dX7_spreadOf_94 ?_
    refine g_iload_n (pc := 96) X rfl 0 rfl dX7_spreadOf_96 ?_
    refine g_isub (pc := 97) X dX7_spreadOf_97 ?_
    exact g_retPi (pc := 98) X hr hlk dX7_spreadOf_98 h
  have L11 : ∀ (n : Nat) (y3_11 : Int32) (y4_11 : Int32) (y5_11 : Int32) (y6_11 : Int32), lq4 (F_X7_spreadOf_11 σ x2 x1 (E_X7_spreadOf_11 K)) n y3_11 y4_11 y5_11 y6_11 → GPi p l e ({ frames := 1, cells := 0, slots := 0, locals := 24 } : Room) s m args below meth c K 8 D (wM cI a) 11 [(0, .ref (a 0)), (1, .int x1), (2, .int x2), (3, .int y3_11), (4, .int y4_11), (5, .int y5_11), (6, .int y6_11)] [] σ := by
    intro n
    induction n with
    | zero =>
      intro y3_11 y4_11 y5_11 y6_11 h
      exact h.elim
    | succ n ih =>
      intro y3_11 y4_11 y5_11 y6_11 h
      have h : F_X7_spreadOf_11 σ x2 x1 (E_X7_spreadOf_11 K) (lq4 (F_X7_spreadOf_11 σ x2 x1 (E_X7_spreadOf_11 K)) n) y3_11 y4_11 y5_11 y6_11 := h
      generalize lq4 (F_X7_spreadOf_11 σ x2 x1 (E_X7_spreadOf_11 K)) n = rec11 at h ih
      refine g_iload (pc := 11) X 6 rfl dX7_spreadOf_11 ?_
      refine g_aload_n (pc := 13) X rfl 0 rfl dX7_spreadOf_13 ?_
      refine fX7_101 (pc := 14) X hK hR k_isMod_0 dX7_spreadOf_14 ?_
      refine g_icmp_ge (pc := 17) (tgt := 94) X (by decide) dX7_spreadOf_17 (fun c_17 => ?_) (fun c_17 => ?_)
      · have h := ite_t c_17 h
        exact g_lv (X94 y3_11 y4_11 h) [3, 4] rfl
      · have h := ite_f c_17 h
        refine g_aload_n (pc := 20) X rfl 0 rfl dX7_spreadOf_20 ?_
        refine fX7_43 (pc := 21) X hK hR k_isMod_0 dX7_spreadOf_21 ?_
        refine g_iload (pc := 24) X 6 rfl dX7_spreadOf_24 ?_
        obtain ⟨h_26, h⟩ := h
        refine aX7_by (pc := 26) X hK hR k_isMod_0 h_26 dX7_spreadOf_26 ?_
        refine g_iconst (pc := 27) X ic_m1 dX7_spreadOf_27 ?_
        refine g_icmp_eq (pc := 28) (tgt := 88) X (by decide) dX7_spreadOf_28 (fun c_28 => ?_) (fun c_28 => ?_)
        · have h := ite_t c_28 h
          refine g_iinc (pc := 88) (lv' := [(6, .int (y6_11 + (1 : Int32))), (0, .ref (a 0)), (1, .int x1), (2, .int x2), (3, .int y3_11), (4, .int y4_11), (5, .int y5_11)]) X 6 rfl rfl (by decide) rfl dX7_spreadOf_88 ?_
          refine g_goto (pc := 91) (tgt := 11) X (by decide) dX7_spreadOf_91 ?_
          exact g_lv (ih y3_11 y4_11 y5_11 (y6_11 + (1 : Int32)) h) [1, 2, 3, 4, 5, 6, 0] rfl
        · have h := ite_f c_28 h
          refine g_iload_n (pc := 31) X rfl 2 rfl dX7_spreadOf_31 ?_
          refine g_iload (pc := 32) X 6 rfl dX7_spreadOf_32 ?_
          refine g_cS0i (pc := 34) (As := [.int x2, .int y6_11]) X mi_X7_isIn (c_X7_isIn x2 y6_11 _) kw4_122 ⟨rfl, rfl⟩ ⟨Nat.le_of_ble_eq_true rfl, Nat.le_of_ble_eq_true rfl⟩ rfl (Nat.le_of_ble_eq_true rfl) dX7_spreadOf_34 rfl h (fun r34 h => ?_)
          refine g_if_ne (pc := 37) (tgt := 88) X (by decide) dX7_spreadOf_37 (fun c_37 => ?_) (fun c_37 => ?_)
          · have h := ite_f c_37 h
            refine g_iinc (pc := 88) (lv' := [(6, .int (y6_11 + (1 : Int32))), (0, .ref (a 0)), (1, .int x1), (2, .int x2), (3, .int y3_11), (4, .int y4_11), (5, .int y5_11)]) X 6 rfl rfl (by decide) rfl dX7_spreadOf_88 ?_
            refine g_goto (pc := 91) (tgt := 11) X (by decide) dX7_spreadOf_91 ?_
            exact g_lv (ih y3_11 y4_11 y5_11 (y6_11 + (1 : Int32)) h) [1, 2, 3, 4, 5, 6, 0] rfl
          · have h := ite_t c_37 h
            refine g_aload_n (pc := 40) X rfl 0 rfl dX7_spreadOf_40 ?_
            refine g_iload (pc := 41) X 6 rfl dX7_spreadOf_41 ?_
            refine g_iload_n (pc := 43) X rfl 1 rfl dX7_spreadOf_43 ?_
            refine g_cVPi (pc := 44) (As := [.int y6_11, .int x1]) X hK hR mi_X7_noteIn (c_X7_noteIn y6_11 x1 σ _) (wl_ate (oX7 (cI := cI) (a := a) k_isMod_0).1 ((oX7 (cI := cI) (a := a) k_isMod_0).2 _)) rfl rfl kw4_102 ⟨rfl, rfl⟩ ⟨Nat.le_of_ble_eq_true rfl, Nat.le_of_ble_eq_true rfl⟩ rfl (Nat.le_of_ble_eq_true rfl) dX7_spreadOf_44 rfl h (fun r44 h => ?_)
            refine g_istore (pc := 47) (lv' := [(7, .int r44), (0, .ref (a 0)), (1, .int x1), (2, .int x2), (3, .int y3_11), (4, .int y4_11), (5, .int y5_11), (6, .int y6_11)]) X (by decide) rfl dX7_spreadOf_47 ?_
            refine g_iload (pc := 49) X 6 rfl dX7_spreadOf_49 ?_
            have J65 : ∀ (v0_65 : Int32), J_X7_spreadOf_65 y5_11 rec11 r44 y6_11 y4_11 v0_65 → GPi p l e ({ frames := 1, cells := 0, slots := 0, locals := 24 } : Room) s m args below meth c K 8 D (wM cI a) 65 [(0, .ref (a 0)), (1, .int x1), (2, .int x2), (4, .int y4_11), (5, .int y5_11), (6, .int y6_11), (7, .int r44)] [.int v0_65] σ := by
              intro v0_65 h
              refine g_istore_n (pc := 65) (lv' := [(3, .int v0_65), (0, .ref (a 0)), (1, .int x1), (2, .int x2), (4, .int y4_11), (5, .int y5_11), (6, .int y6_11), (7, .int r44)]) X rfl (by decide) rfl dX7_spreadOf_65 ?_
              refine g_iload (pc := 66) X 5 rfl dX7_spreadOf_66 ?_
              refine g_if_eq (pc := 68) (tgt := 81) X (by decide) dX7_spreadOf_68 (fun c_68 => ?_) (fun c_68 => ?_)
              · have h := ite_t c_68 h
                refine g_iload (pc := 81) X 7 rfl dX7_spreadOf_81 ?_
                refine g_istore (pc := 83) (lv' := [(4, .int r44), (3, .int v0_65), (0, .ref (a 0)), (1, .int x1), (2, .int x2), (5, .int y5_11), (6, .int y6_11), (7, .int r44)]) X (by decide) rfl dX7_spreadOf_83 ?_
                refine g_iconst (pc := 85) X ic_1 dX7_spreadOf_85 ?_
                refine g_istore (pc := 86) (lv' := [(5, .int (1 : Int32)), (4, .int r44), (3, .int v0_65), (0, .ref (a 0)), (1, .int x1), (2, .int x2), (6, .int y6_11), (7, .int r44)]) X (by decide) rfl dX7_spreadOf_86 ?_
                refine g_iinc (pc := 88) (lv' := [(6, .int (y6_11 + (1 : Int32))), (5, .int (1 : Int32)), (4, .int r44), (3, .int v0_65), (0, .ref (a 0)), (1, .int x1), (2, .int x2), (7, .int r44)]) X 6 rfl rfl (by decide) rfl dX7_spreadOf_88 ?_
                refine g_goto (pc := 91) (tgt := 11) X (by decide) dX7_spreadOf_91 ?_
                exact g_lv (ih v0_65 r44 (1 : Int32) (y6_11 + (1 : Int32)) h) [4, 5, 6, 3, 2, 1, 0] rfl
              · have h := ite_f c_68 h
                refine g_iload (pc := 71) X 7 rfl dX7_spreadOf_71 ?_
                refine g_iload (pc := 73) X 4 rfl dX7_spreadOf_73 ?_
                refine g_cS0i (pc := 75) (As := [.int r44, .int y4_11]) X mi_X7_greater (c_X7_greater r44 y4_11 _) kw4_128 ⟨rfl, rfl⟩ ⟨Nat.le_of_ble_eq_true rfl, Nat.le_of_ble_eq_true rfl⟩ rfl (Nat.le_of_ble_eq_true rfl) dX7_spreadOf_75 rfl h (fun r75 h => ?_)
                refine g_goto (pc := 78) (tgt := 83) X (by decide) dX7_spreadOf_78 ?_
                refine g_istore (pc := 83) (lv' := [(4, .int r75), (3, .int v0_65), (0, .ref (a 0)), (1, .int x1), (2, .int x2), (5, .int y5_11), (6, .int y6_11), (7, .int r44)]) X (by decide) rfl dX7_spreadOf_83 ?_
                refine g_iconst (pc := 85) X ic_1 dX7_spreadOf_85 ?_
                refine g_istore (pc := 86) (lv' := [(5, .int (1 : Int32)), (4, .int r75), (3, .int v0_65), (0, .ref (a 0)), (1, .int x1), (2, .int x2), (6, .int y6_11), (7, .int r44)]) X (by decide) rfl dX7_spreadOf_86 ?_
                refine g_iinc (pc := 88) (lv' := [(6, .int (y6_11 + (1 : Int32))), (5, .int (1 : Int32)), (4, .int r75), (3, .int v0_65), (0, .ref (a 0)), (1, .int x1), (2, .int x2), (7, .int r44)]) X 6 rfl rfl (by decide) rfl dX7_spreadOf_88 ?_
                refine g_goto (pc := 91) (tgt := 11) X (by decide) dX7_spreadOf_91 ?_
                exact g_lv (ih v0_65 r75 (1 : Int32) (y6_11 + (1 : Int32)) h) [4, 5, 6, 3, 2, 1, 0] rfl
            refine g_if_eq (pc := 51) (tgt := 63) X (by decide) dX7_spreadOf_51 (fun c_51 => ?_) (fun c_51 => ?_)
            · have h := ite_t c_51 h
              refine g_iload (pc := 63) X 0 rfl dX7_spreadOf_63 ?_
              exact g_lv (J65 r44 h) [1, 2, 3, 5, 6, 7, 0] rfl
            · have h := ite_f c_51 h
              refine g_iload (pc := 54) X 0 rfl dX7_spreadOf_54 ?_
              refine g_iload_n (pc := 56) X rfl 4 rfl dX7_spreadOf_56 ?_
              refine g_cS0i (pc := 57) (As := [.int r44, .int y3_11]) X mi_X7_lesser (c_X7_lesser r44 y3_11 _) kw4_125 ⟨rfl, rfl⟩ ⟨Nat.le_of_ble_eq_true rfl, Nat.le_of_ble_eq_true rfl⟩ rfl (Nat.le_of_ble_eq_true rfl) dX7_spreadOf_57 rfl h (fun r57 h => ?_)
              refine g_goto (pc := 60) (tgt := 65) X (by decide) dX7_spreadOf_60 ?_
              exact g_lv (J65 r57 h) [1, 2, 3, 5, 6, 7, 0] rfl
  exact g_lv (L11 n11 (0 : Int32) (0 : Int32) (0 : Int32) (0 : Int32) h) [4, 5, 6, 3, 2, 1, 0] rfl
set_option maxRecDepth 20000 in
theorem c_X7_closes (x1 : Int32) (σ : Sg) (K : Int32 → Prop) : Met l yX7_closes (.code yX7_closes cX7_closes 2 (some .boolean) :: AW) ({ frames := 2, cells := 0, slots := 0, locals := 51 } : Room) (pvP D (tyM cI) (wM cI a σ) (w_X7_closes x1 σ K) [.ref (a 0), .int x1]) (vp_Si K) 0 0 (fun _ => False) := by
  refine met_Pi (own := "TrainNoteModel") (lv := [(0, .ref (a 0)), (1, .int x1)]) (by decide +kernel) rfl (Nat.le_of_ble_eq_true rfl) rfl ?_
  intro p e s m args below meth c X hK hr hlk h
  have hR : ∀ σ H locs, hpP D (wM cI a) s σ H locs → va_P D vwCl ((wM cI a σ)) H := fun _ _ _ h => h.1
  refine g_aload_n (pc := 0) X rfl 0 rfl dX7_closes_0 ?_
  refine fX7_31 (pc := 1) X hK hR k_isMod_0 dX7_closes_1 ?_
  refine g_iload_n (pc := 4) X rfl 1 rfl dX7_closes_4 ?_
  obtain ⟨h_5, h⟩ := h
  refine aX7_bar (pc := 5) X hK hR k_isMod_0 h_5 dX7_closes_5 ?_
  refine g_iconst (pc := 6) X ic_1 dX7_closes_6 ?_
  refine g_icmp_eq (pc := 7) (tgt := 29) X (by decide) dX7_closes_7 (fun c_7 => ?_) (fun c_7 => ?_)
  · have h := ite_t c_7 h
    refine g_iconst (pc := 29) X ic_0 dX7_closes_29 ?_
    exact g_retPz (pc := 30) X hr hlk dX7_closes_30 (Or.inl rfl) h
  · have h := ite_f c_7 h
    refine g_aload_n (pc := 10) X rfl 0 rfl dX7_closes_10 ?_
    refine g_iload_n (pc := 11) X rfl 1 rfl dX7_closes_11 ?_
    refine g_iconst (pc := 12) X ic_0 dX7_closes_12 ?_
    refine g_cVPi (pc := 13) (As := [.int x1, .int (0 : Int32)]) X hK hR mi_X7_spreadOf (c_X7_spreadOf x1 (0 : Int32) σ _) (wl_ate (oX7 (cI := cI) (a := a) k_isMod_0).1 ((oX7 (cI := cI) (a := a) k_isMod_0).2 _)) rfl rfl kw4_118 ⟨rfl, rfl⟩ ⟨Nat.le_of_ble_eq_true rfl, Nat.le_of_ble_eq_true rfl⟩ rfl (Nat.le_of_ble_eq_true rfl) dX7_closes_13 rfl h (fun r13 h => ?_)
    refine g_aload_n (pc := 16) X rfl 0 rfl dX7_closes_16 ?_
    refine fX7_34 (pc := 17) X hK hR k_isMod_0 dX7_closes_17 ?_
    refine g_iconst (pc := 20) X ic_3 dX7_closes_20 ?_
    obtain ⟨h_21, h⟩ := h
    refine aX7_train (pc := 21) X hK hR k_isMod_0 h_21 dX7_closes_21 ?_
    refine g_icmp_gt (pc := 22) (tgt := 29) X (by decide) dX7_closes_22 (fun c_22 => ?_) (fun c_22 => ?_)
    · have h := ite_t c_22 h
      refine g_iconst (pc := 29) X ic_0 dX7_closes_29 ?_
      exact g_retPz (pc := 30) X hr hlk dX7_closes_30 (Or.inl rfl) h
    · have h := ite_f c_22 h
      refine g_iconst (pc := 25) X ic_1 dX7_closes_25 ?_
      refine g_goto (pc := 26) (tgt := 30) X (by decide) dX7_closes_26 ?_
      exact g_retPz (pc := 30) X hr hlk dX7_closes_30 (Or.inr rfl) h
set_option maxRecDepth 20000 in
theorem c_X7_flattestIn (x1 : Int32) (σ : Sg) (K : Int32 → Prop) : Met l yX7_flattestIn (.code yX7_flattestIn cX7_flattestIn 4 (some .int) :: AW) ({ frames := 1, cells := 0, slots := 0, locals := 24 } : Room) (pvP D (tyM cI) (wM cI a σ) (w_X7_flattestIn x1 σ K) [.ref (a 0), .int x1]) (vp_Si K) 0 0 (fun _ => False) := by
  refine met_Pi (own := "TrainNoteModel") (lv := [(0, .ref (a 0)), (1, .int x1)]) (by decide +kernel) rfl (Nat.le_of_ble_eq_true rfl) rfl ?_
  intro p e s m args below meth c X hK hr hlk h
  have hR : ∀ σ H locs, hpP D (wM cI a) s σ H locs → va_P D vwCl ((wM cI a σ)) H := fun _ _ _ h => h.1
  refine g_iconst (pc := 0) X ic_m1 dX7_flattestIn_0 ?_
  refine g_istore_n (pc := 1) (lv' := [(2, .int (-1 : Int32)), (0, .ref (a 0)), (1, .int x1)]) X rfl (by decide) rfl dX7_flattestIn_1 ?_
  refine g_iconst (pc := 2) X ic_0 dX7_flattestIn_2 ?_
  refine g_istore_n (pc := 3) (lv' := [(3, .int (0 : Int32)), (2, .int (-1 : Int32)), (0, .ref (a 0)), (1, .int x1)]) X rfl (by decide) rfl dX7_flattestIn_3 ?_
  obtain ⟨n4, h⟩ := h
  have X54 : ∀ (u2_54 : Int32), E_X7_flattestIn_4 K u2_54 → GPi p l e ({ frames := 1, cells := 0, slots := 0, locals := 24 } : Room) s m args below meth c K 4 D (wM cI a) 54 [(2, .int u2_54)] [] σ := by
    intro u2_54 h
    refine g_iload_n (pc := 54) X rfl 0 rfl dX7_flattestIn_54 ?_
    exact g_retPi (pc := 55) X hr hlk dX7_flattestIn_55 h
  have L4 : ∀ (n : Nat) (y2_4 : Int32) (y3_4 : Int32), lq2 (F_X7_flattestIn_4 σ x1 (E_X7_flattestIn_4 K)) n y2_4 y3_4 → GPi p l e ({ frames := 1, cells := 0, slots := 0, locals := 24 } : Room) s m args below meth c K 4 D (wM cI a) 4 [(0, .ref (a 0)), (1, .int x1), (2, .int y2_4), (3, .int y3_4)] [] σ := by
    intro n
    induction n with
    | zero =>
      intro y2_4 y3_4 h
      exact h.elim
    | succ n ih =>
      intro y2_4 y3_4 h
      have h : F_X7_flattestIn_4 σ x1 (E_X7_flattestIn_4 K) (lq2 (F_X7_flattestIn_4 σ x1 (E_X7_flattestIn_4 K)) n) y2_4 y3_4 := h
      refine g_iload_n (pc := 4) X rfl 3 rfl dX7_flattestIn_4 ?_
      refine g_aload_n (pc := 5) X rfl 0 rfl dX7_flattestIn_5 ?_
      refine fX7_101 (pc := 6) X hK hR k_isMod_0 dX7_flattestIn_6 ?_
      refine g_icmp_ge (pc := 9) (tgt := 54) X (by decide) dX7_flattestIn_9 (fun c_9 => ?_) (fun c_9 => ?_)
      · have h := ite_t c_9 h
        exact g_lv (X54 y2_4 h) [2] rfl
      · have h := ite_f c_9 h
        refine g_aload_n (pc := 12) X rfl 0 rfl dX7_flattestIn_12 ?_
        refine fX7_43 (pc := 13) X hK hR k_isMod_0 dX7_flattestIn_13 ?_
        refine g_iload_n (pc := 16) X rfl 3 rfl dX7_flattestIn_16 ?_
        obtain ⟨h_17, h⟩ := h
        refine aX7_by (pc := 17) X hK hR k_isMod_0 h_17 dX7_flattestIn_17 ?_
        refine g_iconst (pc := 18) X ic_m1 dX7_flattestIn_18 ?_
        refine g_icmp_eq (pc := 19) (tgt := 46) X (by decide) dX7_flattestIn_19 (fun c_19 => ?_) (fun c_19 => ?_)
        · have h := ite_t c_19 h
          refine g_iload_n (pc := 46) X rfl 2 rfl dX7_flattestIn_46 ?_
          refine g_istore_n (pc := 47) (lv' := [(2, .int y2_4), (0, .ref (a 0)), (1, .int x1), (3, .int y3_4)]) X rfl (by decide) rfl dX7_flattestIn_47 ?_
          refine g_iinc (pc := 48) (lv' := [(3, .int (y3_4 + (1 : Int32))), (2, .int y2_4), (0, .ref (a 0)), (1, .int x1)]) X 3 rfl rfl (by decide) rfl dX7_flattestIn_48 ?_
          refine g_goto (pc := 51) (tgt := 4) X (by decide) dX7_flattestIn_51 ?_
          exact g_lv (ih y2_4 (y3_4 + (1 : Int32)) h) [2, 3, 1, 0] rfl
        · have h := ite_f c_19 h
          refine g_iload_n (pc := 22) X rfl 2 rfl dX7_flattestIn_22 ?_
          refine g_iconst (pc := 23) X ic_m1 dX7_flattestIn_23 ?_
          refine g_icmp_eq (pc := 24) (tgt := 42) X (by decide) dX7_flattestIn_24 (fun c_24 => ?_) (fun c_24 => ?_)
          · have h := ite_t c_24 h
            refine g_iload_n (pc := 42) X rfl 3 rfl dX7_flattestIn_42 ?_
            refine g_goto (pc := 43) (tgt := 47) X (by decide) dX7_flattestIn_43 ?_
            refine g_istore_n (pc := 47) (lv' := [(2, .int y3_4), (0, .ref (a 0)), (1, .int x1), (3, .int y3_4)]) X rfl (by decide) rfl dX7_flattestIn_47 ?_
            refine g_iinc (pc := 48) (lv' := [(3, .int (y3_4 + (1 : Int32))), (2, .int y3_4), (0, .ref (a 0)), (1, .int x1)]) X 3 rfl rfl (by decide) rfl dX7_flattestIn_48 ?_
            refine g_goto (pc := 51) (tgt := 4) X (by decide) dX7_flattestIn_51 ?_
            exact g_lv (ih y3_4 (y3_4 + (1 : Int32)) h) [2, 3, 1, 0] rfl
          · have h := ite_f c_24 h
            refine g_aload_n (pc := 27) X rfl 0 rfl dX7_flattestIn_27 ?_
            refine g_iload_n (pc := 28) X rfl 3 rfl dX7_flattestIn_28 ?_
            refine g_iload_n (pc := 29) X rfl 1 rfl dX7_flattestIn_29 ?_
            refine g_cVPi (pc := 30) (As := [.int y3_4, .int x1]) X hK hR mi_X7_noteIn (c_X7_noteIn y3_4 x1 σ _) (wl_ate (oX7 (cI := cI) (a := a) k_isMod_0).1 ((oX7 (cI := cI) (a := a) k_isMod_0).2 _)) rfl rfl kw4_102 ⟨rfl, rfl⟩ ⟨Nat.le_of_ble_eq_true rfl, Nat.le_of_ble_eq_true rfl⟩ rfl (Nat.le_of_ble_eq_true rfl) dX7_flattestIn_30 rfl h (fun r30 h => ?_)
            refine g_aload_n (pc := 33) X rfl 0 rfl dX7_flattestIn_33 ?_
            refine g_iload_n (pc := 34) X rfl 2 rfl dX7_flattestIn_34 ?_
            refine g_iload_n (pc := 35) X rfl 1 rfl dX7_flattestIn_35 ?_
            refine g_cVPi (pc := 36) (As := [.int y2_4, .int x1]) X hK hR mi_X7_noteIn (c_X7_noteIn y2_4 x1 σ _) (wl_ate (oX7 (cI := cI) (a := a) k_isMod_0).1 ((oX7 (cI := cI) (a := a) k_isMod_0).2 _)) rfl rfl kw4_102 ⟨rfl, rfl⟩ ⟨Nat.le_of_ble_eq_true rfl, Nat.le_of_ble_eq_true rfl⟩ rfl (Nat.le_of_ble_eq_true rfl) dX7_flattestIn_36 rfl h (fun r36 h => ?_)
            refine g_icmp_ge (pc := 39) (tgt := 46) X (by decide) dX7_flattestIn_39 (fun c_39 => ?_) (fun c_39 => ?_)
            · have h := ite_t c_39 h
              refine g_iload_n (pc := 46) X rfl 2 rfl dX7_flattestIn_46 ?_
              refine g_istore_n (pc := 47) (lv' := [(2, .int y2_4), (0, .ref (a 0)), (1, .int x1), (3, .int y3_4)]) X rfl (by decide) rfl dX7_flattestIn_47 ?_
              refine g_iinc (pc := 48) (lv' := [(3, .int (y3_4 + (1 : Int32))), (2, .int y2_4), (0, .ref (a 0)), (1, .int x1)]) X 3 rfl rfl (by decide) rfl dX7_flattestIn_48 ?_
              refine g_goto (pc := 51) (tgt := 4) X (by decide) dX7_flattestIn_51 ?_
              exact g_lv (ih y2_4 (y3_4 + (1 : Int32)) h) [2, 3, 1, 0] rfl
            · have h := ite_f c_39 h
              refine g_iload_n (pc := 42) X rfl 3 rfl dX7_flattestIn_42 ?_
              refine g_goto (pc := 43) (tgt := 47) X (by decide) dX7_flattestIn_43 ?_
              refine g_istore_n (pc := 47) (lv' := [(2, .int y3_4), (0, .ref (a 0)), (1, .int x1), (3, .int y3_4)]) X rfl (by decide) rfl dX7_flattestIn_47 ?_
              refine g_iinc (pc := 48) (lv' := [(3, .int (y3_4 + (1 : Int32))), (2, .int y3_4), (0, .ref (a 0)), (1, .int x1)]) X 3 rfl rfl (by decide) rfl dX7_flattestIn_48 ?_
              refine g_goto (pc := 51) (tgt := 4) X (by decide) dX7_flattestIn_51 ?_
              exact g_lv (ih y3_4 (y3_4 + (1 : Int32)) h) [2, 3, 1, 0] rfl
  exact g_lv (L4 n4 (-1 : Int32) (0 : Int32) h) [2, 3, 1, 0] rfl
end
