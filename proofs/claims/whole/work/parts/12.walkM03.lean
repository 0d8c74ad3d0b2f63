section
variable {l : Launch} {D : va_G} {cI cZ cS : ClassId} {a : Nat → Nat} {tS tF : Nat}
set_option maxRecDepth 20000 in
theorem c_X7_chordBy (x1 : Int32) (x2 : Int32) (σ : Sg) (K : Int32 → Prop) : Met l yX7_chordBy (.code yX7_chordBy cX7_chordBy 3 (some .int) :: AW) ({ frames := 3, cells := 0, slots := 0, locals := 72 } : Room) (pvP D (tyM cI) (wM cI a σ) (w_X7_chordBy x1 x2 σ K) [.ref (a 0), .int x1, .int x2]) (vp_Si K) 0 0 (fun _ => False) := by
  refine met_Pi (own := "TrainNoteModel") (lv := [(0, .ref (a 0)), (1, .int x1), (2, .int x2)]) (by decide +kernel) rfl (Nat.le_of_ble_eq_true rfl) rfl ?_
  intro p e s m args below meth c X hK hr hlk h
  have hR : ∀ σ H locs, hpP D (wM cI a) s σ H locs → va_P D vwCl ((wM cI a σ)) H := fun _ _ _ h => h.1
  refine g_iload_n (pc := 0) X rfl 2 rfl dX7_chordBy_0 ?_
  refine g_if_ne (pc := 1) (tgt := 13) X (by decide) dX7_chordBy_1 (fun c_1 => ?_) (fun c_1 => ?_)
  · have h := ite_f c_1 h
    refine g_iload_n (pc := 13) X rfl 2 rfl dX7_chordBy_13 ?_
    refine g_iconst (pc := 14) X ic_1 dX7_chordBy_14 ?_
    refine g_icmp_ne (pc := 15) (tgt := 34) X (by decide) dX7_chordBy_15 (fun c_15 => ?_) (fun c_15 => ?_)
    · have h := ite_f c_15 h
      refine g_aload_n (pc := 34) X rfl 0 rfl dX7_chordBy_34 ?_
      refine g_iload_n (pc := 35) X rfl 1 rfl dX7_chordBy_35 ?_
      refine g_cVPi (pc := 36) (As := [.int x1]) X hK hR mi_X7_flattestIn (c_X7_flattestIn x1 σ _) (wl_ate (oX7 (cI := cI) (a := a) k_isMod_0).1 ((oX7 (cI := cI) (a := a) k_isMod_0).2 _)) rfl rfl kw4_135 ⟨rfl, rfl⟩ ⟨Nat.le_of_ble_eq_true rfl, Nat.le_of_ble_eq_true rfl⟩ rfl (Nat.le_of_ble_eq_true rfl) dX7_chordBy_36 rfl h (fun r36 h => ?_)
      exact g_retPi (pc := 39) X hr hlk dX7_chordBy_39 h
    · have h := ite_t c_15 h
      refine g_aload_n (pc := 18) X rfl 0 rfl dX7_chordBy_18 ?_
      refine g_iload_n (pc := 19) X rfl 1 rfl dX7_chordBy_19 ?_
      refine g_cVPi (pc := 20) (As := [.int x1]) X hK hR mi_X7_closes (c_X7_closes x1 σ _) (wl_ate (oX7 (cI := cI) (a := a) k_isMod_0).1 ((oX7 (cI := cI) (a := a) k_isMod_0).2 _)) rfl rfl kw4_131 ⟨rfl, rfl⟩ ⟨Nat.le_of_ble_eq_true rfl, Nat.le_of_ble_eq_true rfl⟩ rfl (Nat.le_of_ble_eq_true rfl) dX7_chordBy_20 rfl h (fun r20 h => ?_)
      refine g_if_eq (pc := 23) (tgt := 30) X (by decide) dX7_chordBy_23 (fun c_23 => ?_) (fun c_23 => ?_)
      · have h := ite_t c_23 h
        refine g_iconst (pc := 30) X ic_0 dX7_chordBy_30 ?_
        refine g_goto (pc := 31) (tgt := 39) X (by decide) dX7_chordBy_31 ?_
        exact g_retPi (pc := 39) X hr hlk dX7_chordBy_39 h
      · have h := ite_f c_23 h
        refine g_iconst (pc := 26) X ic_1 dX7_chordBy_26 ?_
        refine g_goto (pc := 27) (tgt := 39) X (by decide) dX7_chordBy_27 ?_
        exact g_retPi (pc := 39) X hr hlk dX7_chordBy_39 h
  · have h := ite_t c_1 h
    refine g_aload_n (pc := 4) X rfl 0 rfl dX7_chordBy_4 ?_
    refine g_iload_n (pc := 5) X rfl 1 rfl dX7_chordBy_5 ?_
    refine g_iconst (pc := 6) X ic_0 dX7_chordBy_6 ?_
    refine g_cVPi (pc := 7) (As := [.int x1, .int (0 : Int32)]) X hK hR mi_X7_spreadOf (c_X7_spreadOf x1 (0 : Int32) σ _) (wl_ate (oX7 (cI := cI) (a := a) k_isMod_0).1 ((oX7 (cI := cI) (a := a) k_isMod_0).2 _)) rfl rfl kw4_118 ⟨rfl, rfl⟩ ⟨Nat.le_of_ble_eq_true rfl, Nat.le_of_ble_eq_true rfl⟩ rfl (Nat.le_of_ble_eq_true rfl) dX7_chordBy_7 rfl h (fun r7 h => ?_)
    refine g_goto (pc := 10) (tgt := 39) X (by decide) dX7_chordBy_10 ?_
    exact g_retPi (pc := 39) X hr hlk dX7_chordBy_39 h
set_option maxRecDepth 20000 in
theorem c_X7_chord (x1 : Int32) (x2 : Int32) (σ : Sg) (K : Int32 → Sg → Prop) : ∀ sz, Met l yX7_chord (.code yX7_chord cX7_chord 3 (some .int) :: AW) ({ frames := 4, cells := 0, slots := 0, locals := 94 } : Room) (pvM D (tyM cI) SXM (wM cI a σ) sz (w_X7_chord x1 x2 σ K) [.ref (a 0), .int x1, .int x2]) (va_Qi K (atM D (tyM cI) (wM cI a) (va_A (wM cI a σ) sz)) (va_A (wM cI a σ) sz)) 0 0 (va_A (wM cI a σ) sz) := by
  intro sz
  refine met_Mi (own := "TrainNoteModel") (lv := [(0, .ref (a 0)), (1, .int x1), (2, .int x2)]) (by decide +kernel) rfl (Nat.le_of_ble_eq_true rfl) rfl ?_
  intro p e s m args below meth c A X hK hX hA hr hlk h
  have hR : ∀ σ H locs, hpM D (wM cI a) A s σ H locs → va_P D vwCl ((wM cI a σ)) H := fun _ _ _ h => h.1
  have hok := SXM_ok
  refine g_aload_n (pc := 0) X rfl 0 rfl dX7_chord_0 ?_
  refine g_cVMv (pc := 1) (As := []) X hK hX hok hA mi_X7_find (c_X7_find  σ _) (fun _ => ⟨_, wl_ate (oX7 (cI := cI) (a := a) k_isMod_0).1 ((oX7 (cI := cI) (a := a) k_isMod_0).2 _)⟩) rfl rfl kw4_67 ⟨rfl, rfl⟩ ⟨Nat.le_of_ble_eq_true rfl, Nat.le_of_ble_eq_true rfl⟩ rfl (Nat.le_of_ble_eq_true rfl) dX7_chord_1 rfl h (fun τ1 h => ?_)
  refine g_aload_n (pc := 4) X rfl 0 rfl dX7_chord_4 ?_
  refine g_iload_n (pc := 5) X rfl 1 rfl dX7_chord_5 ?_
  refine g_cVPi (pc := 6) (As := [.int x1]) X hK hR mi_X7_isBar (c_X7_isBar x1 τ1 _) (wl_ate (oX7 (cI := cI) (a := a) k_isMod_0).1 ((oX7 (cI := cI) (a := a) k_isMod_0).2 _)) rfl rfl kw4_94 ⟨rfl, rfl⟩ ⟨Nat.le_of_ble_eq_true rfl, Nat.le_of_ble_eq_true rfl⟩ rfl (Nat.le_of_ble_eq_true rfl) dX7_chord_6 rfl h (fun r6 h => ?_)
  refine g_if_eq (pc := 9) (tgt := 33) X (by decide) dX7_chord_9 (fun c_9 => ?_) (fun c_9 => ?_)
  · have h := ite_t c_9 h
    refine g_bipush (pc := 33) X bp_m2 dX7_chord_33 ?_
    exact g_retMi (pc := 35) X hK hr hlk dX7_chord_35 h
  · have h := ite_f c_9 h
    refine g_iload_n (pc := 12) X rfl 2 rfl dX7_chord_12 ?_
    refine g_i2l (pc := 13) X dX7_chord_13 ?_
    refine g_lconst (pc := 14) (v := 0) X rfl dX7_chord_14 ?_
    refine g_ldc2 (pc := 15) X kw3_213 dX7_chord_15 ?_
    refine g_cS0i (pc := 18) (As := [.long (x2).toInt64, .long (0 : Int64), .long (2 : Int64)]) X mi_X7_in (c_X7_in (x2).toInt64 (0 : Int64) (2 : Int64) _) kw3_210 ⟨rfl, rfl⟩ ⟨Nat.le_of_ble_eq_true rfl, Nat.le_of_ble_eq_true rfl⟩ rfl (Nat.le_of_ble_eq_true rfl) dX7_chord_18 rfl h (fun r18 h => ?_)
    refine g_if_eq (pc := 21) (tgt := 33) X (by decide) dX7_chord_21 (fun c_21 => ?_) (fun c_21 => ?_)
    · have h := ite_t c_21 h
      refine g_bipush (pc := 33) X bp_m2 dX7_chord_33 ?_
      exact g_retMi (pc := 35) X hK hr hlk dX7_chord_35 h
    · have h := ite_f c_21 h
      refine g_aload_n (pc := 24) X rfl 0 rfl dX7_chord_24 ?_
      refine g_iload_n (pc := 25) X rfl 1 rfl dX7_chord_25 ?_
      refine g_iload_n (pc := 26) X rfl 2 rfl dX7_chord_26 ?_
      refine g_cVPi (pc := 27) (As := [.int x1, .int x2]) X hK hR mi_X7_chordBy (c_X7_chordBy x1 x2 τ1 _) (wl_ate (oX7 (cI := cI) (a := a) k_isMod_0).1 ((oX7 (cI := cI) (a := a) k_isMod_0).2 _)) rfl rfl kw4_114 ⟨rfl, rfl⟩ ⟨Nat.le_of_ble_eq_true rfl, Nat.le_of_ble_eq_true rfl⟩ rfl (Nat.le_of_ble_eq_true rfl) dX7_chord_27 rfl h (fun r27 h => ?_)
      refine g_goto (pc := 30) (tgt := 35) X (by decide) dX7_chord_30 ?_
      exact g_retMi (pc := 35) X hK hr hlk dX7_chord_35 h
set_option maxRecDepth 20000 in
theorem c_X7_openBy (x1 : Int32) (σ : Sg) (K : Int32 → Prop) : Met l yX7_openBy (.code yX7_openBy cX7_openBy 5 (some .int) :: AW) ({ frames := 3, cells := 0, slots := 0, locals := 72 } : Room) (pvP D (tyM cI) (wM cI a σ) (w_X7_openBy x1 σ K) [.ref (a 0), .int x1]) (vp_Si K) 0 0 (fun _ => False) := by
  refine met_Pi (own := "TrainNoteModel") (lv := [(0, .ref (a 0)), (1, .int x1)]) (by decide +kernel) rfl (Nat.le_of_ble_eq_true rfl) rfl ?_
  intro p e s m args below meth c X hK hr hlk h
  have hR : ∀ σ H locs, hpP D (wM cI a) s σ H locs → va_P D vwCl ((wM cI a σ)) H := fun _ _ _ h => h.1
  refine g_iconst (pc := 0) X ic_m1 dX7_openBy_0 ?_
  refine g_istore_n (pc := 1) (lv' := [(2, .int (-1 : Int32)), (0, .ref (a 0)), (1, .int x1)]) X rfl (by decide) rfl dX7_openBy_1 ?_
  refine g_iconst (pc := 2) X ic_0 dX7_openBy_2 ?_
  refine g_istore_n (pc := 3) (lv' := [(3, .int (0 : Int32)), (2, .int (-1 : Int32)), (0, .ref (a 0)), (1, .int x1)]) X rfl (by decide) rfl dX7_openBy_3 ?_
  refine g_iconst (pc := 4) X ic_0 dX7_openBy_4 ?_
  refine g_istore (pc := 5) (lv' := [(4, .int (0 : Int32)), (3, .int (0 : Int32)), (2, .int (-1 : Int32)), (0, .ref (a 0)), (1, .int x1)]) X (by decide) rfl dX7_openBy_5 ?_
  obtain ⟨n7, h⟩ := h
  have X56 : ∀ (u2_56 : Int32) (u3_56 : Int32), E_X7_openBy_7 x1 K u2_56 u3_56 → GPi p l e ({ frames := 3, cells := 0, slots := 0, locals := 72 } : Room) s m args below meth c K 5 D (wM cI a) 56 [(1, .int x1), (2, .int u2_56), (3, .int u3_56)] [] σ := by
    intro u2_56 u3_56 h
    refine g_iload_n (pc := 56) X rfl 0 rfl dX7_openBy_56 ?_
    refine g_if_ne (pc := 57) (tgt := 64) X (by decide) dX7_openBy_57 (fun c_57 => ?_) (fun c_57 => ?_)
    · have h := ite_f c_57 h
      refine g_iload_n (pc := 64) X rfl 2 rfl dX7_openBy_64 ?_
      exact g_retPi (pc := 65) X hr hlk dX7_openBy_65 h
    · have h := ite_t c_57 h
      refine g_iload_n (pc := 60) X rfl 1 rfl dX7_openBy_60 ?_
      refine g_goto (pc := 61) (tgt := 65) X (by decide) dX7_openBy_61 ?_
      exact g_retPi (pc := 65) X hr hlk dX7_openBy_65 h
  have L7 : ∀ (n : Nat) (y2_7 : Int32) (y3_7 : Int32) (y4_7 : Int32), lq3 (F_X7_openBy_7 σ (E_X7_openBy_7 x1 K)) n y2_7 y3_7 y4_7 → GPi p l e ({ frames := 3, cells := 0, slots := 0, locals := 72 } : Room) s m args below meth c K 5 D (wM cI a) 7 [(0, .ref (a 0)), (1, .int x1), (2, .int y2_7), (3, .int y3_7), (4, .int y4_7)] [] σ := by
    intro n
    induction n with
    | zero =>
      intro y2_7 y3_7 y4_7 h
      exact h.elim
    | succ n ih =>
      intro y2_7 y3_7 y4_7 h
      have h : F_X7_openBy_7 σ (E_X7_openBy_7 x1 K) (lq3 (F_X7_openBy_7 σ (E_X7_openBy_7 x1 K)) n) y2_7 y3_7 y4_7 := h
      refine g_iload (pc := 7) X 4 rfl dX7_openBy_7 ?_
      refine g_aload_n (pc := 9) X rfl 0 rfl dX7_openBy_9 ?_
      refine fX7_107 (pc := 10) X hK hR k_isMod_0 dX7_openBy_10 ?_
      refine g_icmp_ge (pc := 13) (tgt := 56) X (by decide) dX7_openBy_13 (fun c_13 => ?_) (fun c_13 => ?_)
      · have h := ite_t c_13 h
        exact g_lv (X56 y2_7 y3_7 h) [1, 2, 3] rfl
      · have h := ite_f c_13 h
        refine g_aload_n (pc := 16) X rfl 0 rfl dX7_openBy_16 ?_
        refine fX7_31 (pc := 17) X hK hR k_isMod_0 dX7_openBy_17 ?_
        refine g_iload (pc := 20) X 4 rfl dX7_openBy_20 ?_
        obtain ⟨h_22, h⟩ := h
        refine aX7_bar (pc := 22) X hK hR k_isMod_0 h_22 dX7_openBy_22 ?_
        refine g_iconst (pc := 23) X ic_1 dX7_openBy_23 ?_
        refine g_icmp_eq (pc := 24) (tgt := 50) X (by decide) dX7_openBy_24 (fun c_24 => ?_) (fun c_24 => ?_)
        · have h := ite_t c_24 h
          refine g_iinc (pc := 50) (lv' := [(4, .int (y4_7 + (1 : Int32))), (0, .ref (a 0)), (1, .int x1), (2, .int y2_7), (3, .int y3_7)]) X 4 rfl rfl (by decide) rfl dX7_openBy_50 ?_
          refine g_goto (pc := 53) (tgt := 7) X (by decide) dX7_openBy_53 ?_
          exact g_lv (ih y2_7 y3_7 (y4_7 + (1 : Int32)) h) [1, 2, 3, 4, 0] rfl
        · have h := ite_f c_24 h
          refine g_aload_n (pc := 27) X rfl 0 rfl dX7_openBy_27 ?_
          refine g_iload (pc := 28) X 4 rfl dX7_openBy_28 ?_
          refine g_cVPi (pc := 30) (As := [.int y4_7]) X hK hR mi_X7_closes (c_X7_closes y4_7 σ _) (wl_ate (oX7 (cI := cI) (a := a) k_isMod_0).1 ((oX7 (cI := cI) (a := a) k_isMod_0).2 _)) rfl rfl kw4_131 ⟨rfl, rfl⟩ ⟨Nat.le_of_ble_eq_true rfl, Nat.le_of_ble_eq_true rfl⟩ rfl (Nat.le_of_ble_eq_true rfl) dX7_openBy_30 rfl h (fun r30 h => ?_)
          refine g_if_ne (pc := 33) (tgt := 50) X (by decide) dX7_openBy_33 (fun c_33 => ?_) (fun c_33 => ?_)
          · have h := ite_f c_33 h
            refine g_iinc (pc := 50) (lv' := [(4, .int (y4_7 + (1 : Int32))), (0, .ref (a 0)), (1, .int x1), (2, .int y2_7), (3, .int y3_7)]) X 4 rfl rfl (by decide) rfl dX7_openBy_50 ?_
            refine g_goto (pc := 53) (tgt := 7) X (by decide) dX7_openBy_53 ?_
            exact g_lv (ih y2_7 y3_7 (y4_7 + (1 : Int32)) h) [1, 2, 3, 4, 0] rfl
          · have h := ite_t c_33 h
            refine g_iload_n (pc := 36) X rfl 3 rfl dX7_openBy_36 ?_
            refine g_if_ne (pc := 37) (tgt := 45) X (by decide) dX7_openBy_37 (fun c_37 => ?_) (fun c_37 => ?_)
            · have h := ite_f c_37 h
              refine g_iload_n (pc := 45) X rfl 2 rfl dX7_openBy_45 ?_
              refine g_istore_n (pc := 46) (lv' := [(2, .int y2_7), (0, .ref (a 0)), (1, .int x1), (3, .int y3_7), (4, .int y4_7)]) X rfl (by decide) rfl dX7_openBy_46 ?_
              refine g_iinc (pc := 47) (lv' := [(3, .int (y3_7 + (1 : Int32))), (2, .int y2_7), (0, .ref (a 0)), (1, .int x1), (4, .int y4_7)]) X 3 rfl rfl (by decide) rfl dX7_openBy_47 ?_
              refine g_iinc (pc := 50) (lv' := [(4, .int (y4_7 + (1 : Int32))), (3, .int (y3_7 + (1 : Int32))), (2, .int y2_7), (0, .ref (a 0)), (1, .int x1)]) X 4 rfl rfl (by decide) rfl dX7_openBy_50 ?_
              refine g_goto (pc := 53) (tgt := 7) X (by decide) dX7_openBy_53 ?_
              exact g_lv (ih y2_7 (y3_7 + (1 : Int32)) (y4_7 + (1 : Int32)) h) [3, 4, 2, 1, 0] rfl
            · have h := ite_t c_37 h
              refine g_iload (pc := 40) X 4 rfl dX7_openBy_40 ?_
              refine g_goto (pc := 42) (tgt := 46) X (by decide) dX7_openBy_42 ?_
              refine g_istore_n (pc := 46) (lv' := [(2, .int y4_7), (0, .ref (a 0)), (1, .int x1), (3, .int y3_7), (4, .int y4_7)]) X rfl (by decide) rfl dX7_openBy_46 ?_
              refine g_iinc (pc := 47) (lv' := [(3, .int (y3_7 + (1 : Int32))), (2, .int y4_7), (0, .ref (a 0)), (1, .int x1), (4, .int y4_7)]) X 3 rfl rfl (by decide) rfl dX7_openBy_47 ?_
              refine g_iinc (pc := 50) (lv' := [(4, .int (y4_7 + (1 : Int32))), (3, .int (y3_7 + (1 : Int32))), (2, .int y4_7), (0, .ref (a 0)), (1, .int x1)]) X 4 rfl rfl (by decide) rfl dX7_openBy_50 ?_
              refine g_goto (pc := 53) (tgt := 7) X (by decide) dX7_openBy_53 ?_
              exact g_lv (ih y4_7 (y3_7 + (1 : Int32)) (y4_7 + (1 : Int32)) h) [3, 4, 2, 1, 0] rfl
  exact g_lv (L7 n7 (-1 : Int32) (0 : Int32) (0 : Int32) h) [3, 4, 2, 1, 0] rfl
set_option maxRecDepth 20000 in
theorem c_X7_open (x1 : Int32) (σ : Sg) (K : Int32 → Sg → Prop) : ∀ sz, Met l yX7_open (.code yX7_open cX7_open 2 (some .int) :: AW) ({ frames := 4, cells := 0, slots := 0, locals := 96 } : Room) (pvM D (tyM cI) SXM (wM cI a σ) sz (w_X7_open x1 σ K) [.ref (a 0), .int x1]) (va_Qi K (atM D (tyM cI) (wM cI a) (va_A (wM cI a σ) sz)) (va_A (wM cI a σ) sz)) 0 0 (va_A (wM cI a σ) sz) := by
  intro sz
  refine met_Mi (own := "TrainNoteModel") (lv := [(0, .ref (a 0)), (1, .int x1)]) (by decide +kernel) rfl (Nat.le_of_ble_eq_true rfl) rfl ?_
  intro p e s m args below meth c A X hK hX hA hr hlk h
  have hR : ∀ σ H locs, hpM D (wM cI a) A s σ H locs → va_P D vwCl ((wM cI a σ)) H := fun _ _ _ h => h.1
  have hok := SXM_ok
  refine g_aload_n (pc := 0) X rfl 0 rfl dX7_open_0 ?_
  refine g_cVMv (pc := 1) (As := []) X hK hX hok hA mi_X7_find (c_X7_find  σ _) (fun _ => ⟨_, wl_ate (oX7 (cI := cI) (a := a) k_isMod_0).1 ((oX7 (cI := cI) (a := a) k_isMod_0).2 _)⟩) rfl rfl kw4_67 ⟨rfl, rfl⟩ ⟨Nat.le_of_ble_eq_true rfl, Nat.le_of_ble_eq_true rfl⟩ rfl (Nat.le_of_ble_eq_true rfl) dX7_open_1 rfl h (fun τ1 h => ?_)
  refine g_iload_n (pc := 4) X rfl 1 rfl dX7_open_4 ?_
  refine g_cS0i (pc := 5) (As := [.int x1]) X mi_X7_isTwo (c_X7_isTwo x1 _) kw4_6 ⟨rfl, rfl⟩ ⟨Nat.le_of_ble_eq_true rfl, Nat.le_of_ble_eq_true rfl⟩ rfl (Nat.le_of_ble_eq_true rfl) dX7_open_5 rfl h (fun r5 h => ?_)
  refine g_if_eq (pc := 8) (tgt := 19) X (by decide) dX7_open_8 (fun c_8 => ?_) (fun c_8 => ?_)
  · have h := ite_t c_8 h
    refine g_bipush (pc := 19) X bp_m2 dX7_open_19 ?_
    exact g_retMi (pc := 21) X hK hr hlk dX7_open_21 h
  · have h := ite_f c_8 h
    refine g_aload_n (pc := 11) X rfl 0 rfl dX7_open_11 ?_
    refine g_iload_n (pc := 12) X rfl 1 rfl dX7_open_12 ?_
    refine g_cVPi (pc := 13) (As := [.int x1]) X hK hR mi_X7_openBy (c_X7_openBy x1 τ1 _) (wl_ate (oX7 (cI := cI) (a := a) k_isMod_0).1 ((oX7 (cI := cI) (a := a) k_isMod_0).2 _)) rfl rfl kw4_143 ⟨rfl, rfl⟩ ⟨Nat.le_of_ble_eq_true rfl, Nat.le_of_ble_eq_true rfl⟩ rfl (Nat.le_of_ble_eq_true rfl) dX7_open_13 rfl h (fun r13 h => ?_)
    refine g_goto (pc := 16) (tgt := 21) X (by decide) dX7_open_16 ?_
    exact g_retMi (pc := 21) X hK hr hlk dX7_open_21 h
set_option maxRecDepth 20000 in
theorem c_X7_unfolds (x1 : Int32) (x2 : Int32) (σ : Sg) (K : Sg → Prop) : ∀ sz, Met l yX7_unfolds (.code yX7_unfolds cX7_unfolds 6 (none) :: AW) ({ frames := 0, cells := 0, slots := 0, locals := 0 } : Room) (pvM D (tyM cI) SXM (wM cI a σ) sz (w_X7_unfolds x1 x2 σ K) [.ref (a 0), .int x1, .int x2]) (va_Qv K (atM D (tyM cI) (wM cI a) (va_A (wM cI a σ) sz)) (va_A (wM cI a σ) sz)) 0 0 (va_A (wM cI a σ) sz) := by
  intro sz
  refine met_Mv (own := "TrainNoteModel") (lv := [(0, .ref (a 0)), (1, .int x1), (2, .int x2)]) (by decide +kernel) rfl (Nat.le_of_ble_eq_true rfl) rfl ?_
  intro p e s m args below meth c A X hK hX hA hr hlk h
  have hR : ∀ σ H locs, hpM D (wM cI a) A s σ H locs → va_P D vwCl ((wM cI a σ)) H := fun _ _ _ h => h.1
  have hok := SXM_ok
  refine g_iload_n (pc := 0) X rfl 2 rfl dX7_unfolds_0 ?_
  refine g_istore_n (pc := 1) (lv' := [(3, .int x2), (0, .ref (a 0)), (1, .int x1), (2, .int x2)]) X rfl (by decide) rfl dX7_unfolds_1 ?_
  refine g_iload_n (pc := 2) X rfl 2 rfl dX7_unfolds_2 ?_
  refine g_iconst (pc := 3) X ic_1 dX7_unfolds_3 ?_
  refine g_isub (pc := 4) X dX7_unfolds_4 ?_
  refine g_istore (pc := 5) (lv' := [(4, .int (x1 - (1 : Int32))), (3, .int x2), (0, .ref (a 0)), (1, .int x1), (2, .int x2)]) X (by decide) rfl dX7_unfolds_5 ?_
  obtain ⟨n7, h⟩ := h
  have X38 : ∀ (ρe38 : Sg), E_X7_unfolds_7 x1 K ρe38 → GMv p l e ({ frames := 0, cells := 0, slots := 0, locals := 0 } : Room) s m args below meth c K 6 D (tyM cI) (wM cI a) A 38 [(0, .ref (a 0)), (1, .int x1)] [] ρe38 := by
    intro ρe38 h
    refine g_iload_n (pc := 38) X rfl 1 rfl dX7_unfolds_38 ?_
    refine g_iconst (pc := 39) X ic_1 dX7_unfolds_39 ?_
    refine g_isub (pc := 40) X dX7_unfolds_40 ?_
    refine g_istore (pc := 41) (lv' := [(4, .int (x1 - (1 : Int32))), (0, .ref (a 0)), (1, .int x1)]) X (by decide) rfl dX7_unfolds_41 ?_
    obtain ⟨n43, h⟩ := h
    have X104 : ∀ (ρe104 : Sg), E_X7_unfolds_43 K ρe104 → GMv p l e ({ frames := 0, cells := 0, slots := 0, locals := 0 } : Room) s m args below meth c K 6 D (tyM cI) (wM cI a) A 104 [] [] ρe104 := by
      intro ρe104 h
      exact g_retMv (pc := 104) X hK hr hlk dX7_unfolds_104 h
    have L43 : ∀ (n : Nat) (y4_43 : Int32) (ρ43 : Sg), lq2 (F_X7_unfolds_43 x1 (E_X7_unfolds_43 K)) n y4_43 ρ43 → GMv p l e ({ frames := 0, cells := 0, slots := 0, locals := 0 } : Room) s m args below meth c K 6 D (tyM cI) (wM cI a) A 43 [(0, .ref (a 0)), (1, .int x1), (4, .int y4_43)] [] ρ43 := by
      intro n
      induction n with
      | zero =>
        intro y4_43 ρ43 h
        exact h.elim
      | succ n ih =>
        intro y4_43 ρ43 h
        have h : F_X7_unfolds_43 x1 (E_X7_unfolds_43 K) (lq2 (F_X7_unfolds_43 x1 (E_X7_unfolds_43 K)) n) y4_43 ρ43 := h
        generalize lq2 (F_X7_unfolds_43 x1 (E_X7_unfolds_43 K)) n = rec43 at h ih
        refine g_iload (pc := 43) X 2 rfl dX7_unfolds_43 ?_
        refine g_if_lt (pc := 45) (tgt := 104) X (by decide) dX7_unfolds_45 (fun c_45 => ?_) (fun c_45 => ?_)
        · have h := ite_t c_45 h
          exact g_lv (X104 ρ43 h) [] rfl
        · have h := ite_f c_45 h
          refine g_iload (pc := 48) X 2 rfl dX7_unfolds_48 ?_
          refine g_iconst (pc := 50) X ic_1 dX7_unfolds_50 ?_
          refine g_iadd (pc := 51) X dX7_unfolds_51 ?_
          refine g_istore (pc := 52) (lv' := [(5, .int (y4_43 + (1 : Int32))), (0, .ref (a 0)), (1, .int x1), (4, .int y4_43)]) X (by decide) rfl dX7_unfolds_52 ?_
          obtain ⟨n54, h⟩ := h
          have X98 : ∀ (ρe98 : Sg), E_X7_unfolds_54 rec43 y4_43 ρe98 → GMv p l e ({ frames := 0, cells := 0, slots := 0, locals := 0 } : Room) s m args below meth c K 6 D (tyM cI) (wM cI a) A 98 [(0, .ref (a 0)), (1, .int x1), (4, .int y4_43)] [] ρe98 := by
            intro ρe98 h
            refine g_iinc (pc := 98) (lv' := [(4, .int (y4_43 + (-1 : Int32))), (0, .ref (a 0)), (1, .int x1)]) X 2 rfl (congrArg (fun z => _ + z) ic_m1) (by decide) rfl dX7_unfolds_98 ?_
            refine g_goto (pc := 101) (tgt := 43) X (by decide) dX7_unfolds_101 ?_
            exact g_lv (ih (y4_43 + (-1 : Int32)) ρe98 h) [1, 2, 0] rfl
          have L54 : ∀ (n : Nat) (y5_54 : Int32) (ρ54 : Sg), lq2 (F_X7_unfolds_54 x1 y4_43 (E_X7_unfolds_54 rec43 y4_43)) n y5_54 ρ54 → GMv p l e ({ frames := 0, cells := 0, slots := 0, locals := 0 } : Room) s m args below meth c K 6 D (tyM cI) (wM cI a) A 54 [(0, .ref (a 0)), (1, .int x1), (4, .int y4_43), (5, .int y5_54)] [] ρ54 := by
            intro n
            induction n with
            | zero =>
              intro y5_54 ρ54 h
              exact h.elim
            | succ n ih =>
              intro y5_54 ρ54 h
              have h : F_X7_unfolds_54 x1 y4_43 (E_X7_unfolds_54 rec43 y4_43) (lq2 (F_X7_unfolds_54 x1 y4_43 (E_X7_unfolds_54 rec43 y4_43)) n) y5_54 ρ54 := h
              refine g_iload (pc := 54) X 3 rfl dX7_unfolds_54 ?_
              refine g_iload_n (pc := 56) X rfl 1 rfl dX7_unfolds_56 ?_
              refine g_icmp_ge (pc := 57) (tgt := 98) X (by decide) dX7_unfolds_57 (fun c_57 => ?_) (fun c_57 => ?_)
              · have h := ite_t c_57 h
                exact g_lv (X98 ρ54 h) [0, 1, 2] rfl
              · have h := ite_f c_57 h
                refine g_aload_n (pc := 60) X rfl 0 rfl dX7_unfolds_60 ?_
                refine fX7_49 (pc := 61) X hK hR k_isMod_0 dX7_unfolds_61 ?_
                refine g_iload (pc := 64) X 3 rfl dX7_unfolds_64 ?_
                refine g_dup2 (pc := 66) X rfl rfl dX7_unfolds_66 ?_
                obtain ⟨h_67, h⟩ := h
                refine aX7_row (pc := 67) X hK hR k_isMod_0 h_67 dX7_unfolds_67 ?_
                refine g_aload_n (pc := 68) X rfl 0 rfl dX7_unfolds_68 ?_
                refine fX7_49 (pc := 69) X hK hR k_isMod_0 dX7_unfolds_69 ?_
                refine g_iload (pc := 72) X 3 rfl dX7_unfolds_72 ?_
                obtain ⟨h_74, h⟩ := h
                refine aX7_row (pc := 74) X hK hR k_isMod_0 h_74 dX7_unfolds_74 ?_
                refine g_aload_n (pc := 75) X rfl 0 rfl dX7_unfolds_75 ?_
                refine fX7_49 (pc := 76) X hK hR k_isMod_0 dX7_unfolds_76 ?_
                refine g_iload (pc := 79) X 2 rfl dX7_unfolds_79 ?_
                obtain ⟨h_81, h⟩ := h
                refine aX7_row (pc := 81) X hK hR k_isMod_0 h_81 dX7_unfolds_81 ?_
                refine g_icmp_lt (pc := 82) (tgt := 89) X (by decide) dX7_unfolds_82 (fun c_82 => ?_) (fun c_82 => ?_)
                · have h := ite_t c_82 h
                  refine g_iconst (pc := 89) X ic_0 dX7_unfolds_89 ?_
                  refine g_iadd (pc := 90) X dX7_unfolds_90 ?_
                  obtain ⟨h_91, h⟩ := h
                  refine tX7_row (pc := 91) X hK k_isMod_0 h_91 dX7_unfolds_91 (fun τ91 eτ91 => ?_)
                  have h := h τ91 eτ91
                  refine g_iinc (pc := 92) (lv' := [(5, .int (y5_54 + (1 : Int32))), (0, .ref (a 0)), (1, .int x1), (4, .int y4_43)]) X 3 rfl rfl (by decide) rfl dX7_unfolds_92 ?_
                  refine g_goto (pc := 95) (tgt := 54) X (by decide) dX7_unfolds_95 ?_
                  exact g_lv (ih (y5_54 + (1 : Int32)) τ91 h) [1, 2, 3, 0] rfl
                · have h := ite_f c_82 h
                  refine g_iconst (pc := 85) X ic_1 dX7_unfolds_85 ?_
                  refine g_goto (pc := 86) (tgt := 90) X (by decide) dX7_unfolds_86 ?_
                  refine g_iadd (pc := 90) X dX7_unfolds_90 ?_
                  obtain ⟨h_91, h⟩ := h
                  refine tX7_row (pc := 91) X hK k_isMod_0 h_91 dX7_unfolds_91 (fun τ91_1 eτ91_1 => ?_)
                  have h := h τ91_1 eτ91_1
                  refine g_iinc (pc := 92) (lv' := [(5, .int (y5_54 + (1 : Int32))), (0, .ref (a 0)), (1, .int x1), (4, .int y4_43)]) X 3 rfl rfl (by decide) rfl dX7_unfolds_92 ?_
                  refine g_goto (pc := 95) (tgt := 54) X (by decide) dX7_unfolds_95 ?_
                  exact g_lv (ih (y5_54 + (1 : Int32)) τ91_1 h) [1, 2, 3, 0] rfl
          exact g_lv (L54 n54 (y4_43 + (1 : Int32)) ρ43 h) [1, 2, 3, 0] rfl
    exact g_lv (L43 n43 (x1 - (1 : Int32)) ρe38 h) [1, 2, 0] rfl
  have L7 : ∀ (n : Nat) (y3_7 : Int32) (y4_7 : Int32) (ρ7 : Sg), lq3 (F_X7_unfolds_7 x1 (E_X7_unfolds_7 x1 K)) n y3_7 y4_7 ρ7 → GMv p l e ({ frames := 0, cells := 0, slots := 0, locals := 0 } : Room) s m args below meth c K 6 D (tyM cI) (wM cI a) A 7 [(0, .ref (a 0)), (1, .int x1), (3, .int y3_7), (4, .int y4_7)] [] ρ7 := by
    intro n
    induction n with
    | zero =>
      intro y3_7 y4_7 ρ7 h
      exact h.elim
    | succ n ih =>
      intro y3_7 y4_7 ρ7 h
      have h : F_X7_unfolds_7 x1 (E_X7_unfolds_7 x1 K) (lq3 (F_X7_unfolds_7 x1 (E_X7_unfolds_7 x1 K)) n) y3_7 y4_7 ρ7 := h
      refine g_iload (pc := 7) X 3 rfl dX7_unfolds_7 ?_
      refine g_if_lt (pc := 9) (tgt := 38) X (by decide) dX7_unfolds_9 (fun c_9 => ?_) (fun c_9 => ?_)
      · have h := ite_t c_9 h
        exact g_lv (X38 ρ7 h) [0, 1] rfl
      · have h := ite_f c_9 h
        refine g_aload_n (pc := 12) X rfl 0 rfl dX7_unfolds_12 ?_
        refine fX7_49 (pc := 13) X hK hR k_isMod_0 dX7_unfolds_13 ?_
        refine g_iload (pc := 16) X 3 rfl dX7_unfolds_16 ?_
        refine g_iload_n (pc := 18) X rfl 2 rfl dX7_unfolds_18 ?_
        refine g_iload_n (pc := 19) X rfl 1 rfl dX7_unfolds_19 ?_
        refine g_iload (pc := 20) X 3 rfl dX7_unfolds_20 ?_
        refine g_isub (pc := 22) X dX7_unfolds_22 ?_
        obtain ⟨h_23, h⟩ := h
        refine g_irem (pc := 23) X h_23 dX7_unfolds_23 ?_
        obtain ⟨h_24, h⟩ := h
        refine tX7_row (pc := 24) X hK k_isMod_0 h_24 dX7_unfolds_24 (fun τ24 eτ24 => ?_)
        have h := h τ24 eτ24
        refine g_iload_n (pc := 25) X rfl 2 rfl dX7_unfolds_25 ?_
        refine g_iload_n (pc := 26) X rfl 1 rfl dX7_unfolds_26 ?_
        refine g_iload (pc := 27) X 3 rfl dX7_unfolds_27 ?_
        refine g_isub (pc := 29) X dX7_unfolds_29 ?_
        obtain ⟨h_30, h⟩ := h
        refine g_idiv (pc := 30) X h_30 dX7_unfolds_30 ?_
        refine g_istore_n (pc := 31) (lv' := [(3, .int (y3_7 / (x1 - y4_7))), (0, .ref (a 0)), (1, .int x1), (4, .int y4_7)]) X rfl (by decide) rfl dX7_unfolds_31 ?_
        refine g_iinc (pc := 32) (lv' := [(4, .int (y4_7 + (-1 : Int32))), (3, .int (y3_7 / (x1 - y4_7))), (0, .ref (a 0)), (1, .int x1)]) X 3 rfl (congrArg (fun z => _ + z) ic_m1) (by decide) rfl dX7_unfolds_32 ?_
        refine g_goto (pc := 35) (tgt := 7) X (by decide) dX7_unfolds_35 ?_
        exact g_lv (ih (y3_7 / (x1 - y4_7)) (y4_7 + (-1 : Int32)) τ24 h) [2, 3, 1, 0] rfl
  exact g_lv (L7 n7 x2 (x1 - (1 : Int32)) σ h) [2, 3, 1, 0] rfl
set_option maxRecDepth 20000 in
theorem c_X7_standOf (x1 : Int32) (x2 : Int32) (σ : Sg) (K : Int32 → Sg → Prop) : ∀ sz, Met l yX7_standOf (.code yX7_standOf cX7_standOf 9 (some .int) :: AW) ({ frames := 4, cells := 0, slots := 0, locals := 91 } : Room) (pvM D (tyM cI) SXM (wM cI a σ) sz (w_X7_standOf x1 x2 σ K) [.ref (a 0), .int x1, .int x2]) (va_Qi K (atM D (tyM cI) (wM cI a) (va_A (wM cI a σ) sz)) (va_A (wM cI a σ) sz)) 0 0 (va_A (wM cI a σ) sz) := by
  intro sz
  refine met_Mi (own := "TrainNoteModel") (lv := [(0, .ref (a 0)), (1, .int x1), (2, .int x2)]) (by decide +kernel) rfl (Nat.le_of_ble_eq_true rfl) rfl ?_
  intro p e s m args below meth c A X hK hX hA hr hlk h
  have hR : ∀ σ H locs, hpM D (wM cI a) A s σ H locs → va_P D vwCl ((wM cI a σ)) H := fun _ _ _ h => h.1
  have hok := SXM_ok
  refine g_aload_n (pc := 0) X rfl 0 rfl dX7_standOf_0 ?_
  refine fX7_101 (pc := 1) X hK hR k_isMod_0 dX7_standOf_1 ?_
  refine g_iconst (pc := 4) X ic_5 dX7_standOf_4 ?_
  refine g_cS0i (pc := 5) (As := [.int (σ 0 7), .int (5 : Int32)]) X mi_X7_lesser (c_X7_lesser (σ 0 7) (5 : Int32) _) kw4_125 ⟨rfl, rfl⟩ ⟨Nat.le_of_ble_eq_true rfl, Nat.le_of_ble_eq_true rfl⟩ rfl (Nat.le_of_ble_eq_true rfl) dX7_standOf_5 rfl h (fun r5 h => ?_)
  refine g_istore_n (pc := 8) (lv' := [(3, .int r5), (0, .ref (a 0)), (1, .int x1), (2, .int x2)]) X rfl (by decide) rfl dX7_standOf_8 ?_
  refine g_iconst (pc := 9) X ic_1 dX7_standOf_9 ?_
  refine g_istore (pc := 10) (lv' := [(4, .int (1 : Int32)), (3, .int r5), (0, .ref (a 0)), (1, .int x1), (2, .int x2)]) X (by decide) rfl dX7_standOf_10 ?_
  refine g_iconst (pc := 12) X ic_2 dX7_standOf_12 ?_
  refine g_istore (pc := 13) (lv' := [(5, .int (2 : Int32)), (4, .int (1 : Int32)), (3, .int r5), (0, .ref (a 0)), (1, .int x1), (2, .int x2)]) X (by decide) rfl dX7_standOf_13 ?_
  obtain ⟨n15, h⟩ := h
  have X34 : ∀ (u4_34 : Int32), E_X7_standOf_15 r5 x1 x2 K σ u4_34 → GMi p l e ({ frames := 4, cells := 0, slots := 0, locals := 91 } : Room) s m args below meth c K 9 D (tyM cI) (wM cI a) A 34 [(0, .ref (a 0)), (1, .int x1), (2, .int x2), (3, .int r5), (4, .int u4_34)] [] σ := by
    intro u4_34 h
    refine g_iconst (pc := 34) X ic_m1 dX7_standOf_34 ?_
    refine g_istore (pc := 35) (lv' := [(5, .int (-1 : Int32)), (0, .ref (a 0)), (1, .int x1), (2, .int x2), (3, .int r5), (4, .int u4_34)]) X (by decide) rfl dX7_standOf_35 ?_
    refine g_iconst (pc := 37) X ic_0 dX7_standOf_37 ?_
    refine g_istore (pc := 38) (lv' := [(6, .int (0 : Int32)), (5, .int (-1 : Int32)), (0, .ref (a 0)), (1, .int x1), (2, .int x2), (3, .int r5), (4, .int u4_34)]) X (by decide) rfl dX7_standOf_38 ?_
    obtain ⟨n40, h⟩ := h
    have X154 : ∀ (u5_154 : Int32) (ρe154 : Sg), E_X7_standOf_40 x2 K r5 u5_154 ρe154 → GMi p l e ({ frames := 4, cells := 0, slots := 0, locals := 91 } : Room) s m args below meth c K 9 D (tyM cI) (wM cI a) A 154 [(0, .ref (a 0)), (2, .int x2), (3, .int r5), (5, .int u5_154)] [] ρe154 := by
      intro u5_154 ρe154 h
      refine g_aload_n (pc := 154) X rfl 0 rfl dX7_standOf_154 ?_
      refine g_cVMv (pc := 155) (As := []) X hK hX hok hA mi_X7_find (c_X7_find  ρe154 _) (fun _ => ⟨_, wl_ate (oX7 (cI := cI) (a := a) k_isMod_0).1 ((oX7 (cI := cI) (a := a) k_isMod_0).2 _)⟩) rfl rfl kw4_67 ⟨rfl, rfl⟩ ⟨Nat.le_of_ble_eq_true rfl, Nat.le_of_ble_eq_true rfl⟩ rfl (Nat.le_of_ble_eq_true rfl) dX7_standOf_155 rfl h (fun τ155 h => ?_)
      refine g_iload_n (pc := 158) X rfl 1 rfl dX7_standOf_158 ?_
      refine g_iconst (pc := 159) X ic_m1 dX7_standOf_159 ?_
      refine g_icmp_ne (pc := 160) (tgt := 168) X (by decide) dX7_standOf_160 (fun c_160 => ?_) (fun c_160 => ?_)
      · have h := ite_f c_160 h
        refine g_iload_n (pc := 168) X rfl 1 rfl dX7_standOf_168 ?_
        refine g_iload_n (pc := 169) X rfl 2 rfl dX7_standOf_169 ?_
        refine g_icmp_ge (pc := 170) (tgt := 182) X (by decide) dX7_standOf_170 (fun c_170 => ?_) (fun c_170 => ?_)
        · have h := ite_t c_170 h
          refine g_iconst (pc := 182) X ic_m1 dX7_standOf_182 ?_
          exact g_retMi (pc := 183) X hK hr hlk dX7_standOf_183 h
        · have h := ite_f c_170 h
          refine g_aload_n (pc := 173) X rfl 0 rfl dX7_standOf_173 ?_
          refine fX7_52 (pc := 174) X hK hR k_isMod_0 dX7_standOf_174 ?_
          refine g_iload_n (pc := 177) X rfl 1 rfl dX7_standOf_177 ?_
          obtain ⟨h_178, h⟩ := h
          refine aX7_bestRow (pc := 178) X hK hR k_isMod_0 h_178 dX7_standOf_178 ?_
          refine g_goto (pc := 179) (tgt := 183) X (by decide) dX7_standOf_179 ?_
          exact g_retMi (pc := 183) X hK hr hlk dX7_standOf_183 h
      · have h := ite_t c_160 h
        refine g_iload (pc := 163) X 3 rfl dX7_standOf_163 ?_
        refine g_goto (pc := 165) (tgt := 183) X (by decide) dX7_standOf_165 ?_
        exact g_retMi (pc := 183) X hK hr hlk dX7_standOf_183 h
    have L40 : ∀ (n : Nat) (y5_40 : Int32) (y6_40 : Int32) (ρ40 : Sg), lq3 (F_X7_standOf_40 u4_34 r5 x1 (E_X7_standOf_40 x2 K r5)) n y5_40 y6_40 ρ40 → GMi p l e ({ frames := 4, cells := 0, slots := 0, locals := 91 } : Room) s m args below meth c K 9 D (tyM cI) (wM cI a) A 40 [(0, .ref (a 0)), (1, .int x1), (2, .int x2), (3, .int r5), (4, .int u4_34), (5, .int y5_40), (6, .int y6_40)] [] ρ40 := by
      intro n
      induction n with
      | zero =>
        intro y5_40 y6_40 ρ40 h
        exact h.elim
      | succ n ih =>
        intro y5_40 y6_40 ρ40 h
        have h : F_X7_standOf_40 u4_34 r5 x1 (E_X7_standOf_40 x2 K r5) (lq3 (F_X7_standOf_40 u4_34 r5 x1 (E_X7_standOf_40 x2 K r5)) n) y5_40 y6_40 ρ40 := h
        generalize lq3 (F_X7_standOf_40 u4_34 r5 x1 (E_X7_standOf_40 x2 K r5)) n = rec40 at h ih
        refine g_iload (pc := 40) X 6 rfl dX7_standOf_40 ?_
        refine g_iload (pc := 42) X 4 rfl dX7_standOf_42 ?_
        refine g_icmp_ge (pc := 44) (tgt := 154) X (by decide) dX7_standOf_44 (fun c_44 => ?_) (fun c_44 => ?_)
        · have h := ite_t c_44 h
          exact g_lv (X154 y5_40 ρ40 h) [0, 2, 3, 5] rfl
        · have h := ite_f c_44 h
          refine g_aload_n (pc := 47) X rfl 0 rfl dX7_standOf_47 ?_
          refine g_iload_n (pc := 48) X rfl 3 rfl dX7_standOf_48 ?_
          refine g_iload (pc := 49) X 6 rfl dX7_standOf_49 ?_
          refine g_cVMv (pc := 51) (As := [.int r5, .int y6_40]) X hK hX hok hA mi_X7_unfolds (c_X7_unfolds r5 y6_40 ρ40 _) (fun _ => ⟨_, wl_ate (oX7 (cI := cI) (a := a) k_isMod_0).1 ((oX7 (cI := cI) (a := a) k_isMod_0).2 _)⟩) rfl rfl kw4_157 ⟨rfl, rfl⟩ ⟨Nat.le_of_ble_eq_true rfl, Nat.le_of_ble_eq_true rfl⟩ rfl (Nat.le_of_ble_eq_true rfl) dX7_standOf_51 rfl h (fun τ51 h => ?_)
          refine g_iconst (pc := 54) X ic_0 dX7_standOf_54 ?_
          refine g_istore (pc := 55) (lv' := [(7, .int (0 : Int32)), (0, .ref (a 0)), (1, .int x1), (2, .int x2), (3, .int r5), (4, .int u4_34), (5, .int y5_40), (6, .int y6_40)]) X (by decide) rfl dX7_standOf_55 ?_
          obtain ⟨n57, h⟩ := h
          have X90 : ∀ (ρe90 : Sg), E_X7_standOf_57 x1 y5_40 r5 rec40 y6_40 ρe90 → GMi p l e ({ frames := 4, cells := 0, slots := 0, locals := 91 } : Room) s m args below meth c K 9 D (tyM cI) (wM cI a) A 90 [(0, .ref (a 0)), (1, .int x1), (2, .int x2), (3, .int r5), (4, .int u4_34), (5, .int y5_40), (6, .int y6_40)] [] ρe90 := by
            intro ρe90 h
            refine g_aload_n (pc := 90) X rfl 0 rfl dX7_standOf_90 ?_
            refine g_cVMv (pc := 91) (As := []) X hK hX hok hA mi_X7_findNotes (c_X7_findNotes  ρe90 _) (fun _ => ⟨_, wl_ate (oX7 (cI := cI) (a := a) k_isMod_0).1 ((oX7 (cI := cI) (a := a) k_isMod_0).2 _)⟩) rfl rfl kw4_71 ⟨rfl, rfl⟩ ⟨Nat.le_of_ble_eq_true rfl, Nat.le_of_ble_eq_true rfl⟩ rfl (Nat.le_of_ble_eq_true rfl) dX7_standOf_91 rfl h (fun τ91 h => ?_)
            refine g_aload_n (pc := 94) X rfl 0 rfl dX7_standOf_94 ?_
            refine g_iload_n (pc := 95) X rfl 1 rfl dX7_standOf_95 ?_
            refine g_iconst (pc := 96) X ic_0 dX7_standOf_96 ?_
            refine g_cVPi (pc := 97) (As := [.int x1, .int (0 : Int32)]) X hK hR mi_X7_spreadOf (c_X7_spreadOf x1 (0 : Int32) τ91 _) (wl_ate (oX7 (cI := cI) (a := a) k_isMod_0).1 ((oX7 (cI := cI) (a := a) k_isMod_0).2 _)) rfl rfl kw4_118 ⟨rfl, rfl⟩ ⟨Nat.le_of_ble_eq_true rfl, Nat.le_of_ble_eq_true rfl⟩ rfl (Nat.le_of_ble_eq_true rfl) dX7_standOf_97 rfl h (fun r97 h => ?_)
            refine g_istore (pc := 100) (lv' := [(7, .int r97), (0, .ref (a 0)), (1, .int x1), (2, .int x2), (3, .int r5), (4, .int u4_34), (5, .int y5_40), (6, .int y6_40)]) X (by decide) rfl dX7_standOf_100 ?_
            refine g_iload (pc := 102) X 6 rfl dX7_standOf_102 ?_
            refine g_iconst (pc := 104) X ic_m1 dX7_standOf_104 ?_
            have J115 : ∀ (_ : Unit), J_X7_standOf_115 r5 rec40 r97 y6_40 τ91 → GMi p l e ({ frames := 4, cells := 0, slots := 0, locals := 91 } : Room) s m args below meth c K 9 D (tyM cI) (wM cI a) A 115 [(0, .ref (a 0)), (1, .int x1), (2, .int x2), (3, .int r5), (4, .int u4_34), (6, .int y6_40), (7, .int r97)] [] τ91 := by
              intro _ h
              refine g_iload (pc := 115) X 6 rfl dX7_standOf_115 ?_
              refine g_istore (pc := 117) (lv' := [(5, .int r97), (0, .ref (a 0)), (1, .int x1), (2, .int x2), (3, .int r5), (4, .int u4_34), (6, .int y6_40), (7, .int r97)]) X (by decide) rfl dX7_standOf_117 ?_
              refine g_iconst (pc := 119) X ic_0 dX7_standOf_119 ?_
              refine g_istore (pc := 120) (lv' := [(8, .int (0 : Int32)), (5, .int r97), (0, .ref (a 0)), (1, .int x1), (2, .int x2), (3, .int r5), (4, .int u4_34), (6, .int y6_40), (7, .int r97)]) X (by decide) rfl dX7_standOf_120 ?_
              obtain ⟨n122, h⟩ := h
              have X148 : ∀ (ρe148 : Sg), E_X7_standOf_122 rec40 r97 y6_40 ρe148 → GMi p l e ({ frames := 4, cells := 0, slots := 0, locals := 91 } : Room) s m args below meth c K 9 D (tyM cI) (wM cI a) A 148 [(0, .ref (a 0)), (1, .int x1), (2, .int x2), (3, .int r5), (4, .int u4_34), (5, .int r97), (6, .int y6_40)] [] ρe148 := by
                intro ρe148 h
                refine g_iinc (pc := 148) (lv' := [(6, .int (y6_40 + (1 : Int32))), (0, .ref (a 0)), (1, .int x1), (2, .int x2), (3, .int r5), (4, .int u4_34), (5, .int r97)]) X 6 rfl rfl (by decide) rfl dX7_standOf_148 ?_
                refine g_goto (pc := 151) (tgt := 40) X (by decide) dX7_standOf_151 ?_
                exact g_lv (ih r97 (y6_40 + (1 : Int32)) ρe148 h) [1, 2, 3, 4, 5, 6, 0] rfl
              have L122 : ∀ (n : Nat) (y8_122 : Int32) (ρ122 : Sg), lq2 (F_X7_standOf_122 r5 (E_X7_standOf_122 rec40 r97 y6_40)) n y8_122 ρ122 → GMi p l e ({ frames := 4, cells := 0, slots := 0, locals := 91 } : Room) s m args below meth c K 9 D (tyM cI) (wM cI a) A 122 [(0, .ref (a 0)), (1, .int x1), (2, .int x2), (3, .int r5), (4, .int u4_34), (5, .int r97), (6, .int y6_40), (8, .int y8_122)] [] ρ122 := by
                intro n
                induction n with
                | zero =>
                  intro y8_122 ρ122 h
                  exact h.elim
                | succ n ih =>
                  intro y8_122 ρ122 h
                  have h : F_X7_standOf_122 r5 (E_X7_standOf_122 rec40 r97 y6_40) (lq2 (F_X7_standOf_122 r5 (E_X7_standOf_122 rec40 r97 y6_40)) n) y8_122 ρ122 := h
                  refine g_iload (pc := 122) X 7 rfl dX7_standOf_122 ?_
                  refine g_iload_n (pc := 124) X rfl 3 rfl dX7_standOf_124 ?_
                  refine g_icmp_ge (pc := 125) (tgt := 148) X (by decide) dX7_standOf_125 (fun c_125 => ?_) (fun c_125 => ?_)
                  · have h := ite_t c_125 h
                    exact g_lv (X148 ρ122 h) [0, 1, 2, 3, 4, 5, 6] rfl
                  · have h := ite_f c_125 h
                    refine g_aload_n (pc := 128) X rfl 0 rfl dX7_standOf_128 ?_
                    refine fX7_52 (pc := 129) X hK hR k_isMod_0 dX7_standOf_129 ?_
                    refine g_iload (pc := 132) X 7 rfl dX7_standOf_132 ?_
                    refine g_aload_n (pc := 134) X rfl 0 rfl dX7_standOf_134 ?_
                    refine fX7_49 (pc := 135) X hK hR k_isMod_0 dX7_standOf_135 ?_
                    refine g_iload (pc := 138) X 7 rfl dX7_standOf_138 ?_
                    obtain ⟨h_140, h⟩ := h
                    refine aX7_row (pc := 140) X hK hR k_isMod_0 h_140 dX7_standOf_140 ?_
                    obtain ⟨h_141, h⟩ := h
                    refine tX7_bestRow (pc := 141) X hK k_isMod_0 h_141 dX7_standOf_141 (fun τ141 eτ141 => ?_)
                    have h := h τ141 eτ141
                    refine g_iinc (pc := 142) (lv' := [(8, .int (y8_122 + (1 : Int32))), (0, .ref (a 0)), (1, .int x1), (2, .int x2), (3, .int r5), (4, .int u4_34), (5, .int r97), (6, .int y6_40)]) X 7 rfl rfl (by decide) rfl dX7_standOf_142 ?_
                    refine g_goto (pc := 145) (tgt := 122) X (by decide) dX7_standOf_145 ?_
                    exact g_lv (ih (y8_122 + (1 : Int32)) τ141 h) [1, 2, 3, 4, 5, 6, 7, 0] rfl
              exact g_lv (L122 n122 (0 : Int32) τ91 h) [2, 3, 4, 5, 6, 1, 7, 0] rfl
            refine g_icmp_eq (pc := 105) (tgt := 115) X (by decide) dX7_standOf_105 (fun c_105 => ?_) (fun c_105 => ?_)
            · have h := ite_t c_105 h
              exact g_lv (J115 () h) [1, 2, 3, 4, 5, 7, 0] rfl
            · have h := ite_f c_105 h
              refine g_iload (pc := 108) X 0 rfl dX7_standOf_108 ?_
              refine g_iload (pc := 110) X 6 rfl dX7_standOf_110 ?_
              refine g_icmp_ge (pc := 112) (tgt := 148) X (by decide) dX7_standOf_112 (fun c_112 => ?_) (fun c_112 => ?_)
              · have h := ite_t c_112 h
                refine g_iinc (pc := 148) (lv' := [(6, .int (y6_40 + (1 : Int32))), (7, .int r97), (0, .ref (a 0)), (1, .int x1), (2, .int x2), (3, .int r5), (4, .int u4_34), (5, .int y5_40)]) X 7 rfl rfl (by decide) rfl dX7_standOf_148 ?_
                refine g_goto (pc := 151) (tgt := 40) X (by decide) dX7_standOf_151 ?_
                exact g_lv (ih y5_40 (y6_40 + (1 : Int32)) τ91 h) [2, 3, 4, 5, 6, 7, 0] rfl
              · have h := ite_f c_112 h
                exact g_lv (J115 () h) [1, 2, 3, 4, 5, 7, 0] rfl
          have L57 : ∀ (n : Nat) (y7_57 : Int32) (ρ57 : Sg), lq2 (F_X7_standOf_57 r5 (E_X7_standOf_57 x1 y5_40 r5 rec40 y6_40)) n y7_57 ρ57 → GMi p l e ({ frames := 4, cells := 0, slots := 0, locals := 91 } : Room) s m args below meth c K 9 D (tyM cI) (wM cI a) A 57 [(0, .ref (a 0)), (1, .int x1), (2, .int x2), (3, .int r5), (4, .int u4_34), (5, .int y5_40), (6, .int y6_40), (7, .int y7_57)] [] ρ57 := by
            intro n
            induction n with
            | zero =>
              intro y7_57 ρ57 h
              exact h.elim
            | succ n ih =>
              intro y7_57 ρ57 h
              have h : F_X7_standOf_57 r5 (E_X7_standOf_57 x1 y5_40 r5 rec40 y6_40) (lq2 (F_X7_standOf_57 r5 (E_X7_standOf_57 x1 y5_40 r5 rec40 y6_40)) n) y7_57 ρ57 := h
              refine g_iload (pc := 57) X 7 rfl dX7_standOf_57 ?_
              refine g_iload_n (pc := 59) X rfl 3 rfl dX7_standOf_59 ?_
              refine g_icmp_ge (pc := 60) (tgt := 90) X (by decide) dX7_standOf_60 (fun c_60 => ?_) (fun c_60 => ?_)
              · have h := ite_t c_60 h
                exact g_lv (X90 ρ57 h) [0, 1, 2, 3, 4, 5, 6] rfl
              · have h := ite_f c_60 h
                refine g_aload_n (pc := 63) X rfl 0 rfl dX7_standOf_63 ?_
                refine fX7_37 (pc := 64) X hK hR k_isMod_0 dX7_standOf_64 ?_
                refine g_iload (pc := 67) X 7 rfl dX7_standOf_67 ?_
                refine g_aload_n (pc := 69) X rfl 0 rfl dX7_standOf_69 ?_
                refine fX7_28 (pc := 70) X hK hR k_isMod_0 dX7_standOf_70 ?_
                refine g_iconst (pc := 73) X ic_4 dX7_standOf_73 ?_
                refine g_aload_n (pc := 74) X rfl 0 rfl dX7_standOf_74 ?_
                refine fX7_49 (pc := 75) X hK hR k_isMod_0 dX7_standOf_75 ?_
                refine g_iload (pc := 78) X 7 rfl dX7_standOf_78 ?_
                obtain ⟨h_80, h⟩ := h
                refine aX7_row (pc := 80) X hK hR k_isMod_0 h_80 dX7_standOf_80 ?_
                refine g_imul (pc := 81) X dX7_standOf_81 ?_
                obtain ⟨h_82, h⟩ := h
                refine aX7_singer (pc := 82) X hK hR k_isMod_0 h_82 dX7_standOf_82 ?_
                obtain ⟨h_83, h⟩ := h
                refine tX7_places (pc := 83) X hK k_isMod_0 h_83 dX7_standOf_83 (fun τ83 eτ83 => ?_)
                have h := h τ83 eτ83
                refine g_iinc (pc := 84) (lv' := [(7, .int (y7_57 + (1 : Int32))), (0, .ref (a 0)), (1, .int x1), (2, .int x2), (3, .int r5), (4, .int u4_34), (5, .int y5_40), (6, .int y6_40)]) X 7 rfl rfl (by decide) rfl dX7_standOf_84 ?_
                refine g_goto (pc := 87) (tgt := 57) X (by decide) dX7_standOf_87 ?_
                exact g_lv (ih (y7_57 + (1 : Int32)) τ83 h) [1, 2, 3, 4, 5, 6, 7, 0] rfl
          exact g_lv (L57 n57 (0 : Int32) τ51 h) [1, 2, 3, 4, 5, 6, 7, 0] rfl
    exact g_lv (L40 n40 (-1 : Int32) (0 : Int32) σ h) [2, 3, 4, 5, 6, 1, 0] rfl
  have L15 : ∀ (n : Nat) (y4_15 : Int32) (y5_15 : Int32), lq2 (F_X7_standOf_15 r5 (E_X7_standOf_15 r5 x1 x2 K σ)) n y4_15 y5_15 → GMi p l e ({ frames := 4, cells := 0, slots := 0, locals := 91 } : Room) s m args below meth c K 9 D (tyM cI) (wM cI a) A 15 [(0, .ref (a 0)), (1, .int x1), (2, .int x2), (3, .int r5), (4, .int y4_15), (5, .int y5_15)] [] σ := by
    intro n
    induction n with
    | zero =>
      intro y4_15 y5_15 h
      exact h.elim
    | succ n ih =>
      intro y4_15 y5_15 h
      have h : F_X7_standOf_15 r5 (E_X7_standOf_15 r5 x1 x2 K σ) (lq2 (F_X7_standOf_15 r5 (E_X7_standOf_15 r5 x1 x2 K σ)) n) y4_15 y5_15 := h
      refine g_iload (pc := 15) X 5 rfl dX7_standOf_15 ?_
      refine g_iload_n (pc := 17) X rfl 3 rfl dX7_standOf_17 ?_
      refine g_icmp_gt (pc := 18) (tgt := 34) X (by decide) dX7_standOf_18 (fun c_18 => ?_) (fun c_18 => ?_)
      · have h := ite_t c_18 h
        exact g_lv (X34 y4_15 h) [0, 1, 2, 3, 4] rfl
      · have h := ite_f c_18 h
        refine g_iload (pc := 21) X 4 rfl dX7_standOf_21 ?_
        refine g_iload (pc := 23) X 5 rfl dX7_standOf_23 ?_
        refine g_imul (pc := 25) X dX7_standOf_25 ?_
        refine g_istore (pc := 26) (lv' := [(4, .int (y4_15 * y5_15)), (0, .ref (a 0)), (1, .int x1), (2, .int x2), (3, .int r5), (5, .int y5_15)]) X (by decide) rfl dX7_standOf_26 ?_
        refine g_iinc (pc := 28) (lv' := [(5, .int (y5_15 + (1 : Int32))), (4, .int (y4_15 * y5_15)), (0, .ref (a 0)), (1, .int x1), (2, .int x2), (3, .int r5)]) X 5 rfl rfl (by decide) rfl dX7_standOf_28 ?_
        refine g_goto (pc := 31) (tgt := 15) X (by decide) dX7_standOf_31 ?_
        exact g_lv (ih (y4_15 * y5_15) (y5_15 + (1 : Int32)) h) [2, 3, 4, 5, 1, 0] rfl
  exact g_lv (L15 n15 (1 : Int32) (2 : Int32) h) [3, 4, 5, 2, 1, 0] rfl
set_option maxRecDepth 20000 in
theorem c_X7_stand (x1 : Int32) (x2 : Int32) (σ : Sg) (K : Int32 → Sg → Prop) : ∀ sz, Met l yX7_stand (.code yX7_stand cX7_stand 3 (some .int) :: AW) ({ frames := 5, cells := 0, slots := 0, locals := 119 } : Room) (pvM D (tyM cI) SXM (wM cI a σ) sz (w_X7_stand x1 x2 σ K) [.ref (a 0), .int x1, .int x2]) (va_Qi K (atM D (tyM cI) (wM cI a) (va_A (wM cI a σ) sz)) (va_A (wM cI a σ) sz)) 0 0 (va_A (wM cI a σ) sz) := by
  intro sz
  refine met_Mi (own := "TrainNoteModel") (lv := [(0, .ref (a 0)), (1, .int x1), (2, .int x2)]) (by decide +kernel) rfl (Nat.le_of_ble_eq_true rfl) rfl ?_
  intro p e s m args below meth c A X hK hX hA hr hlk h
  have hR : ∀ σ H locs, hpM D (wM cI a) A s σ H locs → va_P D vwCl ((wM cI a σ)) H := fun _ _ _ h => h.1
  have hok := SXM_ok
  refine g_aload_n (pc := 0) X rfl 0 rfl dX7_stand_0 ?_
  refine g_cVMv (pc := 1) (As := []) X hK hX hok hA mi_X7_find (c_X7_find  σ _) (fun _ => ⟨_, wl_ate (oX7 (cI := cI) (a := a) k_isMod_0).1 ((oX7 (cI := cI) (a := a) k_isMod_0).2 _)⟩) rfl rfl kw4_67 ⟨rfl, rfl⟩ ⟨Nat.le_of_ble_eq_true rfl, Nat.le_of_ble_eq_true rfl⟩ rfl (Nat.le_of_ble_eq_true rfl) dX7_stand_1 rfl h (fun τ1 h => ?_)
  refine g_aload_n (pc := 4) X rfl 0 rfl dX7_stand_4 ?_
  refine g_iload_n (pc := 5) X rfl 1 rfl dX7_stand_5 ?_
  refine g_cVPi (pc := 6) (As := [.int x1]) X hK hR mi_X7_isBar (c_X7_isBar x1 τ1 _) (wl_ate (oX7 (cI := cI) (a := a) k_isMod_0).1 ((oX7 (cI := cI) (a := a) k_isMod_0).2 _)) rfl rfl kw4_94 ⟨rfl, rfl⟩ ⟨Nat.le_of_ble_eq_true rfl, Nat.le_of_ble_eq_true rfl⟩ rfl (Nat.le_of_ble_eq_true rfl) dX7_stand_6 rfl h (fun r6 h => ?_)
  refine g_if_eq (pc := 9) (tgt := 35) X (by decide) dX7_stand_9 (fun c_9 => ?_) (fun c_9 => ?_)
  · have h := ite_t c_9 h
    refine g_bipush (pc := 35) X bp_m2 dX7_stand_35 ?_
    exact g_retMi (pc := 37) X hK hr hlk dX7_stand_37 h
  · have h := ite_f c_9 h
    refine g_iload_n (pc := 12) X rfl 2 rfl dX7_stand_12 ?_
    refine g_i2l (pc := 13) X dX7_stand_13 ?_
    refine g_ldc2 (pc := 14) X kw4_151 dX7_stand_14 ?_
    refine g_ldc2 (pc := 17) X kw4_152 dX7_stand_17 ?_
    refine g_cS0i (pc := 20) (As := [.long (x2).toInt64, .long (-1 : Int64), .long (4 : Int64)]) X mi_X7_in (c_X7_in (x2).toInt64 (-1 : Int64) (4 : Int64) _) kw3_210 ⟨rfl, rfl⟩ ⟨Nat.le_of_ble_eq_true rfl, Nat.le_of_ble_eq_true rfl⟩ rfl (Nat.le_of_ble_eq_true rfl) dX7_stand_20 rfl h (fun r20 h => ?_)
    refine g_if_eq (pc := 23) (tgt := 35) X (by decide) dX7_stand_23 (fun c_23 => ?_) (fun c_23 => ?_)
    · have h := ite_t c_23 h
      refine g_bipush (pc := 35) X bp_m2 dX7_stand_35 ?_
      exact g_retMi (pc := 37) X hK hr hlk dX7_stand_37 h
    · have h := ite_f c_23 h
      refine g_aload_n (pc := 26) X rfl 0 rfl dX7_stand_26 ?_
      refine g_iload_n (pc := 27) X rfl 1 rfl dX7_stand_27 ?_
      refine g_iload_n (pc := 28) X rfl 2 rfl dX7_stand_28 ?_
      refine g_cVMi (pc := 29) (As := [.int x1, .int x2]) X hK hX hok hA mi_X7_standOf (c_X7_standOf x1 x2 τ1 _) (fun _ => ⟨_, wl_ate (oX7 (cI := cI) (a := a) k_isMod_0).1 ((oX7 (cI := cI) (a := a) k_isMod_0).2 _)⟩) rfl rfl kw4_153 ⟨rfl, rfl⟩ ⟨Nat.le_of_ble_eq_true rfl, Nat.le_of_ble_eq_true rfl⟩ rfl (Nat.le_of_ble_eq_true rfl) dX7_stand_29 rfl h (fun r29 τ29 h => ?_)
      refine g_goto (pc := 32) (tgt := 37) X (by decide) dX7_stand_32 ?_
      exact g_retMi (pc := 37) X hK hr hlk dX7_stand_37 h
set_option maxRecDepth 20000 in
theorem c_X7_hushOf (x1 : Int32) (x2 : Int32) (σ : Sg) (K : Int32 → Prop) : Met l yX7_hushOf (.code yX7_hushOf cX7_hushOf 5 (some .int) :: AW) ({ frames := 2, cells := 0, slots := 0, locals := 51 } : Room) (pvP D (tyM cI) (wM cI a σ) (w_X7_hushOf x1 x2 σ K) [.ref (a 0), .int x1, .int x2]) (vp_Si K) 0 0 (fun _ => False) := by
  refine met_Pi (own := "TrainNoteModel") (lv := [(0, .ref (a 0)), (1, .int x1), (2, .int x2)]) (by decide +kernel) rfl (Nat.le_of_ble_eq_true rfl) rfl ?_
  intro p e s m args below meth c X hK hr hlk h
  have hR : ∀ σ H locs, hpP D (wM cI a) s σ H locs → va_P D vwCl ((wM cI a σ)) H := fun _ _ _ h => h.1
  refine g_iconst (pc := 0) X ic_m1 dX7_hushOf_0 ?_
  refine g_istore_n (pc := 1) (lv' := [(3, .int (-1 : Int32)), (0, .ref (a 0)), (1, .int x1), (2, .int x2)]) X rfl (by decide) rfl dX7_hushOf_1 ?_
  refine g_iconst (pc := 2) X ic_0 dX7_hushOf_2 ?_
  refine g_istore (pc := 3) (lv' := [(4, .int (0 : Int32)), (3, .int (-1 : Int32)), (0, .ref (a 0)), (1, .int x1), (2, .int x2)]) X (by decide) rfl dX7_hushOf_3 ?_
  obtain ⟨n5, h⟩ := h
  have X62 : ∀ (u3_62 : Int32), E_X7_hushOf_5 x2 K u3_62 → GPi p l e ({ frames := 2, cells := 0, slots := 0, locals := 51 } : Room) s m args below meth c K 5 D (wM cI a) 62 [(2, .int x2), (3, .int u3_62)] [] σ := by
    intro u3_62 h
    refine g_iload_n (pc := 62) X rfl 0 rfl dX7_hushOf_62 ?_
    refine g_if_ne (pc := 63) (tgt := 73) X (by decide) dX7_hushOf_63 (fun c_63 => ?_) (fun c_63 => ?_)
    · have h := ite_f c_63 h
      refine g_iload_n (pc := 73) X rfl 1 rfl dX7_hushOf_73 ?_
      exact g_retPi (pc := 74) X hr hlk dX7_hushOf_74 h
    · have h := ite_t c_63 h
      refine g_iload_n (pc := 66) X rfl 1 rfl dX7_hushOf_66 ?_
      refine g_cS0i (pc := 67) (As := [.int u3_62]) X mi_X7_ones (c_X7_ones u3_62 _) kw4_169 ⟨rfl, rfl⟩ ⟨Nat.le_of_ble_eq_true rfl, Nat.le_of_ble_eq_true rfl⟩ rfl (Nat.le_of_ble_eq_true rfl) dX7_hushOf_67 rfl h (fun r67 h => ?_)
      refine g_goto (pc := 70) (tgt := 74) X (by decide) dX7_hushOf_70 ?_
      exact g_retPi (pc := 74) X hr hlk dX7_hushOf_74 h
  have L5 : ∀ (n : Nat) (y3_5 : Int32) (y4_5 : Int32), lq2 (F_X7_hushOf_5 σ x1 (E_X7_hushOf_5 x2 K)) n y3_5 y4_5 → GPi p l e ({ frames := 2, cells := 0, slots := 0, locals := 51 } : Room) s m args below meth c K 5 D (wM cI a) 5 [(0, .ref (a 0)), (1, .int x1), (2, .int x2), (3, .int y3_5), (4, .int y4_5)] [] σ := by
    intro n
    induction n with
    | zero =>
      intro y3_5 y4_5 h
      exact h.elim
    | succ n ih =>
      intro y3_5 y4_5 h
      have h : F_X7_hushOf_5 σ x1 (E_X7_hushOf_5 x2 K) (lq2 (F_X7_hushOf_5 σ x1 (E_X7_hushOf_5 x2 K)) n) y3_5 y4_5 := h
      generalize lq2 (F_X7_hushOf_5 σ x1 (E_X7_hushOf_5 x2 K)) n = rec5 at h ih
      refine g_iload (pc := 5) X 4 rfl dX7_hushOf_5 ?_
      refine g_iconst (pc := 7) X ic_1 dX7_hushOf_7 ?_
      refine g_aload_n (pc := 8) X rfl 0 rfl dX7_hushOf_8 ?_
      refine fX7_101 (pc := 9) X hK hR k_isMod_0 dX7_hushOf_9 ?_
      refine g_ishl (pc := 12) X dX7_hushOf_12 ?_
      refine g_icmp_ge (pc := 13) (tgt := 62) X (by decide) dX7_hushOf_13 (fun c_13 => ?_) (fun c_13 => ?_)
      · have h := ite_t c_13 h
        exact g_lv (X62 y3_5 h) [2, 3] rfl
      · have h := ite_f c_13 h
        refine g_iload_n (pc := 16) X rfl 3 rfl dX7_hushOf_16 ?_
        refine g_iconst (pc := 17) X ic_m1 dX7_hushOf_17 ?_
        have J33 : ∀ (_ : Unit), J_X7_hushOf_33 x1 y4_5 σ rec5 y3_5 → GPi p l e ({ frames := 2, cells := 0, slots := 0, locals := 51 } : Room) s m args below meth c K 5 D (wM cI a) 33 [(0, .ref (a 0)), (1, .int x1), (2, .int x2), (3, .int y3_5), (4, .int y4_5)] [] σ := by
          intro _ h
          refine g_aload_n (pc := 33) X rfl 0 rfl dX7_hushOf_33 ?_
          refine g_iload_n (pc := 34) X rfl 1 rfl dX7_hushOf_34 ?_
          refine g_iload (pc := 35) X 4 rfl dX7_hushOf_35 ?_
          refine g_cVPi (pc := 37) (As := [.int x1, .int y4_5]) X hK hR mi_X7_spreadOf (c_X7_spreadOf x1 y4_5 σ _) (wl_ate (oX7 (cI := cI) (a := a) k_isMod_0).1 ((oX7 (cI := cI) (a := a) k_isMod_0).2 _)) rfl rfl kw4_118 ⟨rfl, rfl⟩ ⟨Nat.le_of_ble_eq_true rfl, Nat.le_of_ble_eq_true rfl⟩ rfl (Nat.le_of_ble_eq_true rfl) dX7_hushOf_37 rfl h (fun r37 h => ?_)
          refine g_aload_n (pc := 40) X rfl 0 rfl dX7_hushOf_40 ?_
          refine fX7_34 (pc := 41) X hK hR k_isMod_0 dX7_hushOf_41 ?_
          refine g_iconst (pc := 44) X ic_3 dX7_hushOf_44 ?_
          obtain ⟨h_45, h⟩ := h
          refine aX7_train (pc := 45) X hK hR k_isMod_0 h_45 dX7_hushOf_45 ?_
          refine g_icmp_gt (pc := 46) (tgt := 54) X (by decide) dX7_hushOf_46 (fun c_46 => ?_) (fun c_46 => ?_)
          · have h := ite_t c_46 h
            refine g_iload_n (pc := 54) X rfl 3 rfl dX7_hushOf_54 ?_
            refine g_istore_n (pc := 55) (lv' := [(3, .int y3_5), (0, .ref (a 0)), (1, .int x1), (2, .int x2), (4, .int y4_5)]) X rfl (by decide) rfl dX7_hushOf_55 ?_
            refine g_iinc (pc := 56) (lv' := [(4, .int (y4_5 + (1 : Int32))), (3, .int y3_5), (0, .ref (a 0)), (1, .int x1), (2, .int x2)]) X 4 rfl rfl (by decide) rfl dX7_hushOf_56 ?_
            refine g_goto (pc := 59) (tgt := 5) X (by decide) dX7_hushOf_59 ?_
            exact g_lv (ih y3_5 (y4_5 + (1 : Int32)) h) [2, 3, 4, 1, 0] rfl
          · have h := ite_f c_46 h
            refine g_iload (pc := 49) X 4 rfl dX7_hushOf_49 ?_
            refine g_goto (pc := 51) (tgt := 55) X (by decide) dX7_hushOf_51 ?_
            refine g_istore_n (pc := 55) (lv' := [(3, .int y4_5), (0, .ref (a 0)), (1, .int x1), (2, .int x2), (4, .int y4_5)]) X rfl (by decide) rfl dX7_hushOf_55 ?_
            refine g_iinc (pc := 56) (lv' := [(4, .int (y4_5 + (1 : Int32))), (3, .int y4_5), (0, .ref (a 0)), (1, .int x1), (2, .int x2)]) X 4 rfl rfl (by decide) rfl dX7_hushOf_56 ?_
            refine g_goto (pc := 59) (tgt := 5) X (by decide) dX7_hushOf_59 ?_
            exact g_lv (ih y4_5 (y4_5 + (1 : Int32)) h) [2, 3, 4, 1, 0] rfl
        refine g_icmp_eq (pc := 18) (tgt := 33) X (by decide) dX7_hushOf_18 (fun c_18 => ?_) (fun c_18 => ?_)
        · have h := ite_t c_18 h
          exact g_lv (J33 () h) [0, 1, 2, 3, 4] rfl
        · have h := ite_f c_18 h
          refine g_iload (pc := 21) X 4 rfl dX7_hushOf_21 ?_
          refine g_cS0i (pc := 23) (As := [.int y4_5]) X mi_X7_ones (c_X7_ones y4_5 _) kw4_169 ⟨rfl, rfl⟩ ⟨Nat.le_of_ble_eq_true rfl, Nat.le_of_ble_eq_true rfl⟩ rfl (Nat.le_of_ble_eq_true rfl) dX7_hushOf_23 rfl h (fun r23 h => ?_)
          refine g_iload_n (pc := 26) X rfl 3 rfl dX7_hushOf_26 ?_
          refine g_cS0i (pc := 27) (As := [.int y3_5]) X mi_X7_ones (c_X7_ones y3_5 _) kw4_169 ⟨rfl, rfl⟩ ⟨Nat.le_of_ble_eq_true rfl, Nat.le_of_ble_eq_true rfl⟩ rfl (Nat.le_of_ble_eq_true rfl) dX7_hushOf_27 rfl h (fun r27 h => ?_)
          refine g_icmp_ge (pc := 30) (tgt := 56) X (by decide) dX7_hushOf_30 (fun c_30 => ?_) (fun c_30 => ?_)
          · have h := ite_t c_30 h
            refine g_iinc (pc := 56) (lv' := [(4, .int (y4_5 + (1 : Int32))), (0, .ref (a 0)), (1, .int x1), (2, .int x2), (3, .int y3_5)]) X 4 rfl rfl (by decide) rfl dX7_hushOf_56 ?_
            refine g_goto (pc := 59) (tgt := 5) X (by decide) dX7_hushOf_59 ?_
            exact g_lv (ih y3_5 (y4_5 + (1 : Int32)) h) [1, 2, 3, 4, 0] rfl
          · have h := ite_f c_30 h
            exact g_lv (J33 () h) [0, 1, 2, 3, 4] rfl
  exact g_lv (L5 n5 (-1 : Int32) (0 : Int32) h) [2, 3, 4, 1, 0] rfl
set_option maxRecDepth 20000 in
theorem c_X7_hush (x1 : Int32) (x2 : Int32) (σ : Sg) (K : Int32 → Sg → Prop) : ∀ sz, Met l yX7_hush (.code yX7_hush cX7_hush 3 (some .int) :: AW) ({ frames := 4, cells := 0, slots := 0, locals := 91 } : Room) (pvM D (tyM cI) SXM (wM cI a σ) sz (w_X7_hush x1 x2 σ K) [.ref (a 0), .int x1, .int x2]) (va_Qi K (atM D (tyM cI) (wM cI a) (va_A (wM cI a σ) sz)) (va_A (wM cI a σ) sz)) 0 0 (va_A (wM cI a σ) sz) := by
  intro sz
  refine met_Mi (own := "TrainNoteModel") (lv := [(0, .ref (a 0)), (1, .int x1), (2, .int x2)]) (by decide +kernel) rfl (Nat.le_of_ble_eq_true rfl) rfl ?_
  intro p e s m args below meth c A X hK hX hA hr hlk h
  have hR : ∀ σ H locs, hpM D (wM cI a) A s σ H locs → va_P D vwCl ((wM cI a σ)) H := fun _ _ _ h => h.1
  have hok := SXM_ok
  refine g_aload_n (pc := 0) X rfl 0 rfl dX7_hush_0 ?_
  refine g_cVMv (pc := 1) (As := []) X hK hX hok hA mi_X7_find (c_X7_find  σ _) (fun _ => ⟨_, wl_ate (oX7 (cI := cI) (a := a) k_isMod_0).1 ((oX7 (cI := cI) (a := a) k_isMod_0).2 _)⟩) rfl rfl kw4_67 ⟨rfl, rfl⟩ ⟨Nat.le_of_ble_eq_true rfl, Nat.le_of_ble_eq_true rfl⟩ rfl (Nat.le_of_ble_eq_true rfl) dX7_hush_1 rfl h (fun τ1 h => ?_)
  refine g_aload_n (pc := 4) X rfl 0 rfl dX7_hush_4 ?_
  refine g_iload_n (pc := 5) X rfl 1 rfl dX7_hush_5 ?_
  refine g_cVPi (pc := 6) (As := [.int x1]) X hK hR mi_X7_isBar (c_X7_isBar x1 τ1 _) (wl_ate (oX7 (cI := cI) (a := a) k_isMod_0).1 ((oX7 (cI := cI) (a := a) k_isMod_0).2 _)) rfl rfl kw4_94 ⟨rfl, rfl⟩ ⟨Nat.le_of_ble_eq_true rfl, Nat.le_of_ble_eq_true rfl⟩ rfl (Nat.le_of_ble_eq_true rfl) dX7_hush_6 rfl h (fun r6 h => ?_)
  refine g_if_eq (pc := 9) (tgt := 28) X (by decide) dX7_hush_9 (fun c_9 => ?_) (fun c_9 => ?_)
  · have h := ite_t c_9 h
    refine g_bipush (pc := 28) X bp_m2 dX7_hush_28 ?_
    exact g_retMi (pc := 30) X hK hr hlk dX7_hush_30 h
  · have h := ite_f c_9 h
    refine g_iload_n (pc := 12) X rfl 2 rfl dX7_hush_12 ?_
    refine g_cS0i (pc := 13) (As := [.int x2]) X mi_X7_isTwo (c_X7_isTwo x2 _) kw4_6 ⟨rfl, rfl⟩ ⟨Nat.le_of_ble_eq_true rfl, Nat.le_of_ble_eq_true rfl⟩ rfl (Nat.le_of_ble_eq_true rfl) dX7_hush_13 rfl h (fun r13 h => ?_)
    refine g_if_eq (pc := 16) (tgt := 28) X (by decide) dX7_hush_16 (fun c_16 => ?_) (fun c_16 => ?_)
    · have h := ite_t c_16 h
      refine g_bipush (pc := 28) X bp_m2 dX7_hush_28 ?_
      exact g_retMi (pc := 30) X hK hr hlk dX7_hush_30 h
    · have h := ite_f c_16 h
      refine g_aload_n (pc := 19) X rfl 0 rfl dX7_hush_19 ?_
      refine g_iload_n (pc := 20) X rfl 1 rfl dX7_hush_20 ?_
      refine g_iload_n (pc := 21) X rfl 2 rfl dX7_hush_21 ?_
      refine g_cVPi (pc := 22) (As := [.int x1, .int x2]) X hK hR mi_X7_hushOf (c_X7_hushOf x1 x2 τ1 _) (wl_ate (oX7 (cI := cI) (a := a) k_isMod_0).1 ((oX7 (cI := cI) (a := a) k_isMod_0).2 _)) rfl rfl kw4_165 ⟨rfl, rfl⟩ ⟨Nat.le_of_ble_eq_true rfl, Nat.le_of_ble_eq_true rfl⟩ rfl (Nat.le_of_ble_eq_true rfl) dX7_hush_22 rfl h (fun r22 h => ?_)
      refine g_goto (pc := 25) (tgt := 30) X (by decide) dX7_hush_25 ?_
      exact g_retMi (pc := 30) X hK hr hlk dX7_hush_30 h
set_option maxRecDepth 20000 in
theorem c_X7_driveOf (x1 : Int32) (x2 : Int32) (σ : Sg) (K : Int32 → Sg → Prop) : ∀ sz, Met l yX7_driveOf (.code yX7_driveOf cX7_driveOf 9 (some .int) :: AW) ({ frames := 3, cells := 0, slots := 0, locals := 67 } : Room) (pvM D (tyM cI) SXM (wM cI a σ) sz (w_X7_driveOf x1 x2 σ K) [.ref (a 0), .int x1, .int x2]) (va_Qi K (atM D (tyM cI) (wM cI a) (va_A (wM cI a σ) sz)) (va_A (wM cI a σ) sz)) 0 0 (va_A (wM cI a σ) sz) := by
  intro sz
  refine met_Mi (own := "TrainNoteModel") (lv := [(0, .ref (a 0)), (1, .int x1), (2, .int x2)]) (by decide +kernel) rfl (Nat.le_of_ble_eq_true rfl) rfl ?_
  intro p e s m args below meth c A X hK hX hA hr hlk h
  have hR : ∀ σ H locs, hpM D (wM cI a) A s σ H locs → va_P D vwCl ((wM cI a σ)) H := fun _ _ _ h => h.1
  have hok := SXM_ok
  refine g_aload_n (pc := 0) X rfl 0 rfl dX7_driveOf_0 ?_
  refine fX7_34 (pc := 1) X hK hR k_isMod_0 dX7_driveOf_1 ?_
  refine g_iconst (pc := 4) X ic_0 dX7_driveOf_4 ?_
  obtain ⟨h_5, h⟩ := h
  refine aX7_train (pc := 5) X hK hR k_isMod_0 h_5 dX7_driveOf_5 ?_
  refine g_topi (fun x3_6 ex3_6 => ?_)
  have h := h x3_6 ex3_6
  refine g_istore_n (pc := 6) (lv' := [(3, .int x3_6), (0, .ref (a 0)), (1, .int x1), (2, .int x2)]) X rfl (by decide) rfl dX7_driveOf_6 ?_
  refine g_iconst (pc := 7) X ic_m1 dX7_driveOf_7 ?_
  refine g_istore (pc := 8) (lv' := [(4, .int (-1 : Int32)), (3, .int x3_6), (0, .ref (a 0)), (1, .int x1), (2, .int x2)]) X (by decide) rfl dX7_driveOf_8 ?_
  refine g_iconst (pc := 10) X ic_0 dX7_driveOf_10 ?_
  refine g_istore (pc := 11) (lv' := [(5, .int (0 : Int32)), (4, .int (-1 : Int32)), (3, .int x3_6), (0, .ref (a 0)), (1, .int x1), (2, .int x2)]) X (by decide) rfl dX7_driveOf_11 ?_
  refine g_iconst (pc := 13) X ic_0 dX7_driveOf_13 ?_
  refine g_istore (pc := 14) (lv' := [(6, .int (0 : Int32)), (5, .int (0 : Int32)), (4, .int (-1 : Int32)), (3, .int x3_6), (0, .ref (a 0)), (1, .int x1), (2, .int x2)]) X (by decide) rfl dX7_driveOf_14 ?_
  obtain ⟨n16, h⟩ := h
  have X97 : ∀ (u4_97 : Int32) (u5_97 : Int32) (ρe97 : Sg), E_X7_driveOf_16 x3_6 x2 K u4_97 u5_97 ρe97 → GMi p l e ({ frames := 3, cells := 0, slots := 0, locals := 67 } : Room) s m args below meth c K 9 D (tyM cI) (wM cI a) A 97 [(0, .ref (a 0)), (2, .int x2), (3, .int x3_6), (4, .int u4_97), (5, .int u5_97)] [] ρe97 := by
    intro u4_97 u5_97 ρe97 h
    refine g_aload_n (pc := 97) X rfl 0 rfl dX7_driveOf_97 ?_
    refine fX7_34 (pc := 98) X hK hR k_isMod_0 dX7_driveOf_98 ?_
    refine g_iconst (pc := 101) X ic_0 dX7_driveOf_101 ?_
    refine g_iload_n (pc := 102) X rfl 2 rfl dX7_driveOf_102 ?_
    obtain ⟨h_103, h⟩ := h
    refine tX7_train (pc := 103) X hK k_isMod_0 h_103 dX7_driveOf_103 (fun τ103 eτ103 => ?_)
    have h := h τ103 eτ103
    refine g_aload_n (pc := 104) X rfl 0 rfl dX7_driveOf_104 ?_
    refine g_cVMv (pc := 105) (As := []) X hK hX hok hA mi_X7_findNotes (c_X7_findNotes  τ103 _) (fun _ => ⟨_, wl_ate (oX7 (cI := cI) (a := a) k_isMod_0).1 ((oX7 (cI := cI) (a := a) k_isMod_0).2 _)⟩) rfl rfl kw4_71 ⟨rfl, rfl⟩ ⟨Nat.le_of_ble_eq_true rfl, Nat.le_of_ble_eq_true rfl⟩ rfl (Nat.le_of_ble_eq_true rfl) dX7_driveOf_105 rfl h (fun τ105 h => ?_)
    refine g_iload_n (pc := 108) X rfl 1 rfl dX7_driveOf_108 ?_
    refine g_if_ne (pc := 109) (tgt := 117) X (by decide) dX7_driveOf_109 (fun c_109 => ?_) (fun c_109 => ?_)
    · have h := ite_f c_109 h
      refine g_iload (pc := 117) X 4 rfl dX7_driveOf_117 ?_
      exact g_retMi (pc := 119) X hK hr hlk dX7_driveOf_119 h
    · have h := ite_t c_109 h
      refine g_iload (pc := 112) X 3 rfl dX7_driveOf_112 ?_
      refine g_goto (pc := 114) (tgt := 119) X (by decide) dX7_driveOf_114 ?_
      exact g_retMi (pc := 119) X hK hr hlk dX7_driveOf_119 h
  have L16 : ∀ (n : Nat) (y4_16 : Int32) (y5_16 : Int32) (y6_16 : Int32) (ρ16 : Sg), lq4 (F_X7_driveOf_16 x1 (E_X7_driveOf_16 x3_6 x2 K)) n y4_16 y5_16 y6_16 ρ16 → GMi p l e ({ frames := 3, cells := 0, slots := 0, locals := 67 } : Room) s m args below meth c K 9 D (tyM cI) (wM cI a) A 16 [(0, .ref (a 0)), (1, .int x1), (2, .int x2), (3, .int x3_6), (4, .int y4_16), (5, .int y5_16), (6, .int y6_16)] [] ρ16 := by
    intro n
    induction n with
    | zero =>
      intro y4_16 y5_16 y6_16 ρ16 h
      exact h.elim
    | succ n ih =>
      intro y4_16 y5_16 y6_16 ρ16 h
      have h : F_X7_driveOf_16 x1 (E_X7_driveOf_16 x3_6 x2 K) (lq4 (F_X7_driveOf_16 x1 (E_X7_driveOf_16 x3_6 x2 K)) n) y4_16 y5_16 y6_16 ρ16 := h
      generalize lq4 (F_X7_driveOf_16 x1 (E_X7_driveOf_16 x3_6 x2 K)) n = rec16 at h ih
      refine g_iload (pc := 16) X 6 rfl dX7_driveOf_16 ?_
      refine g_bipush (pc := 18) X bp_100 dX7_driveOf_18 ?_
      refine g_icmp_ge (pc := 20) (tgt := 97) X (by decide) dX7_driveOf_20 (fun c_20 => ?_) (fun c_20 => ?_)
      · have h := ite_t c_20 h
        exact g_lv (X97 y4_16 y5_16 ρ16 h) [0, 2, 3, 4, 5] rfl
      · have h := ite_f c_20 h
        refine g_aload_n (pc := 23) X rfl 0 rfl dX7_driveOf_23 ?_
        refine fX7_34 (pc := 24) X hK hR k_isMod_0 dX7_driveOf_24 ?_
        refine g_iconst (pc := 27) X ic_0 dX7_driveOf_27 ?_
        refine g_iload (pc := 28) X 6 rfl dX7_driveOf_28 ?_
        obtain ⟨h_30, h⟩ := h
        refine tX7_train (pc := 30) X hK k_isMod_0 h_30 dX7_driveOf_30 (fun τ30 eτ30 => ?_)
        have h := h τ30 eτ30
        refine g_aload_n (pc := 31) X rfl 0 rfl dX7_driveOf_31 ?_
        refine g_cVMv (pc := 32) (As := []) X hK hX hok hA mi_X7_findNotes (c_X7_findNotes  τ30 _) (fun _ => ⟨_, wl_ate (oX7 (cI := cI) (a := a) k_isMod_0).1 ((oX7 (cI := cI) (a := a) k_isMod_0).2 _)⟩) rfl rfl kw4_71 ⟨rfl, rfl⟩ ⟨Nat.le_of_ble_eq_true rfl, Nat.le_of_ble_eq_true rfl⟩ rfl (Nat.le_of_ble_eq_true rfl) dX7_driveOf_32 rfl h (fun τ32 h => ?_)
        refine g_aload_n (pc := 35) X rfl 0 rfl dX7_driveOf_35 ?_
        refine g_iload_n (pc := 36) X rfl 1 rfl dX7_driveOf_36 ?_
        refine g_iconst (pc := 37) X ic_0 dX7_driveOf_37 ?_
        refine g_cVPi (pc := 38) (As := [.int x1, .int (0 : Int32)]) X hK hR mi_X7_spreadOf (c_X7_spreadOf x1 (0 : Int32) τ32 _) (wl_ate (oX7 (cI := cI) (a := a) k_isMod_0).1 ((oX7 (cI := cI) (a := a) k_isMod_0).2 _)) rfl rfl kw4_118 ⟨rfl, rfl⟩ ⟨Nat.le_of_ble_eq_true rfl, Nat.le_of_ble_eq_true rfl⟩ rfl (Nat.le_of_ble_eq_true rfl) dX7_driveOf_38 rfl h (fun r38 h => ?_)
        refine g_istore (pc := 41) (lv' := [(7, .int r38), (0, .ref (a 0)), (1, .int x1), (2, .int x2), (3, .int x3_6), (4, .int y4_16), (5, .int y5_16), (6, .int y6_16)]) X (by decide) rfl dX7_driveOf_41 ?_
        refine g_iload (pc := 43) X 5 rfl dX7_driveOf_43 ?_
        refine g_iconst (pc := 45) X ic_m1 dX7_driveOf_45 ?_
        have J61 : ∀ (v0_61 : Int32), J_X7_driveOf_61 rec16 y5_16 y6_16 τ32 r38 y4_16 v0_61 → GMi p l e ({ frames := 3, cells := 0, slots := 0, locals := 67 } : Room) s m args below meth c K 9 D (tyM cI) (wM cI a) A 61 [(0, .ref (a 0)), (1, .int x1), (2, .int x2), (3, .int x3_6), (4, .int y4_16), (5, .int y5_16), (6, .int y6_16), (7, .int r38)] [.int v0_61] τ32 := by
          intro v0_61 h
          refine g_istore (pc := 61) (lv' := [(8, .int v0_61), (0, .ref (a 0)), (1, .int x1), (2, .int x2), (3, .int x3_6), (4, .int y4_16), (5, .int y5_16), (6, .int y6_16), (7, .int r38)]) X (by decide) rfl dX7_driveOf_61 ?_
          refine g_iload (pc := 63) X 0 rfl dX7_driveOf_63 ?_
          have J75 : ∀ (v0_75 : Int32), J_X7_driveOf_75 v0_61 rec16 y5_16 y6_16 τ32 r38 v0_75 → GMi p l e ({ frames := 3, cells := 0, slots := 0, locals := 67 } : Room) s m args below meth c K 9 D (tyM cI) (wM cI a) A 75 [(0, .ref (a 0)), (1, .int x1), (2, .int x2), (3, .int x3_6), (5, .int y5_16), (6, .int y6_16), (7, .int r38), (8, .int v0_61)] [.int v0_75] τ32 := by
            intro v0_75 h
            refine g_istore (pc := 75) (lv' := [(4, .int v0_75), (0, .ref (a 0)), (1, .int x1), (2, .int x2), (3, .int x3_6), (5, .int y5_16), (6, .int y6_16), (7, .int r38), (8, .int v0_61)]) X (by decide) rfl dX7_driveOf_75 ?_
            refine g_iload (pc := 77) X 8 rfl dX7_driveOf_77 ?_
            refine g_if_eq (pc := 79) (tgt := 87) X (by decide) dX7_driveOf_79 (fun c_79 => ?_) (fun c_79 => ?_)
            · have h := ite_t c_79 h
              refine g_iload (pc := 87) X 5 rfl dX7_driveOf_87 ?_
              refine g_istore (pc := 89) (lv' := [(5, .int y5_16), (4, .int v0_75), (0, .ref (a 0)), (1, .int x1), (2, .int x2), (3, .int x3_6), (6, .int y6_16), (7, .int r38), (8, .int v0_61)]) X (by decide) rfl dX7_driveOf_89 ?_
              refine g_iinc (pc := 91) (lv' := [(6, .int (y6_16 + (1 : Int32))), (5, .int y5_16), (4, .int v0_75), (0, .ref (a 0)), (1, .int x1), (2, .int x2), (3, .int x3_6), (7, .int r38), (8, .int v0_61)]) X 6 rfl rfl (by decide) rfl dX7_driveOf_91 ?_
              refine g_goto (pc := 94) (tgt := 16) X (by decide) dX7_driveOf_94 ?_
              exact g_lv (ih v0_75 y5_16 (y6_16 + (1 : Int32)) τ32 h) [3, 4, 5, 6, 2, 1, 0] rfl
            · have h := ite_f c_79 h
              refine g_iload (pc := 82) X 7 rfl dX7_driveOf_82 ?_
              refine g_goto (pc := 84) (tgt := 89) X (by decide) dX7_driveOf_84 ?_
              refine g_istore (pc := 89) (lv' := [(5, .int r38), (4, .int v0_75), (0, .ref (a 0)), (1, .int x1), (2, .int x2), (3, .int x3_6), (6, .int y6_16), (7, .int r38), (8, .int v0_61)]) X (by decide) rfl dX7_driveOf_89 ?_
              refine g_iinc (pc := 91) (lv' := [(6, .int (y6_16 + (1 : Int32))), (5, .int r38), (4, .int v0_75), (0, .ref (a 0)), (1, .int x1), (2, .int x2), (3, .int x3_6), (7, .int r38), (8, .int v0_61)]) X 6 rfl rfl (by decide) rfl dX7_driveOf_91 ?_
              refine g_goto (pc := 94) (tgt := 16) X (by decide) dX7_driveOf_94 ?_
              exact g_lv (ih v0_75 r38 (y6_16 + (1 : Int32)) τ32 h) [3, 4, 5, 6, 2, 1, 0] rfl
          refine g_if_eq (pc := 65) (tgt := 73) X (by decide) dX7_driveOf_65 (fun c_65 => ?_) (fun c_65 => ?_)
          · have h := ite_t c_65 h
            refine g_iload (pc := 73) X 5 rfl dX7_driveOf_73 ?_
            exact g_lv (J75 y4_16 h) [1, 2, 3, 4, 6, 7, 8, 0] rfl
          · have h := ite_f c_65 h
            refine g_iload (pc := 68) X 7 rfl dX7_driveOf_68 ?_
            refine g_goto (pc := 70) (tgt := 75) X (by decide) dX7_driveOf_70 ?_
            exact g_lv (J75 y6_16 h) [1, 2, 3, 4, 6, 7, 8, 0] rfl
        have J56 : ∀ (_ : Unit), J_X7_driveOf_56 rec16 y5_16 y6_16 τ32 r38 y4_16 → GMi p l e ({ frames := 3, cells := 0, slots := 0, locals := 67 } : Room) s m args below meth c K 9 D (tyM cI) (wM cI a) A 56 [(0, .ref (a 0)), (1, .int x1), (2, .int x2), (3, .int x3_6), (4, .int y4_16), (5, .int y5_16), (6, .int y6_16), (7, .int r38)] [] τ32 := by
          intro _ h
          refine g_iconst (pc := 56) X ic_1 dX7_driveOf_56 ?_
          refine g_goto (pc := 57) (tgt := 61) X (by decide) dX7_driveOf_57 ?_
          exact g_lv (J61 (1 : Int32) h) [0, 1, 2, 3, 4, 5, 6, 7] rfl
        refine g_icmp_eq (pc := 46) (tgt := 56) X (by decide) dX7_driveOf_46 (fun c_46 => ?_) (fun c_46 => ?_)
        · have h := ite_t c_46 h
          exact g_lv (J56 () h) [1, 2, 3, 4, 5, 6, 7, 0] rfl
        · have h := ite_f c_46 h
          refine g_iload (pc := 49) X 0 rfl dX7_driveOf_49 ?_
          refine g_iload (pc := 51) X 6 rfl dX7_driveOf_51 ?_
          refine g_icmp_ge (pc := 53) (tgt := 60) X (by decide) dX7_driveOf_53 (fun c_53 => ?_) (fun c_53 => ?_)
          · have h := ite_t c_53 h
            refine g_iconst (pc := 60) X ic_0 dX7_driveOf_60 ?_
            exact g_lv (J61 (0 : Int32) h) [1, 2, 3, 4, 5, 6, 7, 0] rfl
          · have h := ite_f c_53 h
            exact g_lv (J56 () h) [1, 2, 3, 4, 5, 6, 7, 0] rfl
  exact g_lv (L16 n16 (-1 : Int32) (0 : Int32) (0 : Int32) σ h) [4, 5, 6, 3, 2, 1, 0] rfl
end
