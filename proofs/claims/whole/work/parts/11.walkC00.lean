section
variable {l : Launch} {D : va_G} {cI cZ cS : ClassId} {a : Nat → Nat} {tS tF : Nat}
set_option maxRecDepth 20000 in
theorem c_X6_isNoText (x0 : Int32) (K : Int32 → Prop) : Met l yX6_isNoText (.code yX6_isNoText cX6_isNoText 1 (some .boolean) :: AW) ({ frames := 0, cells := 0, slots := 0, locals := 0 } : Room) (pv0 (w_X6_isNoText x0 K) [.int x0]) (vp_Si K) 0 0 (fun _ => False) := by
  refine met_0i (own := "TrainNote") (lv := [(0, .int x0)]) (fun _ _ => 0) (by decide +kernel) rfl (Nat.le_of_ble_eq_true rfl) rfl ?_
  intro p e s m args below meth c X hr hlk h
  refine g_iload_n (pc := 0) X rfl 0 rfl dX6_isNoText_0 ?_
  refine g_if_lt (pc := 1) (tgt := 9) X (by decide) dX6_isNoText_1 (fun c_1 => ?_) (fun c_1 => ?_)
  · have h := ite_t c_1 h
    refine g_iconst (pc := 9) X ic_1 dX6_isNoText_9 ?_
    refine g_goto (pc := 10) (tgt := 14) X (by decide) dX6_isNoText_10 ?_
    exact g_ret0z (pc := 14) X hr hlk dX6_isNoText_14 (Or.inr rfl) h
  · have h := ite_f c_1 h
    refine g_iload_n (pc := 4) X rfl 0 rfl dX6_isNoText_4 ?_
    refine g_iconst (pc := 5) X ic_1 dX6_isNoText_5 ?_
    refine g_icmp_le (pc := 6) (tgt := 13) X (by decide) dX6_isNoText_6 (fun c_6 => ?_) (fun c_6 => ?_)
    · have h := ite_t c_6 h
      refine g_iconst (pc := 13) X ic_0 dX6_isNoText_13 ?_
      exact g_ret0z (pc := 14) X hr hlk dX6_isNoText_14 (Or.inl rfl) h
    · have h := ite_f c_6 h
      refine g_iconst (pc := 9) X ic_1 dX6_isNoText_9 ?_
      refine g_goto (pc := 10) (tgt := 14) X (by decide) dX6_isNoText_10 ?_
      exact g_ret0z (pc := 14) X hr hlk dX6_isNoText_14 (Or.inr rfl) h
set_option maxRecDepth 20000 in
theorem c_X6_textOf (x1 : Int32) (σ : Sg) (K : Nat → Prop) : Met l yX6_textOf (.code yX6_textOf cX6_textOf 2 (some (.object "TrainNote$Text")) :: AW) ({ frames := 0, cells := 0, slots := 0, locals := 0 } : Room) (pvP D (tyC cI cZ cS) (wC cI cZ cS a σ) (w_X6_textOf x1 σ K) [.ref (a 0), .int x1]) (va_Sr (fun k => isTx k ∧ K k) (fun k => .ref (a k))) 0 0 (fun _ => False) := by
  refine met_Pr (own := "TrainNote") (lv := [(0, .ref (a 0)), (1, .int x1)]) (by decide +kernel) rfl (Nat.le_of_ble_eq_true rfl) rfl ?_
  intro p e s m args below meth c X hK hr hlk h
  have hR : ∀ σ H locs, hpP D (wC cI cZ cS a) s σ H locs → va_P D vwCl ((wC cI cZ cS a σ)) H := fun _ _ _ h => h.1
  refine g_iload_n (pc := 0) X rfl 1 rfl dX6_textOf_0 ?_
  refine g_if_ne (pc := 1) (tgt := 11) X (by decide) dX6_textOf_1 (fun c_1 => ?_) (fun c_1 => ?_)
  · have h := ite_f c_1 h
    refine g_aload_n (pc := 11) X rfl 0 rfl dX6_textOf_11 ?_
    refine fX6_18 (pc := 12) X hK hR k_isTop_0 dX6_textOf_12 ?_
    exact g_retPr (pc := 15) (k := 3) X hr hlk rfl dX6_textOf_15 ⟨k_isTx_3, h⟩
  · have h := ite_t c_1 h
    refine g_aload_n (pc := 4) X rfl 0 rfl dX6_textOf_4 ?_
    refine fX6_14 (pc := 5) X hK hR k_isTop_0 dX6_textOf_5 ?_
    refine g_goto (pc := 8) (tgt := 15) X (by decide) dX6_textOf_8 ?_
    exact g_retPr (pc := 15) (k := 1) X hr hlk rfl dX6_textOf_15 ⟨k_isTx_1, h⟩
set_option maxRecDepth 20000 in
theorem c_X4_isFull {k0 : Nat} (hk0 : isTx k0) (σ : Sg) (K : Int32 → Prop) : Met l yX4_isFull (.code yX4_isFull cX4_isFull 1 (some .boolean) :: AW) ({ frames := 0, cells := 0, slots := 0, locals := 0 } : Room) (pvP D (tyC cI cZ cS) (wC cI cZ cS a σ) (w_X4_isFull k0 σ K) [.ref (a k0)]) (vp_Si K) 0 0 (fun _ => False) := by
  refine met_Pi (own := "TrainNote$Text") (lv := [(0, .ref (a k0))]) (by decide +kernel) rfl (Nat.le_of_ble_eq_true rfl) rfl ?_
  intro p e s m args below meth c X hK hr hlk h
  have hR : ∀ σ H locs, hpP D (wC cI cZ cS a) s σ H locs → va_P D vwCl ((wC cI cZ cS a σ)) H := fun _ _ _ h => h.1
  refine g_aload_n (pc := 0) X rfl 0 rfl dX4_isFull_0 ?_
  refine fX4_15 (pc := 1) X hK hR hk0 dX4_isFull_1 ?_
  refine g_aload_n (pc := 4) X rfl 0 rfl dX4_isFull_4 ?_
  refine fX4_25 (pc := 5) X hK hR hk0 dX4_isFull_5 ?_
  refine g_icmp_lt (pc := 8) (tgt := 15) X (by decide) dX4_isFull_8 (fun c_8 => ?_) (fun c_8 => ?_)
  · have h := ite_t c_8 h
    refine g_iconst (pc := 15) X ic_0 dX4_isFull_15 ?_
    exact g_retPz (pc := 16) X hr hlk dX4_isFull_16 (Or.inl rfl) h
  · have h := ite_f c_8 h
    refine g_iconst (pc := 11) X ic_1 dX4_isFull_11 ?_
    refine g_goto (pc := 12) (tgt := 16) X (by decide) dX4_isFull_12 ?_
    exact g_retPz (pc := 16) X hr hlk dX4_isFull_16 (Or.inr rfl) h
set_option maxRecDepth 20000 in
theorem c_X4_append {k0 : Nat} (hk0 : isTx k0) (x1 : Int32) (σ : Sg) (K : Sg → Prop) : ∀ sz, Met l yX4_append (.code yX4_append cX4_append 2 (none) :: AW) ({ frames := 1, cells := 0, slots := 0, locals := 20 } : Room) (pvM D (tyC cI cZ cS) (SXC tS tF) (wC cI cZ cS a σ) sz (w_X4_append k0 x1 σ K) [.ref (a k0), .int x1]) (va_Qv K (atM D (tyC cI cZ cS) (wC cI cZ cS a) (va_A (wC cI cZ cS a σ) sz)) (va_A (wC cI cZ cS a σ) sz)) 0 0 (va_A (wC cI cZ cS a σ) sz) := by
  intro sz
  refine met_Mv (own := "TrainNote$Text") (lv := [(0, .ref (a k0)), (1, .int x1)]) (by decide +kernel) rfl (Nat.le_of_ble_eq_true rfl) rfl ?_
  intro p e s m args below meth c A X hK hX hA hr hlk h
  have hR : ∀ σ H locs, hpM D (wC cI cZ cS a) A s σ H locs → va_P D vwCl ((wC cI cZ cS a σ)) H := fun _ _ _ h => h.1
  have hok := SXC_ok tS tF
  refine g_aload_n (pc := 0) X rfl 0 rfl dX4_append_0 ?_
  refine g_cVPi (pc := 1) (As := []) X hK hR mi_X4_isFull (c_X4_isFull (k0 := k0) hk0 σ _) (wl_ate (oX4 (cI := cI) (cZ := cZ) (cS := cS) (a := a) hk0).1 ((oX4 (cI := cI) (cZ := cZ) (cS := cS) (a := a) hk0).2 _)) rfl rfl kw1_231 ⟨rfl, rfl⟩ ⟨Nat.le_of_ble_eq_true rfl, Nat.le_of_ble_eq_true rfl⟩ rfl (Nat.le_of_ble_eq_true rfl) dX4_append_1 rfl h (fun r1 h => ?_)
  refine g_if_ne (pc := 4) (tgt := 27) X (by decide) dX4_append_4 (fun c_4 => ?_) (fun c_4 => ?_)
  · have h := ite_f c_4 h
    exact g_retMv (pc := 27) X hK hr hlk dX4_append_27 h
  · have h := ite_t c_4 h
    refine g_aload_n (pc := 7) X rfl 0 rfl dX4_append_7 ?_
    refine fX4_9 (pc := 8) X hK hR hk0 dX4_append_8 ?_
    refine g_aload_n (pc := 11) X rfl 0 rfl dX4_append_11 ?_
    refine fX4_15 (pc := 12) X hK hR hk0 dX4_append_12 ?_
    refine g_iload_n (pc := 15) X rfl 1 rfl dX4_append_15 ?_
    obtain ⟨h_16, h⟩ := h
    refine tX4_bytes (pc := 16) X hK hk0 h_16 dX4_append_16 (fun τ16 eτ16 => ?_)
    have h := h τ16 eτ16
    refine g_aload_n (pc := 17) X rfl 0 rfl dX4_append_17 ?_
    refine g_dup (pc := 18) X rfl dX4_append_18 ?_
    refine fX4_15 (pc := 19) X hK hR hk0 dX4_append_19 ?_
    refine g_iconst (pc := 22) X ic_1 dX4_append_22 ?_
    refine g_iadd (pc := 23) X dX4_append_23 ?_
    refine pX4_15 (pc := 24) X hK hk0 dX4_append_24 (fun τ24 eτ24 => ?_)
    have h := h τ24 eτ24
    exact g_retMv (pc := 27) X hK hr hlk dX4_append_27 h
set_option maxRecDepth 20000 in
theorem c_X4_fitsSinger (x0 : Int32) (x1 : Int32) (K : Int32 → Prop) : Met l yX4_fitsSinger (.code yX4_fitsSinger cX4_fitsSinger 2 (some .boolean) :: AW) ({ frames := 0, cells := 0, slots := 0, locals := 0 } : Room) (pv0 (w_X4_fitsSinger x0 x1 K) [.int x0, .int x1]) (vp_Si K) 0 0 (fun _ => False) := by
  refine met_0i (own := "TrainNote$Text") (lv := [(0, .int x0), (1, .int x1)]) (fun _ _ => 0) (by decide +kernel) rfl (Nat.le_of_ble_eq_true rfl) rfl ?_
  intro p e s m args below meth c X hr hlk h
  refine g_iload_n (pc := 0) X rfl 0 rfl dX4_fitsSinger_0 ?_
  by_cases c_1_3 : x0 = (3 : Int32)
  · have h := ite_t c_1_3 h
    refine g_look (pc := 1) (tgt := 28) (off := 27) X (by decide) (by rw [c_1_3] <;> rfl) (by decide) dX4_fitsSinger_1 ?_
    refine g_iload_n (pc := 28) X rfl 1 rfl dX4_fitsSinger_28 ?_
    refine g_bipush (pc := 29) X bp_104 dX4_fitsSinger_29 ?_
    refine g_icmp_eq (pc := 31) (tgt := 40) X (by decide) dX4_fitsSinger_31 (fun c_31 => ?_) (fun c_31 => ?_)
    · have h := ite_t c_31 h
      refine g_iconst (pc := 40) X ic_1 dX4_fitsSinger_40 ?_
      refine g_goto (pc := 41) (tgt := 45) X (by decide) dX4_fitsSinger_41 ?_
      exact g_ret0z (pc := 45) X hr hlk dX4_fitsSinger_45 (Or.inr rfl) h
    · have h := ite_f c_31 h
      refine g_iload_n (pc := 34) X rfl 1 rfl dX4_fitsSinger_34 ?_
      refine g_bipush (pc := 35) X bp_110 dX4_fitsSinger_35 ?_
      refine g_icmp_ne (pc := 37) (tgt := 44) X (by decide) dX4_fitsSinger_37 (fun c_37 => ?_) (fun c_37 => ?_)
      · have h := ite_f c_37 h
        refine g_iconst (pc := 44) X ic_0 dX4_fitsSinger_44 ?_
        exact g_ret0z (pc := 45) X hr hlk dX4_fitsSinger_45 (Or.inl rfl) h
      · have h := ite_t c_37 h
        refine g_iconst (pc := 40) X ic_1 dX4_fitsSinger_40 ?_
        refine g_goto (pc := 41) (tgt := 45) X (by decide) dX4_fitsSinger_41 ?_
        exact g_ret0z (pc := 45) X hr hlk dX4_fitsSinger_45 (Or.inr rfl) h
  · have h := ite_f c_1_3 h
    by_cases c_1_4 : x0 = (4 : Int32)
    · have h := ite_t c_1_4 h
      refine g_look (pc := 1) (tgt := 46) (off := 45) X (by decide) (by rw [c_1_4] <;> rfl) (by decide) dX4_fitsSinger_1 ?_
      refine g_iload_n (pc := 46) X rfl 1 rfl dX4_fitsSinger_46 ?_
      refine g_bipush (pc := 47) X bp_59 dX4_fitsSinger_47 ?_
      refine g_icmp_ne (pc := 49) (tgt := 56) X (by decide) dX4_fitsSinger_49 (fun c_49 => ?_) (fun c_49 => ?_)
      · have h := ite_f c_49 h
        refine g_iconst (pc := 56) X ic_0 dX4_fitsSinger_56 ?_
        exact g_ret0z (pc := 57) X hr hlk dX4_fitsSinger_57 (Or.inl rfl) h
      · have h := ite_t c_49 h
        refine g_iconst (pc := 52) X ic_1 dX4_fitsSinger_52 ?_
        refine g_goto (pc := 53) (tgt := 57) X (by decide) dX4_fitsSinger_53 ?_
        exact g_ret0z (pc := 57) X hr hlk dX4_fitsSinger_57 (Or.inr rfl) h
    · have h := ite_f c_1_4 h
      refine g_look (pc := 1) (tgt := 58) (off := 57) X (by decide) (by rw [show _ = _ from lv_osw c_1_3 (by decide), show _ = _ from lv_osw c_1_4 (by decide)] <;> rfl) (by decide) dX4_fitsSinger_1 ?_
      refine g_iload_n (pc := 58) X rfl 1 rfl dX4_fitsSinger_58 ?_
      refine g_bipush (pc := 59) X bp_48 dX4_fitsSinger_59 ?_
      refine g_icmp_lt (pc := 61) (tgt := 74) X (by decide) dX4_fitsSinger_61 (fun c_61 => ?_) (fun c_61 => ?_)
      · have h := ite_t c_61 h
        refine g_iconst (pc := 74) X ic_0 dX4_fitsSinger_74 ?_
        exact g_ret0z (pc := 75) X hr hlk dX4_fitsSinger_75 (Or.inl rfl) h
      · have h := ite_f c_61 h
        refine g_iload_n (pc := 64) X rfl 1 rfl dX4_fitsSinger_64 ?_
        refine g_bipush (pc := 65) X bp_57 dX4_fitsSinger_65 ?_
        refine g_icmp_gt (pc := 67) (tgt := 74) X (by decide) dX4_fitsSinger_67 (fun c_67 => ?_) (fun c_67 => ?_)
        · have h := ite_t c_67 h
          refine g_iconst (pc := 74) X ic_0 dX4_fitsSinger_74 ?_
          exact g_ret0z (pc := 75) X hr hlk dX4_fitsSinger_75 (Or.inl rfl) h
        · have h := ite_f c_67 h
          refine g_iconst (pc := 70) X ic_1 dX4_fitsSinger_70 ?_
          refine g_goto (pc := 71) (tgt := 75) X (by decide) dX4_fitsSinger_71 ?_
          exact g_ret0z (pc := 75) X hr hlk dX4_fitsSinger_75 (Or.inr rfl) h
set_option maxRecDepth 20000 in
theorem c_X4_faultOfSingers {k0 : Nat} (hk0 : isTx k0) (σ : Sg) (K : Int32 → Prop) : Met l yX4_faultOfSingers (.code yX4_faultOfSingers cX4_faultOfSingers 2 (some .int) :: AW) ({ frames := 1, cells := 0, slots := 0, locals := 21 } : Room) (pvP D (tyC cI cZ cS) (wC cI cZ cS a σ) (w_X4_faultOfSingers k0 σ K) [.ref (a k0)]) (vp_Si K) 0 0 (fun _ => False) := by
  refine met_Pi (own := "TrainNote$Text") (lv := [(0, .ref (a k0))]) (by decide +kernel) rfl (Nat.le_of_ble_eq_true rfl) rfl ?_
  intro p e s m args below meth c X hK hr hlk h
  have hR : ∀ σ H locs, hpP D (wC cI cZ cS a) s σ H locs → va_P D vwCl ((wC cI cZ cS a σ)) H := fun _ _ _ h => h.1
  refine g_iconst (pc := 0) X ic_0 dX4_faultOfSingers_0 ?_
  refine g_istore_n (pc := 1) (lv' := [(1, .int (0 : Int32)), (0, .ref (a k0))]) X rfl (by decide) rfl dX4_faultOfSingers_1 ?_
  obtain ⟨n2, h⟩ := h
  have X33 : E_X4_faultOfSingers_2 σ k0 K → GPi p l e ({ frames := 1, cells := 0, slots := 0, locals := 21 } : Room) s m args below meth c K 2 D (wC cI cZ cS a) 33 [(0, .ref (a k0))] [] σ := by
    intro  h
    refine g_aload_n (pc := 33) X rfl 0 rfl dX4_faultOfSingers_33 ?_
    refine fX4_15 (pc := 34) X hK hR hk0 dX4_faultOfSingers_34 ?_
    refine g_if_eq (pc := 37) (tgt := 50) X (by decide) dX4_faultOfSingers_37 (fun c_37 => ?_) (fun c_37 => ?_)
    · have h := ite_t c_37 h
      refine g_iconst (pc := 50) X ic_m1 dX4_faultOfSingers_50 ?_
      refine g_goto (pc := 51) (tgt := 58) X (by decide) dX4_faultOfSingers_51 ?_
      exact g_retPi (pc := 58) X hr hlk dX4_faultOfSingers_58 h
    · have h := ite_f c_37 h
      refine g_aload_n (pc := 40) X rfl 0 rfl dX4_faultOfSingers_40 ?_
      refine fX4_15 (pc := 41) X hK hR hk0 dX4_faultOfSingers_41 ?_
      refine g_iconst (pc := 44) X ic_5 dX4_faultOfSingers_44 ?_
      refine g_irem (pc := 45) X (by decide) dX4_faultOfSingers_45 ?_
      refine g_iconst (pc := 46) X ic_4 dX4_faultOfSingers_46 ?_
      refine g_icmp_ne (pc := 47) (tgt := 54) X (by decide) dX4_faultOfSingers_47 (fun c_47 => ?_) (fun c_47 => ?_)
      · have h := ite_f c_47 h
        refine g_aload_n (pc := 54) X rfl 0 rfl dX4_faultOfSingers_54 ?_
        refine fX4_15 (pc := 55) X hK hR hk0 dX4_faultOfSingers_55 ?_
        exact g_retPi (pc := 58) X hr hlk dX4_faultOfSingers_58 h
      · have h := ite_t c_47 h
        refine g_iconst (pc := 50) X ic_m1 dX4_faultOfSingers_50 ?_
        refine g_goto (pc := 51) (tgt := 58) X (by decide) dX4_faultOfSingers_51 ?_
        exact g_retPi (pc := 58) X hr hlk dX4_faultOfSingers_58 h
  have L2 : ∀ (n : Nat) (y1_2 : Int32), lq1 (F_X4_faultOfSingers_2 σ k0 K (E_X4_faultOfSingers_2 σ k0 K)) n y1_2 → GPi p l e ({ frames := 1, cells := 0, slots := 0, locals := 21 } : Room) s m args below meth c K 2 D (wC cI cZ cS a) 2 [(0, .ref (a k0)), (1, .int y1_2)] [] σ := by
    intro n
    induction n with
    | zero =>
      intro y1_2 h
      exact h.elim
    | succ n ih =>
      intro y1_2 h
      have h : F_X4_faultOfSingers_2 σ k0 K (E_X4_faultOfSingers_2 σ k0 K) (lq1 (F_X4_faultOfSingers_2 σ k0 K (E_X4_faultOfSingers_2 σ k0 K)) n) y1_2 := h
      refine g_iload_n (pc := 2) X rfl 1 rfl dX4_faultOfSingers_2 ?_
      refine g_aload_n (pc := 3) X rfl 0 rfl dX4_faultOfSingers_3 ?_
      refine fX4_15 (pc := 4) X hK hR hk0 dX4_faultOfSingers_4 ?_
      refine g_icmp_ge (pc := 7) (tgt := 33) X (by decide) dX4_faultOfSingers_7 (fun c_7 => ?_) (fun c_7 => ?_)
      · have h := ite_t c_7 h
        exact g_lv (X33  h) [0] rfl
      · have h := ite_f c_7 h
        refine g_iload_n (pc := 10) X rfl 1 rfl dX4_faultOfSingers_10 ?_
        refine g_iconst (pc := 11) X ic_5 dX4_faultOfSingers_11 ?_
        refine g_irem (pc := 12) X (by decide) dX4_faultOfSingers_12 ?_
        refine g_aload_n (pc := 13) X rfl 0 rfl dX4_faultOfSingers_13 ?_
        refine fX4_9 (pc := 14) X hK hR hk0 dX4_faultOfSingers_14 ?_
        refine g_iload_n (pc := 17) X rfl 1 rfl dX4_faultOfSingers_17 ?_
        obtain ⟨h_18, h⟩ := h
        refine aX4_bytes (pc := 18) X hK hR hk0 h_18 dX4_faultOfSingers_18 ?_
        refine g_cS0i (pc := 19) (As := [.int (y1_2 - y1_2 / (5 : Int32) * (5 : Int32)), .int (σ (k0 + 1) (y1_2).toNatClampNeg)]) X mi_X4_fitsSinger (c_X4_fitsSinger (y1_2 - y1_2 / (5 : Int32) * (5 : Int32)) (σ (k0 + 1) (y1_2).toNatClampNeg) _) kw2_4 ⟨rfl, rfl⟩ ⟨Nat.le_of_ble_eq_true rfl, Nat.le_of_ble_eq_true rfl⟩ rfl (Nat.le_of_ble_eq_true rfl) dX4_faultOfSingers_19 rfl h (fun r19 h => ?_)
        refine g_if_ne (pc := 22) (tgt := 27) X (by decide) dX4_faultOfSingers_22 (fun c_22 => ?_) (fun c_22 => ?_)
        · have h := ite_f c_22 h
          refine g_iinc (pc := 27) (lv' := [(1, .int (y1_2 + (1 : Int32))), (0, .ref (a k0))]) X 1 rfl rfl (by decide) rfl dX4_faultOfSingers_27 ?_
          refine g_goto (pc := 30) (tgt := 2) X (by decide) dX4_faultOfSingers_30 ?_
          exact g_lv (ih (y1_2 + (1 : Int32)) h) [1, 0] rfl
        · have h := ite_t c_22 h
          refine g_iload_n (pc := 25) X rfl 1 rfl dX4_faultOfSingers_25 ?_
          exact g_retPi (pc := 26) X hr hlk dX4_faultOfSingers_26 h
  exact g_lv (L2 n2 (0 : Int32) h) [1, 0] rfl
set_option maxRecDepth 20000 in
theorem c_X0_nearestTo {k0 : Nat} (hk0 : isCh k0) (x1 : Int32) (σ : Sg) (K : Int32 → Prop) : Met l yX0_nearestTo (.code yX0_nearestTo cX0_nearestTo 6 (some .int) :: AW) ({ frames := 1, cells := 0, slots := 0, locals := 21 } : Room) (pvP D (tyC cI cZ cS) (wC cI cZ cS a σ) (w_X0_nearestTo k0 x1 σ K) [.ref (a k0), .int x1]) (vp_Si K) 0 0 (fun _ => False) := by
  refine met_Pi (own := "TrainNote$Choir") (lv := [(0, .ref (a k0)), (1, .int x1)]) (by decide +kernel) rfl (Nat.le_of_ble_eq_true rfl) rfl ?_
  intro p e s m args below meth c X hK hr hlk h
  have hR : ∀ σ H locs, hpP D (wC cI cZ cS a) s σ H locs → va_P D vwCl ((wC cI cZ cS a σ)) H := fun _ _ _ h => h.1
  refine g_iconst (pc := 0) X ic_m1 dX0_nearestTo_0 ?_
  refine g_istore_n (pc := 1) (lv' := [(2, .int (-1 : Int32)), (0, .ref (a k0)), (1, .int x1)]) X rfl (by decide) rfl dX0_nearestTo_1 ?_
  refine g_bipush (pc := 2) X bp_10 dX0_nearestTo_2 ?_
  refine g_istore_n (pc := 4) (lv' := [(3, .int (10 : Int32)), (2, .int (-1 : Int32)), (0, .ref (a k0)), (1, .int x1)]) X rfl (by decide) rfl dX0_nearestTo_4 ?_
  refine g_iconst (pc := 5) X ic_0 dX0_nearestTo_5 ?_
  refine g_istore (pc := 6) (lv' := [(4, .int (0 : Int32)), (3, .int (10 : Int32)), (2, .int (-1 : Int32)), (0, .ref (a k0)), (1, .int x1)]) X (by decide) rfl dX0_nearestTo_6 ?_
  obtain ⟨n8, h⟩ := h
  have X60 : ∀ (u2_60 : Int32), E_X0_nearestTo_8 K u2_60 → GPi p l e ({ frames := 1, cells := 0, slots := 0, locals := 21 } : Room) s m args below meth c K 6 D (wC cI cZ cS a) 60 [(2, .int u2_60)] [] σ := by
    intro u2_60 h
    refine g_iload_n (pc := 60) X rfl 0 rfl dX0_nearestTo_60 ?_
    exact g_retPi (pc := 61) X hr hlk dX0_nearestTo_61 h
  have L8 : ∀ (n : Nat) (y2_8 : Int32) (y3_8 : Int32) (y4_8 : Int32), lq3 (F_X0_nearestTo_8 σ k0 x1 (E_X0_nearestTo_8 K)) n y2_8 y3_8 y4_8 → GPi p l e ({ frames := 1, cells := 0, slots := 0, locals := 21 } : Room) s m args below meth c K 6 D (wC cI cZ cS a) 8 [(0, .ref (a k0)), (1, .int x1), (2, .int y2_8), (3, .int y3_8), (4, .int y4_8)] [] σ := by
    intro n
    induction n with
    | zero =>
      intro y2_8 y3_8 y4_8 h
      exact h.elim
    | succ n ih =>
      intro y2_8 y3_8 y4_8 h
      have h : F_X0_nearestTo_8 σ k0 x1 (E_X0_nearestTo_8 K) (lq3 (F_X0_nearestTo_8 σ k0 x1 (E_X0_nearestTo_8 K)) n) y2_8 y3_8 y4_8 := h
      refine g_iload (pc := 8) X 4 rfl dX0_nearestTo_8 ?_
      refine g_aload_n (pc := 10) X rfl 0 rfl dX0_nearestTo_10 ?_
      refine fX0_9 (pc := 11) X hK hR hk0 dX0_nearestTo_11 ?_
      refine g_icmp_ge (pc := 14) (tgt := 60) X (by decide) dX0_nearestTo_14 (fun c_14 => ?_) (fun c_14 => ?_)
      · have h := ite_t c_14 h
        exact g_lv (X60 y2_8 h) [2] rfl
      · have h := ite_f c_14 h
        refine g_aload_n (pc := 17) X rfl 0 rfl dX0_nearestTo_17 ?_
        refine fX0_15 (pc := 18) X hK hR hk0 dX0_nearestTo_18 ?_
        refine g_iload (pc := 21) X 4 rfl dX0_nearestTo_21 ?_
        obtain ⟨h_23, h⟩ := h
        refine aX0_place (pc := 23) X hK hR hk0 h_23 dX0_nearestTo_23 ?_
        refine g_aload_n (pc := 24) X rfl 0 rfl dX0_nearestTo_24 ?_
        refine fX0_15 (pc := 25) X hK hR hk0 dX0_nearestTo_25 ?_
        refine g_iload_n (pc := 28) X rfl 1 rfl dX0_nearestTo_28 ?_
        obtain ⟨h_29, h⟩ := h
        refine aX0_place (pc := 29) X hK hR hk0 h_29 dX0_nearestTo_29 ?_
        refine g_isub (pc := 30) X dX0_nearestTo_30 ?_
        refine g_mabs (pc := 31) X kw2_15 kw2_16 kw1_3 kw2_17 (Nat.le_of_ble_eq_true rfl) (Nat.le_of_ble_eq_true rfl) dX0_nearestTo_31 ?_
        refine g_topi (fun m31 em31 => ?_)
        have h := h m31 em31
        refine g_istore (pc := 34) (lv' := [(5, .int m31), (0, .ref (a k0)), (1, .int x1), (2, .int y2_8), (3, .int y3_8), (4, .int y4_8)]) X (by decide) rfl dX0_nearestTo_34 ?_
        refine g_iload (pc := 36) X 5 rfl dX0_nearestTo_36 ?_
        refine g_iload_n (pc := 38) X rfl 2 rfl dX0_nearestTo_38 ?_
        refine g_icmp_eq (pc := 39) (tgt := 54) X (by decide) dX0_nearestTo_39 (fun c_39 => ?_) (fun c_39 => ?_)
        · have h := ite_t c_39 h
          refine g_iinc (pc := 54) (lv' := [(4, .int (y4_8 + (1 : Int32))), (5, .int m31), (0, .ref (a k0)), (1, .int x1), (2, .int y2_8), (3, .int y3_8)]) X 5 rfl rfl (by decide) rfl dX0_nearestTo_54 ?_
          refine g_goto (pc := 57) (tgt := 8) X (by decide) dX0_nearestTo_57 ?_
          exact g_lv (ih y2_8 y3_8 (y4_8 + (1 : Int32)) h) [2, 3, 4, 5, 0] rfl
        · have h := ite_f c_39 h
          refine g_iload (pc := 42) X 0 rfl dX0_nearestTo_42 ?_
          refine g_iload_n (pc := 44) X rfl 4 rfl dX0_nearestTo_44 ?_
          refine g_icmp_ge (pc := 45) (tgt := 54) X (by decide) dX0_nearestTo_45 (fun c_45 => ?_) (fun c_45 => ?_)
          · have h := ite_t c_45 h
            refine g_iinc (pc := 54) (lv' := [(4, .int (y4_8 + (1 : Int32))), (5, .int m31), (0, .ref (a k0)), (1, .int x1), (2, .int y2_8), (3, .int y3_8)]) X 5 rfl rfl (by decide) rfl dX0_nearestTo_54 ?_
            refine g_goto (pc := 57) (tgt := 8) X (by decide) dX0_nearestTo_57 ?_
            exact g_lv (ih y2_8 y3_8 (y4_8 + (1 : Int32)) h) [2, 3, 4, 5, 0] rfl
          · have h := ite_f c_45 h
            refine g_iload (pc := 48) X 5 rfl dX0_nearestTo_48 ?_
            refine g_istore_n (pc := 50) (lv' := [(2, .int y4_8), (5, .int m31), (0, .ref (a k0)), (1, .int x1), (3, .int y3_8), (4, .int y4_8)]) X rfl (by decide) rfl dX0_nearestTo_50 ?_
            refine g_iload (pc := 51) X 1 rfl dX0_nearestTo_51 ?_
            refine g_istore_n (pc := 53) (lv' := [(3, .int m31), (2, .int y4_8), (5, .int m31), (0, .ref (a k0)), (1, .int x1), (4, .int y4_8)]) X rfl (by decide) rfl dX0_nearestTo_53 ?_
            refine g_iinc (pc := 54) (lv' := [(4, .int (y4_8 + (1 : Int32))), (3, .int m31), (2, .int y4_8), (5, .int m31), (0, .ref (a k0)), (1, .int x1)]) X 5 rfl rfl (by decide) rfl dX0_nearestTo_54 ?_
            refine g_goto (pc := 57) (tgt := 8) X (by decide) dX0_nearestTo_57 ?_
            exact g_lv (ih y4_8 m31 (y4_8 + (1 : Int32)) h) [4, 5, 2, 1, 0] rfl
  exact g_lv (L8 n8 (-1 : Int32) (10 : Int32) (0 : Int32) h) [3, 4, 2, 1, 0] rfl
set_option maxRecDepth 20000 in
theorem c_X0_follow {k0 : Nat} (hk0 : isCh k0) (x1 : Int32) (σ : Sg) (K : Sg → Prop) : ∀ sz, Met l yX0_follow (.code yX0_follow cX0_follow 5 (none) :: AW) ({ frames := 0, cells := 0, slots := 0, locals := 0 } : Room) (pvM D (tyC cI cZ cS) (SXC tS tF) (wC cI cZ cS a σ) sz (w_X0_follow k0 x1 σ K) [.ref (a k0), .int x1]) (va_Qv K (atM D (tyC cI cZ cS) (wC cI cZ cS a) (va_A (wC cI cZ cS a σ) sz)) (va_A (wC cI cZ cS a σ) sz)) 0 0 (va_A (wC cI cZ cS a σ) sz) := by
  intro sz
  refine met_Mv (own := "TrainNote$Choir") (lv := [(0, .ref (a k0)), (1, .int x1)]) (by decide +kernel) rfl (Nat.le_of_ble_eq_true rfl) rfl ?_
  intro p e s m args below meth c A X hK hX hA hr hlk h
  have hR : ∀ σ H locs, hpM D (wC cI cZ cS a) A s σ H locs → va_P D vwCl ((wC cI cZ cS a σ)) H := fun _ _ _ h => h.1
  have hok := SXC_ok tS tF
  refine g_iload_n (pc := 0) X rfl 1 rfl dX0_follow_0 ?_
  refine g_istore_n (pc := 1) (lv' := [(2, .int x1), (0, .ref (a k0)), (1, .int x1)]) X rfl (by decide) rfl dX0_follow_1 ?_
  refine g_iconst (pc := 2) X ic_0 dX0_follow_2 ?_
  refine g_istore_n (pc := 3) (lv' := [(3, .int (0 : Int32)), (2, .int x1), (0, .ref (a k0)), (1, .int x1)]) X rfl (by decide) rfl dX0_follow_3 ?_
  refine g_iconst (pc := 4) X ic_0 dX0_follow_4 ?_
  refine g_istore (pc := 5) (lv' := [(4, .int (0 : Int32)), (3, .int (0 : Int32)), (2, .int x1), (0, .ref (a k0)), (1, .int x1)]) X (by decide) rfl dX0_follow_5 ?_
  obtain ⟨n7, h⟩ := h
  have X55 : ∀ (u2_55 : Int32) (u3_55 : Int32) (u4_55 : Int32), E_X0_follow_7 x1 σ k0 K u2_55 u3_55 u4_55 → GMv p l e ({ frames := 0, cells := 0, slots := 0, locals := 0 } : Room) s m args below meth c K 5 D (tyC cI cZ cS) (wC cI cZ cS a) A 55 [(0, .ref (a k0)), (1, .int x1), (2, .int u2_55), (3, .int u3_55), (4, .int u4_55)] [] σ := by
    intro u2_55 u3_55 u4_55 h
    refine g_iload_n (pc := 55) X rfl 2 rfl dX0_follow_55 ?_
    refine g_iconst (pc := 56) X ic_m1 dX0_follow_56 ?_
    have J69 : ∀ (_ : Unit), J_X0_follow_69 x1 σ k0 K → GMv p l e ({ frames := 0, cells := 0, slots := 0, locals := 0 } : Room) s m args below meth c K 5 D (tyC cI cZ cS) (wC cI cZ cS a) A 69 [(0, .ref (a k0)), (1, .int x1)] [] σ := by
      intro _ h
      refine g_aload_n (pc := 69) X rfl 0 rfl dX0_follow_69 ?_
      refine fX0_29 (pc := 70) X hK hR hk0 dX0_follow_70 ?_
      refine g_iload_n (pc := 73) X rfl 1 rfl dX0_follow_73 ?_
      refine g_iconst (pc := 74) X ic_m1 dX0_follow_74 ?_
      obtain ⟨h_75, h⟩ := h
      refine tX0_source (pc := 75) X hK hk0 h_75 dX0_follow_75 (fun τ75 eτ75 => ?_)
      have h := h τ75 eτ75
      refine g_aload_n (pc := 76) X rfl 0 rfl dX0_follow_76 ?_
      refine fX0_38 (pc := 77) X hK hR hk0 dX0_follow_77 ?_
      refine g_iload_n (pc := 80) X rfl 1 rfl dX0_follow_80 ?_
      refine g_iconst (pc := 81) X ic_m1 dX0_follow_81 ?_
      obtain ⟨h_82, h⟩ := h
      refine tX0_steps (pc := 82) X hK hk0 h_82 dX0_follow_82 (fun τ82 eτ82 => ?_)
      have h := h τ82 eτ82
      refine g_aload_n (pc := 83) X rfl 0 rfl dX0_follow_83 ?_
      refine fX0_32 (pc := 84) X hK hR hk0 dX0_follow_84 ?_
      refine g_iload_n (pc := 87) X rfl 1 rfl dX0_follow_87 ?_
      refine g_iconst (pc := 88) X ic_0 dX0_follow_88 ?_
      obtain ⟨h_89, h⟩ := h
      refine tX0_error (pc := 89) X hK hk0 h_89 dX0_follow_89 (fun τ89 eτ89 => ?_)
      have h := h τ89 eτ89
      refine g_goto (pc := 90) (tgt := 143) X (by decide) dX0_follow_90 ?_
      exact g_retMv (pc := 143) X hK hr hlk dX0_follow_143 h
    refine g_icmp_eq (pc := 57) (tgt := 69) X (by decide) dX0_follow_57 (fun c_57 => ?_) (fun c_57 => ?_)
    · have h := ite_t c_57 h
      exact g_lv (J69 () h) [0, 1] rfl
    · have h := ite_f c_57 h
      refine g_aload_n (pc := 60) X rfl 0 rfl dX0_follow_60 ?_
      refine fX0_25 (pc := 61) X hK hR hk0 dX0_follow_61 ?_
      refine g_iload_n (pc := 64) X rfl 2 rfl dX0_follow_64 ?_
      obtain ⟨h_65, h⟩ := h
      refine aX0_hears (pc := 65) X hK hR hk0 h_65 dX0_follow_65 ?_
      refine g_if_ne (pc := 66) (tgt := 93) X (by decide) dX0_follow_66 (fun c_66 => ?_) (fun c_66 => ?_)
      · have h := ite_f c_66 h
        refine g_aload_n (pc := 93) X rfl 0 rfl dX0_follow_93 ?_
        refine fX0_29 (pc := 94) X hK hR hk0 dX0_follow_94 ?_
        refine g_iload_n (pc := 97) X rfl 1 rfl dX0_follow_97 ?_
        refine g_iload_n (pc := 98) X rfl 2 rfl dX0_follow_98 ?_
        obtain ⟨h_99, h⟩ := h
        refine tX0_source (pc := 99) X hK hk0 h_99 dX0_follow_99 (fun τ99 eτ99 => ?_)
        have h := h τ99 eτ99
        refine g_aload_n (pc := 100) X rfl 0 rfl dX0_follow_100 ?_
        refine fX0_38 (pc := 101) X hK hR hk0 dX0_follow_101 ?_
        refine g_iload_n (pc := 104) X rfl 1 rfl dX0_follow_104 ?_
        refine g_iload_n (pc := 105) X rfl 3 rfl dX0_follow_105 ?_
        obtain ⟨h_106, h⟩ := h
        refine tX0_steps (pc := 106) X hK hk0 h_106 dX0_follow_106 (fun τ106 eτ106 => ?_)
        have h := h τ106 eτ106
        refine g_aload_n (pc := 107) X rfl 0 rfl dX0_follow_107 ?_
        refine fX0_32 (pc := 108) X hK hR hk0 dX0_follow_108 ?_
        refine g_iload_n (pc := 111) X rfl 1 rfl dX0_follow_111 ?_
        refine g_iload (pc := 112) X 4 rfl dX0_follow_112 ?_
        refine g_aload_n (pc := 114) X rfl 0 rfl dX0_follow_114 ?_
        refine fX0_15 (pc := 115) X hK hR hk0 dX0_follow_115 ?_
        refine g_iload_n (pc := 118) X rfl 2 rfl dX0_follow_118 ?_
        obtain ⟨h_119, h⟩ := h
        refine aX0_place (pc := 119) X hK hR hk0 h_119 dX0_follow_119 ?_
        refine g_iconst (pc := 120) X ic_2 dX0_follow_120 ?_
        refine g_irem (pc := 121) X (by decide) dX0_follow_121 ?_
        refine g_if_ne (pc := 122) (tgt := 134) X (by decide) dX0_follow_122 (fun c_122 => ?_) (fun c_122 => ?_)
        · have h := ite_f c_122 h
          refine g_aload_n (pc := 134) X rfl 0 rfl dX0_follow_134 ?_
          refine fX0_19 (pc := 135) X hK hR hk0 dX0_follow_135 ?_
          refine g_iload_n (pc := 138) X rfl 2 rfl dX0_follow_138 ?_
          obtain ⟨h_139, h⟩ := h
          refine aX0_wrong (pc := 139) X hK hR hk0 h_139 dX0_follow_139 ?_
          refine g_ineg (pc := 140) X dX0_follow_140 ?_
          refine g_iadd (pc := 141) X dX0_follow_141 ?_
          obtain ⟨h_142, h⟩ := h
          refine tX0_error (pc := 142) X hK hk0 h_142 dX0_follow_142 (fun τ142 eτ142 => ?_)
          have h := h τ142 eτ142
          exact g_retMv (pc := 143) X hK hr hlk dX0_follow_143 h
        · have h := ite_t c_122 h
          refine g_aload_n (pc := 125) X rfl 0 rfl dX0_follow_125 ?_
          refine fX0_19 (pc := 126) X hK hR hk0 dX0_follow_126 ?_
          refine g_iload_n (pc := 129) X rfl 2 rfl dX0_follow_129 ?_
          obtain ⟨h_130, h⟩ := h
          refine aX0_wrong (pc := 130) X hK hR hk0 h_130 dX0_follow_130 ?_
          refine g_goto (pc := 131) (tgt := 141) X (by decide) dX0_follow_131 ?_
          refine g_iadd (pc := 141) X dX0_follow_141 ?_
          obtain ⟨h_142, h⟩ := h
          refine tX0_error (pc := 142) X hK hk0 h_142 dX0_follow_142 (fun τ142_1 eτ142_1 => ?_)
          have h := h τ142_1 eτ142_1
          exact g_retMv (pc := 143) X hK hr hlk dX0_follow_143 h
      · have h := ite_t c_66 h
        exact g_lv (J69 () h) [0, 1] rfl
  have L7 : ∀ (n : Nat) (y2_7 : Int32) (y3_7 : Int32) (y4_7 : Int32), lq3 (F_X0_follow_7 σ k0 (E_X0_follow_7 x1 σ k0 K)) n y2_7 y3_7 y4_7 → GMv p l e ({ frames := 0, cells := 0, slots := 0, locals := 0 } : Room) s m args below meth c K 5 D (tyC cI cZ cS) (wC cI cZ cS a) A 7 [(0, .ref (a k0)), (1, .int x1), (2, .int y2_7), (3, .int y3_7), (4, .int y4_7)] [] σ := by
    intro n
    induction n with
    | zero =>
      intro y2_7 y3_7 y4_7 h
      exact h.elim
    | succ n ih =>
      intro y2_7 y3_7 y4_7 h
      have h : F_X0_follow_7 σ k0 (E_X0_follow_7 x1 σ k0 K) (lq3 (F_X0_follow_7 σ k0 (E_X0_follow_7 x1 σ k0 K)) n) y2_7 y3_7 y4_7 := h
      refine g_iload_n (pc := 7) X rfl 3 rfl dX0_follow_7 ?_
      refine g_aload_n (pc := 8) X rfl 0 rfl dX0_follow_8 ?_
      refine fX0_9 (pc := 9) X hK hR hk0 dX0_follow_9 ?_
      refine g_icmp_ge (pc := 12) (tgt := 55) X (by decide) dX0_follow_12 (fun c_12 => ?_) (fun c_12 => ?_)
      · have h := ite_t c_12 h
        exact g_lv (X55 y2_7 y3_7 y4_7 h) [0, 1, 2, 3, 4] rfl
      · have h := ite_f c_12 h
        refine g_iload_n (pc := 15) X rfl 2 rfl dX0_follow_15 ?_
        refine g_iconst (pc := 16) X ic_m1 dX0_follow_16 ?_
        refine g_icmp_eq (pc := 17) (tgt := 55) X (by decide) dX0_follow_17 (fun c_17 => ?_) (fun c_17 => ?_)
        · have h := ite_t c_17 h
          exact g_lv (X55 y2_7 y3_7 y4_7 h) [0, 1, 2, 3, 4] rfl
        · have h := ite_f c_17 h
          refine g_aload_n (pc := 20) X rfl 0 rfl dX0_follow_20 ?_
          refine fX0_25 (pc := 21) X hK hR hk0 dX0_follow_21 ?_
          refine g_iload_n (pc := 24) X rfl 2 rfl dX0_follow_24 ?_
          obtain ⟨h_25, h⟩ := h
          refine aX0_hears (pc := 25) X hK hR hk0 h_25 dX0_follow_25 ?_
          refine g_if_ne (pc := 26) (tgt := 55) X (by decide) dX0_follow_26 (fun c_26 => ?_) (fun c_26 => ?_)
          · have h := ite_f c_26 h
            exact g_lv (X55 y2_7 y3_7 y4_7 h) [0, 1, 2, 3, 4] rfl
          · have h := ite_t c_26 h
            refine g_iload (pc := 29) X 4 rfl dX0_follow_29 ?_
            refine g_aload_n (pc := 31) X rfl 0 rfl dX0_follow_31 ?_
            refine fX0_19 (pc := 32) X hK hR hk0 dX0_follow_32 ?_
            refine g_iload_n (pc := 35) X rfl 2 rfl dX0_follow_35 ?_
            obtain ⟨h_36, h⟩ := h
            refine aX0_wrong (pc := 36) X hK hR hk0 h_36 dX0_follow_36 ?_
            refine g_iconst (pc := 37) X ic_2 dX0_follow_37 ?_
            refine g_idiv (pc := 38) X (by decide) dX0_follow_38 ?_
            refine g_iadd (pc := 39) X dX0_follow_39 ?_
            refine g_topi (fun x4_40 ex4_40 => ?_)
            have h := h x4_40 ex4_40
            refine g_istore (pc := 40) (lv' := [(4, .int x4_40), (0, .ref (a k0)), (1, .int x1), (2, .int y2_7), (3, .int y3_7)]) X (by decide) rfl dX0_follow_40 ?_
            refine g_aload_n (pc := 42) X rfl 1 rfl dX0_follow_42 ?_
            refine fX0_35 (pc := 43) X hK hR hk0 dX0_follow_43 ?_
            refine g_iload_n (pc := 46) X rfl 3 rfl dX0_follow_46 ?_
            obtain ⟨h_47, h⟩ := h
            refine aX0_neighbour (pc := 47) X hK hR hk0 h_47 dX0_follow_47 ?_
            refine g_topi (fun x2_48 ex2_48 => ?_)
            have h := h x2_48 ex2_48
            refine g_istore_n (pc := 48) (lv' := [(2, .int x2_48), (4, .int x4_40), (0, .ref (a k0)), (1, .int x1), (3, .int y3_7)]) X rfl (by decide) rfl dX0_follow_48 ?_
            refine g_iinc (pc := 49) (lv' := [(3, .int (y3_7 + (1 : Int32))), (2, .int x2_48), (4, .int x4_40), (0, .ref (a k0)), (1, .int x1)]) X 4 rfl rfl (by decide) rfl dX0_follow_49 ?_
            refine g_goto (pc := 52) (tgt := 7) X (by decide) dX0_follow_52 ?_
            exact g_lv (ih x2_48 (y3_7 + (1 : Int32)) x4_40 h) [3, 4, 1, 0, 2] rfl
  exact g_lv (L7 n7 x1 (0 : Int32) (0 : Int32) h) [3, 4, 2, 1, 0] rfl
set_option maxRecDepth 20000 in
theorem c_X0_link {k0 : Nat} (hk0 : isCh k0) (σ : Sg) (K : Sg → Prop) : ∀ sz, Met l yX0_link (.code yX0_link cX0_link 2 (none) :: AW) ({ frames := 2, cells := 0, slots := 0, locals := 46 } : Room) (pvM D (tyC cI cZ cS) (SXC tS tF) (wC cI cZ cS a σ) sz (w_X0_link k0 σ K) [.ref (a k0)]) (va_Qv K (atM D (tyC cI cZ cS) (wC cI cZ cS a) (va_A (wC cI cZ cS a σ) sz)) (va_A (wC cI cZ cS a σ) sz)) 0 0 (va_A (wC cI cZ cS a σ) sz) := by
  intro sz
  refine met_Mv (own := "TrainNote$Choir") (lv := [(0, .ref (a k0))]) (by decide +kernel) rfl (Nat.le_of_ble_eq_true rfl) rfl ?_
  intro p e s m args below meth c A X hK hX hA hr hlk h
  have hR : ∀ σ H locs, hpM D (wC cI cZ cS a) A s σ H locs → va_P D vwCl ((wC cI cZ cS a σ)) H := fun _ _ _ h => h.1
  have hok := SXC_ok tS tF
  refine g_iconst (pc := 0) X ic_0 dX0_link_0 ?_
  refine g_istore_n (pc := 1) (lv' := [(1, .int (0 : Int32)), (0, .ref (a k0))]) X rfl (by decide) rfl dX0_link_1 ?_
  obtain ⟨n2, h⟩ := h
  have X27 : ∀ (ρe27 : Sg), E_X0_link_2 k0 K ρe27 → GMv p l e ({ frames := 2, cells := 0, slots := 0, locals := 46 } : Room) s m args below meth c K 2 D (tyC cI cZ cS) (wC cI cZ cS a) A 27 [(0, .ref (a k0))] [] ρe27 := by
    intro ρe27 h
    refine g_iconst (pc := 27) X ic_0 dX0_link_27 ?_
    refine g_istore_n (pc := 28) (lv' := [(1, .int (0 : Int32)), (0, .ref (a k0))]) X rfl (by decide) rfl dX0_link_28 ?_
    obtain ⟨n29, h⟩ := h
    have X48 : ∀ (ρe48 : Sg), E_X0_link_29 K ρe48 → GMv p l e ({ frames := 2, cells := 0, slots := 0, locals := 46 } : Room) s m args below meth c K 2 D (tyC cI cZ cS) (wC cI cZ cS a) A 48 [] [] ρe48 := by
      intro ρe48 h
      exact g_retMv (pc := 48) X hK hr hlk dX0_link_48 h
    have L29 : ∀ (n : Nat) (y1_29 : Int32) (ρ29 : Sg), lq2 (F_X0_link_29 k0 (E_X0_link_29 K)) n y1_29 ρ29 → GMv p l e ({ frames := 2, cells := 0, slots := 0, locals := 46 } : Room) s m args below meth c K 2 D (tyC cI cZ cS) (wC cI cZ cS a) A 29 [(0, .ref (a k0)), (1, .int y1_29)] [] ρ29 := by
      intro n
      induction n with
      | zero =>
        intro y1_29 ρ29 h
        exact h.elim
      | succ n ih =>
        intro y1_29 ρ29 h
        have h : F_X0_link_29 k0 (E_X0_link_29 K) (lq2 (F_X0_link_29 k0 (E_X0_link_29 K)) n) y1_29 ρ29 := h
        refine g_iload_n (pc := 29) X rfl 1 rfl dX0_link_29 ?_
        refine g_aload_n (pc := 30) X rfl 0 rfl dX0_link_30 ?_
        refine fX0_9 (pc := 31) X hK hR hk0 dX0_link_31 ?_
        refine g_icmp_ge (pc := 34) (tgt := 48) X (by decide) dX0_link_34 (fun c_34 => ?_) (fun c_34 => ?_)
        · have h := ite_t c_34 h
          exact g_lv (X48 ρ29 h) [] rfl
        · have h := ite_f c_34 h
          refine g_aload_n (pc := 37) X rfl 0 rfl dX0_link_37 ?_
          refine g_iload_n (pc := 38) X rfl 1 rfl dX0_link_38 ?_
          refine g_cVMv (pc := 39) (As := [.int y1_29]) X hK hX hok hA mi_X0_follow (c_X0_follow (k0 := k0) hk0 y1_29 ρ29 _) (fun _ => ⟨_, wl_ate (oX0 (cI := cI) (cZ := cZ) (cS := cS) (a := a) hk0).1 ((oX0 (cI := cI) (cZ := cZ) (cS := cS) (a := a) hk0).2 _)⟩) rfl rfl kw2_18 ⟨rfl, rfl⟩ ⟨Nat.le_of_ble_eq_true rfl, Nat.le_of_ble_eq_true rfl⟩ rfl (Nat.le_of_ble_eq_true rfl) dX0_link_39 rfl h (fun τ39 h => ?_)
          refine g_iinc (pc := 42) (lv' := [(1, .int (y1_29 + (1 : Int32))), (0, .ref (a k0))]) X 1 rfl rfl (by decide) rfl dX0_link_42 ?_
          refine g_goto (pc := 45) (tgt := 29) X (by decide) dX0_link_45 ?_
          exact g_lv (ih (y1_29 + (1 : Int32)) τ39 h) [1, 0] rfl
    exact g_lv (L29 n29 (0 : Int32) ρe27 h) [1, 0] rfl
  have L2 : ∀ (n : Nat) (y1_2 : Int32) (ρ2 : Sg), lq2 (F_X0_link_2 k0 (E_X0_link_2 k0 K)) n y1_2 ρ2 → GMv p l e ({ frames := 2, cells := 0, slots := 0, locals := 46 } : Room) s m args below meth c K 2 D (tyC cI cZ cS) (wC cI cZ cS a) A 2 [(0, .ref (a k0)), (1, .int y1_2)] [] ρ2 := by
    intro n
    induction n with
    | zero =>
      intro y1_2 ρ2 h
      exact h.elim
    | succ n ih =>
      intro y1_2 ρ2 h
      have h : F_X0_link_2 k0 (E_X0_link_2 k0 K) (lq2 (F_X0_link_2 k0 (E_X0_link_2 k0 K)) n) y1_2 ρ2 := h
      refine g_iload_n (pc := 2) X rfl 1 rfl dX0_link_2 ?_
      refine g_aload_n (pc := 3) X rfl 0 rfl dX0_link_3 ?_
      refine fX0_9 (pc := 4) X hK hR hk0 dX0_link_4 ?_
      refine g_icmp_ge (pc := 7) (tgt := 27) X (by decide) dX0_link_7 (fun c_7 => ?_) (fun c_7 => ?_)
      · have h := ite_t c_7 h
        exact g_lv (X27 ρ2 h) [0] rfl
      · have h := ite_f c_7 h
        refine g_aload_n (pc := 10) X rfl 0 rfl dX0_link_10 ?_
        refine fX0_35 (pc := 11) X hK hR hk0 dX0_link_11 ?_
        refine g_iload_n (pc := 14) X rfl 1 rfl dX0_link_14 ?_
        refine g_aload_n (pc := 15) X rfl 0 rfl dX0_link_15 ?_
        refine g_iload_n (pc := 16) X rfl 1 rfl dX0_link_16 ?_
        refine g_cVPi (pc := 17) (As := [.int y1_2]) X hK hR mi_X0_nearestTo (c_X0_nearestTo (k0 := k0) hk0 y1_2 ρ2 _) (wl_ate (oX0 (cI := cI) (cZ := cZ) (cS := cS) (a := a) hk0).1 ((oX0 (cI := cI) (cZ := cZ) (cS := cS) (a := a) hk0).2 _)) rfl rfl kw2_11 ⟨rfl, rfl⟩ ⟨Nat.le_of_ble_eq_true rfl, Nat.le_of_ble_eq_true rfl⟩ rfl (Nat.le_of_ble_eq_true rfl) dX0_link_17 rfl h (fun r17 h => ?_)
        obtain ⟨h_20, h⟩ := h
        refine tX0_neighbour (pc := 20) X hK hk0 h_20 dX0_link_20 (fun τ20 eτ20 => ?_)
        have h := h τ20 eτ20
        refine g_iinc (pc := 21) (lv' := [(1, .int (y1_2 + (1 : Int32))), (0, .ref (a k0))]) X 1 rfl rfl (by decide) rfl dX0_link_21 ?_
        refine g_goto (pc := 24) (tgt := 2) X (by decide) dX0_link_24 ?_
        exact g_lv (ih (y1_2 + (1 : Int32)) τ20 h) [1, 0] rfl
  exact g_lv (L2 n2 (0 : Int32) σ h) [1, 0] rfl
set_option maxRecDepth 20000 in
theorem c_X0_parse {k0 : Nat} (hk0 : isCh k0) {k1 : Nat} (hk1 : isTx k1) (σ : Sg) (K : Sg → Prop) : ∀ sz, Met l yX0_parse (.code yX0_parse cX0_parse 3 (none) :: AW) ({ frames := 3, cells := 0, slots := 0, locals := 67 } : Room) (pvM D (tyC cI cZ cS) (SXC tS tF) (wC cI cZ cS a σ) sz (w_X0_parse k0 k1 σ K) [.ref (a k0), .ref (a k1)]) (va_Qv K (atM D (tyC cI cZ cS) (wC cI cZ cS a) (va_A (wC cI cZ cS a σ) sz)) (va_A (wC cI cZ cS a σ) sz)) 0 0 (va_A (wC cI cZ cS a σ) sz) := by
  intro sz
  refine met_Mv (own := "TrainNote$Choir") (lv := [(0, .ref (a k0)), (1, .ref (a k1))]) (by decide +kernel) rfl (Nat.le_of_ble_eq_true rfl) rfl ?_
  intro p e s m args below meth c A X hK hX hA hr hlk h
  have hR : ∀ σ H locs, hpM D (wC cI cZ cS a) A s σ H locs → va_P D vwCl ((wC cI cZ cS a σ)) H := fun _ _ _ h => h.1
  have hok := SXC_ok tS tF
  refine g_aload_n (pc := 0) X rfl 0 rfl dX0_parse_0 ?_
  refine g_iconst (pc := 1) X ic_0 dX0_parse_1 ?_
  refine pX0_9 (pc := 2) X hK hk0 dX0_parse_2 (fun τ2 eτ2 => ?_)
  have h := h τ2 eτ2
  refine g_aload_n (pc := 5) X rfl 1 rfl dX0_parse_5 ?_
  refine g_cVPi (pc := 6) (As := []) X hK hR mi_X4_faultOfSingers (c_X4_faultOfSingers (k0 := k1) hk1 τ2 _) (wl_ate (oX4 (cI := cI) (cZ := cZ) (cS := cS) (a := a) hk1).1 ((oX4 (cI := cI) (cZ := cZ) (cS := cS) (a := a) hk1).2 _)) rfl rfl kw2_0 ⟨rfl, rfl⟩ ⟨Nat.le_of_ble_eq_true rfl, Nat.le_of_ble_eq_true rfl⟩ rfl (Nat.le_of_ble_eq_true rfl) dX0_parse_6 rfl h (fun r6 h => ?_)
  refine g_iconst (pc := 9) X ic_m1 dX0_parse_9 ?_
  have J135 : ∀ (ρ135 : Sg), J_X0_parse_135 k0 K ρ135 → GMv p l e ({ frames := 3, cells := 0, slots := 0, locals := 67 } : Room) s m args below meth c K 3 D (tyC cI cZ cS) (wC cI cZ cS a) A 135 [(0, .ref (a k0))] [] ρ135 := by
    intro ρ135 h
    refine g_aload_n (pc := 135) X rfl 0 rfl dX0_parse_135 ?_
    refine g_cVMv (pc := 136) (As := []) X hK hX hok hA mi_X0_link (c_X0_link (k0 := k0) hk0 ρ135 _) (fun _ => ⟨_, wl_ate (oX0 (cI := cI) (cZ := cZ) (cS := cS) (a := a) hk0).1 ((oX0 (cI := cI) (cZ := cZ) (cS := cS) (a := a) hk0).2 _)⟩) rfl rfl kw2_7 ⟨rfl, rfl⟩ ⟨Nat.le_of_ble_eq_true rfl, Nat.le_of_ble_eq_true rfl⟩ rfl (Nat.le_of_ble_eq_true rfl) dX0_parse_136 rfl h (fun τ136 h => ?_)
    exact g_retMv (pc := 139) X hK hr hlk dX0_parse_139 h
  refine g_icmp_ne (pc := 10) (tgt := 135) X (by decide) dX0_parse_10 (fun c_10 => ?_) (fun c_10 => ?_)
  · have h := ite_f c_10 h
    exact g_lv (J135 τ2 h) [0] rfl
  · have h := ite_t c_10 h
    refine g_iconst (pc := 13) X ic_0 dX0_parse_13 ?_
    refine g_istore_n (pc := 14) (lv' := [(2, .int (0 : Int32)), (0, .ref (a k0)), (1, .ref (a k1))]) X rfl (by decide) rfl dX0_parse_14 ?_
    obtain ⟨n15, h⟩ := h
    have X135 : ∀ (ρe135 : Sg), E_X0_parse_15 k0 K ρe135 → GMv p l e ({ frames := 3, cells := 0, slots := 0, locals := 67 } : Room) s m args below meth c K 3 D (tyC cI cZ cS) (wC cI cZ cS a) A 135 [(0, .ref (a k0))] [] ρe135 := by
      intro ρe135 h
      exact g_lv (J135 ρe135 h) [0] rfl
    have L15 : ∀ (n : Nat) (y2_15 : Int32) (ρ15 : Sg), lq2 (F_X0_parse_15 k1 k0 (E_X0_parse_15 k0 K)) n y2_15 ρ15 → GMv p l e ({ frames := 3, cells := 0, slots := 0, locals := 67 } : Room) s m args below meth c K 3 D (tyC cI cZ cS) (wC cI cZ cS a) A 15 [(0, .ref (a k0)), (1, .ref (a k1)), (2, .int y2_15)] [] ρ15 := by
      intro n
      induction n with
      | zero =>
        intro y2_15 ρ15 h
        exact h.elim
      | succ n ih =>
        intro y2_15 ρ15 h
        have h : F_X0_parse_15 k1 k0 (E_X0_parse_15 k0 K) (lq2 (F_X0_parse_15 k1 k0 (E_X0_parse_15 k0 K)) n) y2_15 ρ15 := h
        generalize lq2 (F_X0_parse_15 k1 k0 (E_X0_parse_15 k0 K)) n = rec15 at h ih
        refine g_iload_n (pc := 15) X rfl 2 rfl dX0_parse_15 ?_
        refine g_iconst (pc := 16) X ic_3 dX0_parse_16 ?_
        refine g_iadd (pc := 17) X dX0_parse_17 ?_
        refine g_aload_n (pc := 18) X rfl 1 rfl dX0_parse_18 ?_
        refine fX0_47 (pc := 19) X hK hR hk1 dX0_parse_19 ?_
        refine g_icmp_ge (pc := 22) (tgt := 135) X (by decide) dX0_parse_22 (fun c_22 => ?_) (fun c_22 => ?_)
        · have h := ite_t c_22 h
          exact g_lv (X135 ρ15 h) [0] rfl
        · have h := ite_f c_22 h
          refine g_aload_n (pc := 25) X rfl 0 rfl dX0_parse_25 ?_
          refine fX0_9 (pc := 26) X hK hR hk0 dX0_parse_26 ?_
          refine g_bipush (pc := 29) X bp_8 dX0_parse_29 ?_
          refine g_icmp_ge (pc := 31) (tgt := 135) X (by decide) dX0_parse_31 (fun c_31 => ?_) (fun c_31 => ?_)
          · have h := ite_t c_31 h
            exact g_lv (X135 ρ15 h) [0] rfl
          · have h := ite_f c_31 h
            refine g_aload_n (pc := 34) X rfl 0 rfl dX0_parse_34 ?_
            refine fX0_15 (pc := 35) X hK hR hk0 dX0_parse_35 ?_
            refine g_aload_n (pc := 38) X rfl 0 rfl dX0_parse_38 ?_
            refine fX0_9 (pc := 39) X hK hR hk0 dX0_parse_39 ?_
            refine g_aload_n (pc := 42) X rfl 1 rfl dX0_parse_42 ?_
            refine fX0_48 (pc := 43) X hK hR hk1 dX0_parse_43 ?_
            refine g_iload_n (pc := 46) X rfl 2 rfl dX0_parse_46 ?_
            obtain ⟨h_47, h⟩ := h
            refine aX4_bytes (pc := 47) X hK hR hk1 h_47 dX0_parse_47 ?_
            refine g_bipush (pc := 48) X bp_48 dX0_parse_48 ?_
            refine g_isub (pc := 50) X dX0_parse_50 ?_
            obtain ⟨h_51, h⟩ := h
            refine tX0_place (pc := 51) X hK hk0 h_51 dX0_parse_51 (fun τ51 eτ51 => ?_)
            have h := h τ51 eτ51
            refine g_aload_n (pc := 52) X rfl 0 rfl dX0_parse_52 ?_
            refine fX0_19 (pc := 53) X hK hR hk0 dX0_parse_53 ?_
            refine g_aload_n (pc := 56) X rfl 0 rfl dX0_parse_56 ?_
            refine fX0_9 (pc := 57) X hK hR hk0 dX0_parse_57 ?_
            refine g_aload_n (pc := 60) X rfl 1 rfl dX0_parse_60 ?_
            refine fX0_48 (pc := 61) X hK hR hk1 dX0_parse_61 ?_
            refine g_iload_n (pc := 64) X rfl 2 rfl dX0_parse_64 ?_
            refine g_iconst (pc := 65) X ic_1 dX0_parse_65 ?_
            refine g_iadd (pc := 66) X dX0_parse_66 ?_
            obtain ⟨h_67, h⟩ := h
            refine aX4_bytes (pc := 67) X hK hR hk1 h_67 dX0_parse_67 ?_
            refine g_bipush (pc := 68) X bp_48 dX0_parse_68 ?_
            refine g_isub (pc := 70) X dX0_parse_70 ?_
            obtain ⟨h_71, h⟩ := h
            refine tX0_wrong (pc := 71) X hK hk0 h_71 dX0_parse_71 (fun τ71 eτ71 => ?_)
            have h := h τ71 eτ71
            refine g_aload_n (pc := 72) X rfl 0 rfl dX0_parse_72 ?_
            refine fX0_22 (pc := 73) X hK hR hk0 dX0_parse_73 ?_
            refine g_aload_n (pc := 76) X rfl 0 rfl dX0_parse_76 ?_
            refine fX0_9 (pc := 77) X hK hR hk0 dX0_parse_77 ?_
            refine g_aload_n (pc := 80) X rfl 1 rfl dX0_parse_80 ?_
            refine fX0_48 (pc := 81) X hK hR hk1 dX0_parse_81 ?_
            refine g_iload_n (pc := 84) X rfl 2 rfl dX0_parse_84 ?_
            refine g_iconst (pc := 85) X ic_2 dX0_parse_85 ?_
            refine g_iadd (pc := 86) X dX0_parse_86 ?_
            obtain ⟨h_87, h⟩ := h
            refine aX4_bytes (pc := 87) X hK hR hk1 h_87 dX0_parse_87 ?_
            refine g_bipush (pc := 88) X bp_48 dX0_parse_88 ?_
            refine g_isub (pc := 90) X dX0_parse_90 ?_
            obtain ⟨h_91, h⟩ := h
            refine tX0_sinks (pc := 91) X hK hk0 h_91 dX0_parse_91 (fun τ91 eτ91 => ?_)
            have h := h τ91 eτ91
            refine g_aload_n (pc := 92) X rfl 0 rfl dX0_parse_92 ?_
            refine fX0_25 (pc := 93) X hK hR hk0 dX0_parse_93 ?_
            refine g_aload_n (pc := 96) X rfl 0 rfl dX0_parse_96 ?_
            refine fX0_9 (pc := 97) X hK hR hk0 dX0_parse_97 ?_
            refine g_aload_n (pc := 100) X rfl 1 rfl dX0_parse_100 ?_
            refine fX0_48 (pc := 101) X hK hR hk1 dX0_parse_101 ?_
            refine g_iload_n (pc := 104) X rfl 2 rfl dX0_parse_104 ?_
            refine g_iconst (pc := 105) X ic_3 dX0_parse_105 ?_
            refine g_iadd (pc := 106) X dX0_parse_106 ?_
            obtain ⟨h_107, h⟩ := h
            refine aX4_bytes (pc := 107) X hK hR hk1 h_107 dX0_parse_107 ?_
            refine g_bipush (pc := 108) X bp_104 dX0_parse_108 ?_
            have J118 : ∀ (v0_118 : Int32) (v1_118 : Int32), J_X0_parse_118 τ91 k0 rec15 y2_15 v0_118 v1_118 → GMv p l e ({ frames := 3, cells := 0, slots := 0, locals := 67 } : Room) s m args below meth c K 3 D (tyC cI cZ cS) (wC cI cZ cS a) A 118 [(0, .ref (a k0)), (1, .ref (a k1)), (2, .int y2_15)] [.int v0_118, .int v1_118, .ref (a (k0 + 4))] τ91 := by
              intro v0_118 v1_118 h
              obtain ⟨h_118, h⟩ := h
              refine tX0_hears (pc := 118) X hK hk0 h_118 dX0_parse_118 (fun τ118 eτ118 => ?_)
              have h := h τ118 eτ118
              refine g_aload_n (pc := 119) X rfl 0 rfl dX0_parse_119 ?_
              refine g_dup (pc := 120) X rfl dX0_parse_120 ?_
              refine fX0_9 (pc := 121) X hK hR hk0 dX0_parse_121 ?_
              refine g_iconst (pc := 124) X ic_1 dX0_parse_124 ?_
              refine g_iadd (pc := 125) X dX0_parse_125 ?_
              refine pX0_9 (pc := 126) X hK hk0 dX0_parse_126 (fun τ126 eτ126 => ?_)
              have h := h τ126 eτ126
              refine g_iinc (pc := 129) (lv' := [(2, .int (y2_15 + (5 : Int32))), (0, .ref (a k0)), (1, .ref (a k1))]) X 2 rfl rfl (by decide) rfl dX0_parse_129 ?_
              refine g_goto (pc := 132) (tgt := 15) X (by decide) dX0_parse_132 ?_
              exact g_lv (ih (y2_15 + (5 : Int32)) τ126 h) [1, 2, 0] rfl
            refine g_icmp_ne (pc := 110) (tgt := 117) X (by decide) dX0_parse_110 (fun c_110 => ?_) (fun c_110 => ?_)
            · have h := ite_f c_110 h
              refine g_iconst (pc := 117) X ic_0 dX0_parse_117 ?_
              exact g_lv (J118 (0 : Int32) (τ91 k0 0) h) [0, 1, 2] rfl
            · have h := ite_t c_110 h
              refine g_iconst (pc := 113) X ic_1 dX0_parse_113 ?_
              refine g_goto (pc := 114) (tgt := 118) X (by decide) dX0_parse_114 ?_
              exact g_lv (J118 (1 : Int32) (τ91 k0 0) h) [0, 1, 2] rfl
    exact g_lv (L15 n15 (0 : Int32) τ2 h) [1, 2, 0] rfl
set_option maxRecDepth 20000 in
theorem c_X4_faultOfSong {k0 : Nat} (hk0 : isTx k0) (σ : Sg) (K : Int32 → Prop) : Met l yX4_faultOfSong (.code yX4_faultOfSong cX4_faultOfSong 2 (some .int) :: AW) ({ frames := 0, cells := 0, slots := 0, locals := 0 } : Room) (pvP D (tyC cI cZ cS) (wC cI cZ cS a σ) (w_X4_faultOfSong k0 σ K) [.ref (a k0)]) (vp_Si K) 0 0 (fun _ => False) := by
  refine met_Pi (own := "TrainNote$Text") (lv := [(0, .ref (a k0))]) (by decide +kernel) rfl (Nat.le_of_ble_eq_true rfl) rfl ?_
  intro p e s m args below meth c X hK hr hlk h
  have hR : ∀ σ H locs, hpP D (wC cI cZ cS a) s σ H locs → va_P D vwCl ((wC cI cZ cS a σ)) H := fun _ _ _ h => h.1
  refine g_iconst (pc := 0) X ic_0 dX4_faultOfSong_0 ?_
  refine g_istore_n (pc := 1) (lv' := [(1, .int (0 : Int32)), (0, .ref (a k0))]) X rfl (by decide) rfl dX4_faultOfSong_1 ?_
  obtain ⟨n2, h⟩ := h
  have X51 : E_X4_faultOfSong_2 K → GPi p l e ({ frames := 0, cells := 0, slots := 0, locals := 0 } : Room) s m args below meth c K 2 D (wC cI cZ cS a) 51 [] [] σ := by
    intro  h
    refine g_iconst (pc := 51) X ic_m1 dX4_faultOfSong_51 ?_
    exact g_retPi (pc := 52) X hr hlk dX4_faultOfSong_52 h
  have L2 : ∀ (n : Nat) (y1_2 : Int32), lq1 (F_X4_faultOfSong_2 σ k0 K (E_X4_faultOfSong_2 K)) n y1_2 → GPi p l e ({ frames := 0, cells := 0, slots := 0, locals := 0 } : Room) s m args below meth c K 2 D (wC cI cZ cS a) 2 [(0, .ref (a k0)), (1, .int y1_2)] [] σ := by
    intro n
    induction n with
    | zero =>
      intro y1_2 h
      exact h.elim
    | succ n ih =>
      intro y1_2 h
      have h : F_X4_faultOfSong_2 σ k0 K (E_X4_faultOfSong_2 K) (lq1 (F_X4_faultOfSong_2 σ k0 K (E_X4_faultOfSong_2 K)) n) y1_2 := h
      refine g_iload_n (pc := 2) X rfl 1 rfl dX4_faultOfSong_2 ?_
      refine g_aload_n (pc := 3) X rfl 0 rfl dX4_faultOfSong_3 ?_
      refine fX4_15 (pc := 4) X hK hR hk0 dX4_faultOfSong_4 ?_
      refine g_icmp_ge (pc := 7) (tgt := 51) X (by decide) dX4_faultOfSong_7 (fun c_7 => ?_) (fun c_7 => ?_)
      · have h := ite_t c_7 h
        exact g_lv (X51  h) [] rfl
      · have h := ite_f c_7 h
        refine g_aload_n (pc := 10) X rfl 0 rfl dX4_faultOfSong_10 ?_
        refine fX4_9 (pc := 11) X hK hR hk0 dX4_faultOfSong_11 ?_
        refine g_iload_n (pc := 14) X rfl 1 rfl dX4_faultOfSong_14 ?_
        obtain ⟨h_15, h⟩ := h
        refine aX4_bytes (pc := 15) X hK hR hk0 h_15 dX4_faultOfSong_15 ?_
        refine g_bipush (pc := 16) X bp_115 dX4_faultOfSong_16 ?_
        refine g_icmp_eq (pc := 18) (tgt := 45) X (by decide) dX4_faultOfSong_18 (fun c_18 => ?_) (fun c_18 => ?_)
        · have h := ite_t c_18 h
          refine g_iinc (pc := 45) (lv' := [(1, .int (y1_2 + (1 : Int32))), (0, .ref (a k0))]) X 1 rfl rfl (by decide) rfl dX4_faultOfSong_45 ?_
          refine g_goto (pc := 48) (tgt := 2) X (by decide) dX4_faultOfSong_48 ?_
          exact g_lv (ih (y1_2 + (1 : Int32)) h) [1, 0] rfl
        · have h := ite_f c_18 h
          refine g_aload_n (pc := 21) X rfl 0 rfl dX4_faultOfSong_21 ?_
          refine fX4_9 (pc := 22) X hK hR hk0 dX4_faultOfSong_22 ?_
          refine g_iload_n (pc := 25) X rfl 1 rfl dX4_faultOfSong_25 ?_
          obtain ⟨h_26, h⟩ := h
          refine aX4_bytes (pc := 26) X hK hR hk0 h_26 dX4_faultOfSong_26 ?_
          refine g_bipush (pc := 27) X bp_114 dX4_faultOfSong_27 ?_
          refine g_icmp_eq (pc := 29) (tgt := 45) X (by decide) dX4_faultOfSong_29 (fun c_29 => ?_) (fun c_29 => ?_)
          · have h := ite_t c_29 h
            refine g_iinc (pc := 45) (lv' := [(1, .int (y1_2 + (1 : Int32))), (0, .ref (a k0))]) X 1 rfl rfl (by decide) rfl dX4_faultOfSong_45 ?_
            refine g_goto (pc := 48) (tgt := 2) X (by decide) dX4_faultOfSong_48 ?_
            exact g_lv (ih (y1_2 + (1 : Int32)) h) [1, 0] rfl
          · have h := ite_f c_29 h
            refine g_aload_n (pc := 32) X rfl 0 rfl dX4_faultOfSong_32 ?_
            refine fX4_9 (pc := 33) X hK hR hk0 dX4_faultOfSong_33 ?_
            refine g_iload_n (pc := 36) X rfl 1 rfl dX4_faultOfSong_36 ?_
            obtain ⟨h_37, h⟩ := h
            refine aX4_bytes (pc := 37) X hK hR hk0 h_37 dX4_faultOfSong_37 ?_
            refine g_bipush (pc := 38) X bp_101 dX4_faultOfSong_38 ?_
            refine g_icmp_eq (pc := 40) (tgt := 45) X (by decide) dX4_faultOfSong_40 (fun c_40 => ?_) (fun c_40 => ?_)
            · have h := ite_t c_40 h
              refine g_iinc (pc := 45) (lv' := [(1, .int (y1_2 + (1 : Int32))), (0, .ref (a k0))]) X 1 rfl rfl (by decide) rfl dX4_faultOfSong_45 ?_
              refine g_goto (pc := 48) (tgt := 2) X (by decide) dX4_faultOfSong_48 ?_
              exact g_lv (ih (y1_2 + (1 : Int32)) h) [1, 0] rfl
            · have h := ite_f c_40 h
              refine g_iload_n (pc := 43) X rfl 1 rfl dX4_faultOfSong_43 ?_
              exact g_retPi (pc := 44) X hr hlk dX4_faultOfSong_44 h
  exact g_lv (L2 n2 (0 : Int32) h) [1, 0] rfl
end
