/-- a text cut short is read anew -/
theorem ct_0 {σ τ : Sg} {n0 n1 : Nat} (ht : relT σ τ n0 n1) (hp : relP σ n0 n1) (ho : oth σ τ) {m0 : Nat} (hm : m0 ≤ n0) (K : Sg → Prop) (h : ∀ σ', σ' 1 2 = nI m0 → Rel σ' (pt τ 6 0 (nI m0)) → K σ') : w_X0_parse 5 1 (pt σ 1 2 (nI m0)) K := by
  obtain ⟨t1, t2, t3, t4, t5, t6, t7, t8, t9, t10⟩ := ht
  refine re_0 (τ' := pt τ 6 0 (nI m0)) ho hp m0 (same.rf.pt (by decide)) (same.rf.pt (by decide)) ?_ _ (fun σ' q1 q2 => h σ' (by rw [q1, pt_s]) q2)
  refine ⟨by omega, t2, ?_, ?_, ?_, ?_, ?_, ?_, ?_, ?_⟩
  · rw [pt_o _ _ (by decide)]; exact t3
  · rw [pt_ne _ _ _ (by decide)]; exact t4
  · exact pt_s _ _ _ _
  · rw [pt_ne _ _ _ (by decide)]; exact t6
  · exact pt_s _ _ _ _
  · rw [pt_o _ _ (by decide)]; exact t8
  · intro i hi
    rw [pt_ne τ _ _ (by decide), pt_ne σ _ _ (by decide)]
    exact t9 i (by omega)
  · intro i hi
    rw [pt_ne τ _ _ (by decide), pt_ne σ _ _ (by decide)]
    exact t10 i hi
theorem ct_1 {σ τ : Sg} {n0 n1 : Nat} (ht : relT σ τ n0 n1) (hp : relP σ n0 n1) (ho : oth σ τ) {m1 : Nat} (hm : m1 ≤ n1) (K : Sg → Prop) (h : ∀ σ', σ' 3 2 = nI m1 → Rel σ' (pt τ 6 1 (nI m1)) → K σ') : w_X3_parse 23 3 (pt σ 3 2 (nI m1)) K := by
  obtain ⟨t1, t2, t3, t4, t5, t6, t7, t8, t9, t10⟩ := ht
  refine re_1 (τ' := pt τ 6 1 (nI m1)) ho hp m1 (same.rf.pt (by decide)) (same.rf.pt (by decide)) ?_ _ (fun σ' q1 q2 => h σ' (by rw [q1, pt_s]) q2)
  refine ⟨t1, by omega, ?_, ?_, ?_, ?_, ?_, ?_, ?_, ?_⟩
  · rw [pt_ne _ _ _ (by decide)]; exact t3
  · rw [pt_o _ _ (by decide)]; exact t4
  · rw [pt_ne _ _ _ (by decide)]; exact t5
  · exact pt_s _ _ _ _
  · rw [pt_o _ _ (by decide)]; exact t7
  · exact pt_s _ _ _ _
  · intro i hi
    rw [pt_ne τ _ _ (by decide), pt_ne σ _ _ (by decide)]
    exact t9 i hi
  · intro i hi
    rw [pt_ne τ _ _ (by decide), pt_ne σ _ _ (by decide)]
    exact t10 i (by omega)
theorem s_short (σ : Sg) (k0 n1 m1 : Nat) (hn : n1 < 2 ^ 31) (hm : m1 ≤ n1) (e : σ k0 2 = nI n1) (K : Sg → Prop) (h : K (pt σ k0 2 (nI m1))) : w_X4_shorten k0 (nI m1) σ K := by
  unfold w_X4_shorten
  rw [e]
  rintro _ rfl
  have q1 : ¬ nI n1 < nI m1 := fun z => by rw [nI_ltI (by omega) (by omega)] at z; omega
  rw [if_neg q1]
  rintro _ rfl _ rfl
  by_cases c1 : m1 = 0
  · subst c1
    exact h
  · rw [if_pos (show (0 : Int32) < nI m1 from nI_lt (a := 0) (by omega) (by omega))]
    exact h
theorem op_wipe {σ τ : Sg} (h : Rel σ τ) (x1 : Int32) : w_X6_wipe x1 σ (fun r1 σ1 => w_X7_wipe x1 τ (fun r2 τ1 => r1 = r2 ∧ Rel σ1 τ1)) := by
  have hR := h
  obtain ⟨⟨n0, n1, ht, hp⟩, ho⟩ := h
  have ht' := ht
  obtain ⟨t1, t2, t3, t4, t5, t6, t7, t8, t9, t10⟩ := ht'
  unfold w_X6_wipe
  rcases two_c (x := x1) with hx | rfl | rfl
  · exact ntxN hx _ (it_n (by decide) (twoN hx _ (it_p rfl ⟨rfl, hR⟩)))
  · refine ntxY (by omega) _ (it_p rfl (it_p rfl ?_))
    refine s_short σ 1 n0 0 (by omega) (by omega) t5 _ (it_p rfl (ct_0 ht hp ho (by omega) _ (fun σ' q1 q2 => ?_)))
    refine twoY (by omega) _ (it_n (by decide) ⟨vp_in_nI (by omega) (by omega), vp_in_nI (by omega) (by omega), ?_⟩)
    rintro _ rfl
    exact ⟨t5.trans t7.symm, q2⟩
  · refine ntxY (by omega) _ (it_p rfl (it_n (by decide) ?_))
    refine s_short σ 3 n1 0 (by omega) (by omega) t6 _ (it_n (by decide) (ct_1 ht hp ho (by omega) _ (fun σ' q1 q2 => ?_)))
    refine twoY (by omega) _ (it_n (by decide) ⟨vp_in_nI (by omega) (by omega), vp_in_nI (by omega) (by omega), ?_⟩)
    rintro _ rfl
    exact ⟨t6.trans t8.symm, q2⟩
theorem op_undo {σ τ : Sg} (h : Rel σ τ) (x1 : Int32) : w_X6_undo x1 σ (fun r1 σ1 => w_X7_undo x1 τ (fun r2 τ1 => r1 = r2 ∧ Rel σ1 τ1)) := by
  have hR := h
  obtain ⟨⟨n0, n1, ht, hp⟩, ho⟩ := h
  have ht' := ht
  obtain ⟨t1, t2, t3, t4, t5, t6, t7, t8, t9, t10⟩ := ht'
  unfold w_X6_undo
  rcases two_c (x := x1) with hx | rfl | rfl
  · exact ntxN hx _ (it_n (by decide) (twoN hx _ (it_p rfl ⟨rfl, hR⟩)))
  · refine ntxY (by omega) _ (it_p rfl (it_p rfl ?_))
    dsimp only
    rw [t5]
    cases n0 with
    | zero => exact it_p rfl (twoY (by omega) _ (it_n (by decide) ⟨vp_in_nI (by omega) (by omega), it_p t7 ⟨rfl, hR⟩⟩))
    | succ m0 =>
      rw [nI_pred]
      have ne : ¬ nI (m0 + 1) = 0 := fun z => by rw [show (0 : Int32) = nI 0 from rfl, nI_eq (by omega) (by omega)] at z; omega
      refine it_n ne (s_short σ 1 (m0 + 1) m0 (by omega) (by omega) t5 _ (it_p rfl (ct_0 ht hp ho (by omega) _ (fun σ' q1 q2 => ?_))))
      have ne2 : ¬ τ 6 (nI 0).toNatClampNeg = 0 := by rw [show τ 6 (nI 0).toNatClampNeg = nI (m0 + 1) from t7]; exact ne
      refine twoY (by omega) _ (it_n (by decide) ⟨vp_in_nI (by omega) (by omega), it_n ne2 ⟨vp_in_nI (by omega) (by omega), vp_in_nI (by omega) (by omega), ?_⟩⟩)
      rintro _ rfl
      rw [show τ 6 (nI 0).toNatClampNeg = nI (m0 + 1) from t7, nI_pred]
      exact ⟨vp_in_nI (by omega) (by omega), q1.trans (pt_s _ _ _ _).symm, q2⟩
  · refine ntxY (by omega) _ (it_p rfl (it_n (by decide) ?_))
    dsimp only
    rw [t6]
    cases n1 with
    | zero => exact it_p rfl (twoY (by omega) _ (it_n (by decide) ⟨vp_in_nI (by omega) (by omega), it_p t8 ⟨rfl, hR⟩⟩))
    | succ m0 =>
      rw [nI_pred]
      have ne : ¬ nI (m0 + 1) = 0 := fun z => by rw [show (0 : Int32) = nI 0 from rfl, nI_eq (by omega) (by omega)] at z; omega
      refine it_n ne (s_short σ 3 (m0 + 1) m0 (by omega) (by omega) t6 _ (it_n (by decide) (ct_1 ht hp ho (by omega) _ (fun σ' q1 q2 => ?_))))
      have e1 : (nI 1).toNatClampNeg = 1 := by decide
      have ne2 : ¬ τ 6 (nI 1).toNatClampNeg = 0 := by rw [e1, t8]; exact ne
      refine twoY (by omega) _ (it_n (by decide) ⟨vp_in_nI (by omega) (by omega), it_n ne2 ⟨vp_in_nI (by omega) (by omega), vp_in_nI (by omega) (by omega), ?_⟩⟩)
      rintro _ rfl
      rw [e1, t8, nI_pred]
      exact ⟨vp_in_nI (by omega) (by omega), q1.trans (pt_s _ _ _ _).symm, q2⟩
theorem kp7 {τ τ' : Sg} (h : same [0, 7] τ τ') (g1 : ∀ q, q ≠ 7 → τ' 0 q = τ 0 q) : kpM τ τ' := ⟨h.mono (by decide), g1 4 (by decide), g1 18 (by decide), fun j _ => by rw [h 9 (by decide)]⟩
theorem kp8 {τ τ' : Sg} (h : same [0, 8] τ τ') (g1 : ∀ q, q ≠ 9 → τ' 0 q = τ 0 q) : kpM τ τ' := ⟨h.mono (by decide), g1 4 (by decide), g1 18 (by decide), fun j _ => by rw [h 9 (by decide)]⟩
theorem op_fault {σ τ : Sg} (h : Rel σ τ) (x1 : Int32) : w_X6_fault x1 σ (fun r1 => w_X7_fault x1 τ (fun r2 τ1 => r1 = r2 ∧ Rel σ τ1)) := by
  have hR := h
  obtain ⟨⟨n0, n1, ht, hp⟩, ho⟩ := h
  obtain ⟨t1, t2, t3, t4, t5, t6, t7, t8, t9, t10⟩ := ht
  unfold w_X6_fault
  rcases two_c (x := x1) with hx | rfl | rfl
  · exact ntxN hx _ (it_n (by decide) (twoN hx _ (it_p rfl ⟨rfl, hR⟩)))
  · refine ntxY (by omega) _ (it_p rfl (it_p rfl ?_))
    refine s_faultS σ 1 n0 t1 t5 _ (twoY (by omega) _ (it_n (by decide) (it_p rfl ?_)))
    exact s_readsS2 τ (σ 2) n0 t1 t7 t9 _ (fun τ' a1 a2 a3 => ⟨rfl, hR.kp (kp7 a1 a2)⟩)
  · refine ntxY (by omega) _ (it_p rfl (it_n (by decide) ?_))
    refine s_faultB σ 3 n1 (by omega) t6 _ (twoY (by omega) _ (it_n (by decide) (it_n (by decide) ?_)))
    exact s_readsB2 τ (σ 4) n1 t2 t8 t10 _ (fun τ' a1 a2 a3 => ⟨rfl, hR.kp (kp8 a1 a2)⟩)
theorem op_singer {σ τ : Sg} (h : Rel σ τ) (x1 x2 : Int32) : w_X6_singer x1 x2 σ (fun r1 => w_X7_singer x1 x2 τ (fun r2 τ1 => r1 = r2 ∧ Rel σ τ1)) := by
  have hR := h
  obtain ⟨⟨n0, n1, ht, hp⟩, ho⟩ := h
  obtain ⟨t1, t2, t3, t4, t5, t6, t7, t8, t9, t10⟩ := ht
  have ok := okC_S (b := σ 2) t1
  have hN := ok.1
  have hc := hp.1.1
  unfold w_X6_singer
  rcases ix_c x1 (n1 := nS (σ 2) n0) (by omega) with hx | ⟨k1, hk, rfl⟩
  · refine csgN hc.1 hx _ (it_n (by decide) ?_)
    exact s_readsS2 τ (σ 2) n0 t1 t7 t9 _ (fun τ' a1 a2 a3 => sngN hN a3.1 hx _ (it_p rfl ⟨rfl, hR.kp (kp7 a1 a2)⟩))
  · have mN : (x2 < 0 ∨ nI 4 ≤ x2) → w_X7_singer (nI k1) x2 τ (fun r2 τ1 => -2 = r2 ∧ Rel σ τ1) := fun hy =>
      s_readsS2 τ (σ 2) n0 t1 t7 t9 _ (fun τ' a1 a2 a3 => sngY hN a3.1 hk _ (it_n (by decide) (inN (m1 := 3) hy (by omega) (by decide) _ (it_p rfl ⟨rfl, hR.kp (kp7 a1 a2)⟩))))
    have mY : ∀ j, j < 4 → w_X7_singer (nI k1) (nI j) τ (fun r2 τ1 => dS (σ 2) j k1 = r2 ∧ Rel σ τ1) := fun j hj => by
      refine s_readsS2 τ (σ 2) n0 t1 t7 t9 _ (fun τ' a1 a2 a3 => sngY hN a3.1 hk _ (it_n (by decide) (inY (m1 := 3) (by omega) (by omega) (by decide) _ (it_n (by decide) ?_))))
      simp (disch := omega) only [Nat.reduceAdd, fa_lit, nI_leI, nI_ltI, nI_eq, nI_add, pk_mul, pk_sub, pk_div, nI_clamp, c_vin, c_em1, c_m1e]
      rw [a3.2 k1 hk j hj]
      exact ⟨by omega, rfl, hR.kp (kp7 a1 a2)⟩
    obtain ⟨d1, d2, d3, d4⟩ := hc.2 k1 hk
    have cl : (nI k1).toNatClampNeg = k1 := nI_clamp (by omega)
    have vi : vp_in (nI k1) 8 := vp_in_nI (by omega) (by omega)
    refine csgY hN hc.1 hk _ (it_p rfl ?_)
    rw [cl, d1, d2, d3, d4]
    rcases ix_c x2 (n1 := 4) (by omega) with hy | ⟨j, hj, rfl⟩
    · have nz : ∀ q : Nat, q < 4 → ¬ x2 = nI q := by
        rintro q hq rfl
        rcases hy with hy | hy
        · exact nI_pos (by omega) hy
        · rw [nI_leI (by omega) (by omega)] at hy
          omega
      exact it_n (nz 0 (by omega)) (it_n (nz 1 (by omega)) (it_n (nz 2 (by omega)) (it_n (nz 3 (by omega)) (mN hy))))
    · rcases (show j = 0 ∨ j = 1 ∨ j = 2 ∨ j = 3 by omega) with rfl | rfl | rfl | rfl
      · exact it_p rfl ⟨vi, mY 0 (by omega)⟩
      · exact it_n (by decide) (it_p rfl ⟨vi, mY 1 (by omega)⟩)
      · exact it_n (by decide) (it_n (by decide) (it_p rfl ⟨vi, mY 2 (by omega)⟩))
      · refine it_n (by decide) (it_n (by decide) (it_n (by decide) (it_p rfl ⟨vi, ?_⟩)))
        have := mY 3 (by omega)
        rcases (ok.2 k1 hk).2.2.2 with e | e
        · rw [e] at this ⊢
          exact it_p rfl this
        · rw [e] at this ⊢
          exact it_n (by decide) this
