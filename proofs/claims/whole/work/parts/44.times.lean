theorem s_next (x : Int32) (K : Int32 → Prop) (h : K (nxt x)) : w_X6_nextSeed x K := h
/-- how often the bar closes in the first n lots -/
noncomputable abbrev tmP (P : Nat → Int32) (d : Nat → Nat → Int32) (N : Nat) (kd : Nat → Int32) (b1 : Nat) (e cl x : Int32) (n : Nat) : Prop := clz (NT P d N (nI (lv0 x n)) e (nI (lv2 x n)) (rb kd b1)) N kd b1 cl
theorem s_timesC (σ : Sg) (N B b1 m1 : Nat) (P : Nat → Int32) (d : Nat → Nat → Int32) (kd : Nat → Int32) (ok : okC N d) (hP : okP N P) (hB : B ≤ 24) (hb : b1 < B) (hm : m1 < 100) (hc : clIs σ 5 N P d) (hs : soIs σ B kd) (hT : okT (σ 26 0) (σ 26 1) (σ 26 2)) (x1 : Int32) (K : Int32 → Sg → Prop) (h : ∀ σ', same [27] σ σ' → K (nI (ctP (tmP P d N kd b1 (σ 26 1) (σ 26 3) x1) m1)) σ') : w_X5_become 27 26 σ (fun τ30 => (∃ n42, lq4 (F_X6_times_42 (nI m1) (nI b1) (E_X6_times_42 K)) n42 x1 (0 : Int32) (0 : Int32) τ30)) := by
  have hN := ok.1
  have hrb : rb kd b1 ≤ 24 := by have := rb_le kd b1; omega
  obtain ⟨tp, htp⟩ : ∃ tp : Nat → Prop, tp = tmP P d N kd b1 (σ 26 1) (σ 26 3) x1 := ⟨_, rfl⟩
  rw [← htp] at h
  refine s_become σ _ (fun σ1 u1 u2 => ?_)
  refine up4 (fun j y4 y5 y6 ρ => y4 = sdv x1 j ∧ y5 = nI (ctP tp j) ∧ y6 = nI j ∧ same [27] σ ρ ∧ ρ 27 1 = σ 26 1 ∧ ρ 27 3 = σ 26 3) m1 ?_ 0 _ _ _ _ (Nat.zero_le _) ⟨rfl, rfl, rfl, u1, u2 1 (by omega), u2 3 (by omega)⟩
  rintro j rc _ _ _ ρ hj ⟨rfl, rfl, rfl, g1, g2, g3⟩ hrc
  unfold F_X6_times_42 E_X6_times_42
  by_cases c1 : m1 ≤ j
  · have ej : j = m1 := by omega
    subst ej
    exact it_p (nI_le c1 (by omega)) (h ρ g1)
  · refine it_n (fun z => c1 ((nI_leI (by omega) (by omega)).mp z)) ?_
    refine s_next (sdv x1 j) _ ?_
    refine s_lotOf (nxt (sdv x1 j)) 100 (by omega) (by omega) _ ?_
    rintro _ rfl
    refine s_next (nxt (sdv x1 j)) _ ?_
    refine s_lotOf (nxt (nxt (sdv x1 j))) 19 (by omega) (by omega) _ ?_
    rintro _ rfl
    obtain ⟨ρ1, hρ1⟩ : ∃ ρ1, ρ1 = pt (pt ρ 27 0 (nI (lv0 x1 j))) 27 2 (nI (lv2 x1 j)) := ⟨_, rfl⟩
    have g5 : same [27] σ ρ1 := by rw [hρ1]; exact (g1.pt (by decide)).pt (by decide)
    have e0 : ρ1 27 0 = nI (lv0 x1 j) := by rw [hρ1, pt_o _ _ (by decide), pt_s]
    have e1 : ρ1 27 1 = σ 26 1 := by rw [hρ1, pt_o _ _ (by decide), pt_o _ _ (by decide)]; exact g2
    have e2 : ρ1 27 2 = nI (lv2 x1 j) := by rw [hρ1, pt_s]
    have e3 : ρ1 27 3 = σ 26 3 := by rw [hρ1, pt_o _ _ (by decide), pt_o _ _ (by decide)]; exact g3
    have hr : rg (NT P d N (ρ1 27 0) (ρ1 27 1) (ρ1 27 2) (rb kd b1)) N := by
      rw [e0, e1, e2]
      exact NT_rg ok hP ⟨⟨_, lotv_lt (by omega), rfl⟩, hT.2.1, ⟨_, lotv_lt (by omega), rfl⟩⟩ hrb
    have tpj : tp j ↔ clz (NT P d N (ρ1 27 0) (ρ1 27 1) (ρ1 27 2) (rb kd b1)) N kd b1 (ρ1 27 3) := by
      rw [htp, e0, e1, e2, e3]
    show w_X6_closes 27 (nI b1) (pt (pt ρ 27 0 (nI (lv0 x1 j))) 27 2 (nI (lv2 x1 j))) _
    rw [← hρ1]
    refine s_closes ρ1 27 N B b1 P d kd hN hB hb (cl_cg hc (fun q hq => g5 q (by simp; omega))) (so_cg hs (fun q hq _ => g5 q (by simp; omega))) hr _ (fun z => it_n (by decide) ?_) (fun z => it_p rfl ?_)
    · rw [← tpj] at z
      rw [nI_1, nI_1]
      subst hρ1
      exact hrc _ _ _ _ (by omega) ⟨rfl, by rw [ctP_y z], rfl, g5, e1, e3⟩
    · rw [← tpj] at z
      rw [nI_1]
      subst hρ1
      exact hrc _ _ _ _ (by omega) ⟨rfl, by rw [ctP_n z]; exact Int32.add_zero _, rfl, g5, e1, e3⟩
theorem s_timesM (σ τ1 : Sg) (N B b1 m1 : Nat) (P : Nat → Int32) (d : Nat → Nat → Int32) (kd : Nat → Int32) (hN : N ≤ 8) (hB : B ≤ 24) (hb : b1 < B) (hm : m1 < 100) (hf : fdIs τ1 N P d B kd) (h9 : ∀ j, j < 4 → τ1 9 j = σ 26 j) (x1 : Int32) (K : Int32 → Sg → Prop) (h : ∀ τ', kpM τ1 τ' → τ' 9 = τ1 9 → fdIs τ' N P d B kd → K (nI (ctP (tmP P d N kd b1 (σ 26 1) (σ 26 3) x1) m1)) τ') : w_X7_timesOf x1 (nI m1) (nI b1) τ1 K := by
  obtain ⟨tp, htp⟩ : ∃ tp : Nat → Prop, tp = tmP P d N kd b1 (σ 26 1) (σ 26 3) x1 := ⟨_, rfl⟩
  rw [← htp] at h
  unfold w_X7_timesOf
  rw [z0, z2]
  refine ⟨i04, ?_⟩
  rintro _ rfl
  refine ⟨i24, ?_⟩
  rintro _ rfl _ rfl
  refine up3 (fun j y6 y7 ρ => y6 = nI (ctP tp j) ∧ y7 = nI j ∧ ρ 0 21 = sdv x1 j ∧ same [0, 9, 11, 12, 13] τ1 ρ ∧ (∀ q, q ≠ 21 → ρ 0 q = τ1 0 q) ∧ (∀ q, q ≠ 0 → q ≠ 2 → ρ 9 q = τ1 9 q) ∧ fdIs ρ N P d B kd) m1 ?_ 0 _ _ _ (Nat.zero_le _) ⟨rfl, rfl, pt_s _ _ _ _, same.rf.pt (by decide), fun q hq => pt_o _ _ hq, fun q _ _ => by rw [pt_ne _ _ _ (by decide)], ?_⟩
  · rintro j rc _ _ ρ hj ⟨rfl, rfl, g0, g1, g2, g3, g4⟩ hrc
    unfold F_X7_timesOf_27 E_X7_timesOf_27
    rw [z0, z2]
    by_cases c1 : m1 ≤ j
    · have ej : j = m1 := by omega
      subst ej
      refine it_p (nI_le c1 (by omega)) ⟨i04, ?_⟩
      rintro _ rfl
      refine ⟨i24, ?_⟩
      rintro _ rfl
      have s2 : same [9] ρ (pt (pt ρ 9 0 (τ1 9 0)) 9 2 (τ1 9 2)) := (same.rf.pt (by decide)).pt (by decide)
      refine s_notes _ N B P d kd hN ⟨ρ, g4, s2.mono (by decide), by rw [s2 0 (by decide)], by rw [s2 0 (by decide)]⟩ _ (fun τ2 k2 k3 => ?_)
      have e9 : τ2 9 = τ1 9 := by
        rw [k2 9 (by decide)]
        funext q
        by_cases c2 : q = 2
        · subst c2
          exact pt_s _ _ _ _
        · rw [pt_o _ _ c2]
          by_cases c3 : q = 0
          · subst c3
            exact pt_s _ _ _ _
          · rw [pt_o _ _ c3]
            exact g3 q c3 c2
      refine h τ2 ⟨?_, ?_, ?_, fun q _ => by rw [e9]⟩ e9 k3
      · exact ((g1.mono (by decide)).tr (s2.mono (by decide))).tr (k2.mono (by decide))
      · rw [k2 0 (by decide), s2 0 (by decide)]
        exact g2 4 (by decide)
      · rw [k2 0 (by decide), s2 0 (by decide)]
        exact g2 18 (by decide)
    · refine it_n (fun z => c1 ((nI_leI (by omega) (by omega)).mp z)) ?_
      show w_X7_lot (nI 100) ρ _
      refine s_lot ρ 100 (by omega) (by omega) _ ⟨i04, ?_⟩
      rw [g0]
      rintro _ rfl
      show w_X7_lot (nI 19) _ _
      refine s_lot _ 19 (by omega) (by omega) _ ⟨i24, ?_⟩
      rw [pt_ne _ _ _ (show 0 ≠ 9 by decide), pt_s]
      rintro _ rfl
      obtain ⟨ρ1, hρ1⟩ : ∃ ρ1, ρ1 = pt (pt (pt (pt ρ 0 21 (nxt (sdv x1 j))) 9 0 (nI (lv0 x1 j))) 0 21 (sdv x1 (j + 1))) 9 2 (nI (lv2 x1 j)) := ⟨_, rfl⟩
      show w_X7_findNotes (pt (pt (pt (pt ρ 0 21 (nxt (sdv x1 j))) 9 0 (nI (lv0 x1 j))) 0 21 (sdv x1 (j + 1))) 9 2 (nI (lv2 x1 j))) _
      rw [← hρ1]
      have s2 : same [0, 9] ρ ρ1 := by
        rw [hρ1]
        exact (((same.rf.pt (by decide)).pt (by decide)).pt (by decide)).pt (by decide)
      have e21 : ρ1 0 21 = sdv x1 (j + 1) := by rw [hρ1, pt_ne _ _ _ (by decide), pt_s]
      have e0q : ∀ q, q ≠ 21 → ρ1 0 q = ρ 0 q := fun q hq => by rw [hρ1, pt_ne _ _ _ (by decide), pt_o _ _ hq, pt_ne _ _ _ (by decide), pt_o _ _ hq]
      have e9q : ∀ q, q ≠ 0 → q ≠ 2 → ρ1 9 q = ρ 9 q := fun q q0 q2 => by rw [hρ1, pt_o _ _ q2, pt_ne _ _ _ (by decide), pt_o _ _ q0, pt_ne _ _ _ (by decide)]
      have e90 : ρ1 9 0 = nI (lv0 x1 j) := by rw [hρ1, pt_o _ _ (by decide), pt_ne _ _ _ (by decide), pt_s]
      have e92 : ρ1 9 2 = nI (lv2 x1 j) := by rw [hρ1, pt_s]
      refine s_notes ρ1 N B P d kd hN ⟨ρ, g4, s2, e0q 7 (by decide), e0q 9 (by decide)⟩ _ (fun τ2 k2 k3 => ?_)
      have k9 : τ2 9 = ρ1 9 := k2 9 (by decide)
      have f1 : τ2 9 1 = σ 26 1 := by rw [k9, e9q 1 (by decide) (by decide), g3 1 (by decide) (by decide), h9 1 (by omega)]
      have f3 : τ2 9 3 = σ 26 3 := by rw [k9, e9q 3 (by decide) (by decide), g3 3 (by decide) (by decide), h9 3 (by omega)]
      have tpj : tp j ↔ clz (NT P d N (τ2 9 0) (τ2 9 1) (τ2 9 2) (rb kd b1)) N kd b1 (τ2 9 3) := by
        rw [htp, f1, f3, k9, e90, e92]
      have inv : τ2 0 21 = sdv x1 (j + 1) ∧ same [0, 9, 11, 12, 13] τ1 τ2 ∧ (∀ q, q ≠ 21 → τ2 0 q = τ1 0 q) ∧ (∀ q, q ≠ 0 → q ≠ 2 → τ2 9 q = τ1 9 q) ∧ fdIs τ2 N P d B kd := by
        refine ⟨by rw [k2 0 (by decide)]; exact e21, (g1.tr (s2.mono (by decide))).tr (k2.mono (by decide)), fun q hq => ?_, fun q q0 q2 => ?_, k3⟩
        · rw [k2 0 (by decide), e0q q hq]
          exact g2 q hq
        · rw [k9, e9q q q0 q2]
          exact g3 q q0 q2
      refine s_mcloses τ2 N B b1 P d kd hN hB hb k3 _ (fun z => it_n (by decide) ?_) (fun z => it_p rfl ?_)
      · rw [← tpj] at z
        rw [nI_1, nI_1]
        exact hrc _ _ _ (by omega) ⟨by rw [ctP_y z], rfl, inv⟩
      · rw [← tpj] at z
        rw [nI_1]
        exact hrc _ _ _ (by omega) ⟨by rw [ctP_n z]; exact Int32.add_zero _, rfl, inv⟩
  · have s3 : same [0] τ1 (pt τ1 0 21 x1) := same.rf.pt (by decide)
    unfold fdIs mdIs plIs ntIs ntAt mbIs at hf ⊢
    rw [s3 7 (by decide), s3 8 (by decide), s3 9 (by decide), s3 10 (by decide), s3 11 (by decide), s3 12 (by decide), s3 13 (by decide), pt_o _ _ (show 7 ≠ 21 by decide), pt_o _ _ (show 9 ≠ 21 by decide)]
    exact hf
theorem op_times {σ τ : Sg} (h : Rel σ τ) (x1 x2 x3 : Int32) : w_X6_times x1 x2 x3 σ (fun r1 σ1 => w_X7_times x1 x2 x3 τ (fun r2 τ1 => r1 = r2 ∧ Rel σ1 τ1)) := by
  obtain ⟨N, P, d, B, kd, ok, hP, hB, hc, hn, hs, hT, _, _, fnd⟩ := vw h
  have hN := ok.1
  unfold w_X6_times w_X7_times
  rcases ix_c x2 (n1 := 100) (by omega) with hx | ⟨m1, hm, rfl⟩
  · have M : w_X7_times x1 x2 x3 τ (fun r2 τ1 => -2 = r2 ∧ Rel σ τ1) := by
      refine fnd _ (fun τ' a1 a2 a3 a4 a5 => s_in (l := 1) (h := 99) (by decide) (by decide) _ (fun z1 z2 => ?_) (fun z => it_p rfl ⟨rfl, a4⟩))
      exfalso
      have e1 : (nI 100).toInt = 100 := by decide
      have e2 : (99 : Int32).toInt = 99 := by decide
      have e3 : (0 : Int32).toInt = 0 := by decide
      have e4 : (1 : Int32).toInt = 1 := by decide
      rw [fa_le] at z1 z2
      rw [fa_lt, fa_le] at hx
      omega
    refine it_c (fun _ => M) (fun c1 => it_p ?_ M)
    have e1 : (nI 100).toInt = 100 := by decide
    have e2 : (99 : Int32).toInt = 99 := by decide
    have e3 : (0 : Int32).toInt = 0 := by decide
    have e4 : (1 : Int32).toInt = 1 := by decide
    rw [fa_lt] at c1 ⊢
    rw [fa_lt, fa_le] at hx
    omega
  · by_cases c0 : m1 = 0
    · subst c0
      refine it_p (by decide) ?_
      exact fnd _ (fun τ' a1 a2 a3 a4 a5 => s_in (l := 1) (h := 99) (by decide) (by decide) _ (fun z1 z2 => absurd z1 (by decide)) (fun z => it_p rfl ⟨rfl, a4⟩))
    · refine it_n (i_nlt (nI_le (a := 1) (by omega) (by omega))) (it_n (i_nlt (nI_le (b := 99) (by omega) (by omega))) ?_)
      have I : ∀ K : Int32 → Prop, K 1 → w_X7_in (nI m1).toInt64 1 99 K := fun K hK => s_in (l := 1) (h := 99) (by decide) (by decide) _ (fun _ _ => hK) (fun z => absurd ⟨nI_le (a := 1) (by omega) (by omega), nI_le (b := 99) (by omega) (by omega)⟩ z)
      unfold w_X6_isSung w_X7_isSung
      rcases ix_c x3 (n1 := B) (by omega) with hx | ⟨b1, hb, rfl⟩
      · refine cbrN hs.1 hx _ (it_n (by decide) (it_p rfl ?_))
        exact fnd _ (fun τ' a1 a2 a3 a4 a5 => I _ (it_n (by decide) (barN hB a3.2.2.2.1 hx _ (it_p rfl (it_p rfl ⟨rfl, a4⟩)))))
      · refine cbrY hB hs.1 hb _ (it_p rfl ⟨vp_in_nI (by omega) (by omega), ?_⟩)
        rw [nI_clamp (by omega), show σ (23 + 1) b1 = kd b1 from (hs.2 b1 hb).1]
        refine it_c (fun c1 => it_p rfl ?_) (fun c1 => it_n (by decide) ?_)
        · refine fnd _ (fun τ' a1 a2 a3 a4 a5 => I _ (it_n (by decide) (barY hB a3.2.2.2.1 hb _ (it_n (by decide) ⟨vp_in_nI (by omega) (by omega), it_p ?_ (it_p rfl ⟨rfl, a4⟩)⟩))))
          rw [a3.2.2.2.2 b1 hb]
          exact c1
        · refine s_timesC σ N B b1 m1 P d kd ok hP hB hb hm hc hs hT x1 _ (fun σ' g1 => ?_)
          refine fnd _ (fun τ' a1 a2 a3 a4 a5 => I _ (it_n (by decide) (barY hB a3.2.2.2.1 hb _ (it_n (by decide) ⟨vp_in_nI (by omega) (by omega), it_n ?_ (it_n (by decide) ?_)⟩))))
          · rw [a3.2.2.2.2 b1 hb]
            exact c1
          · exact s_timesM σ τ' N B b1 m1 P d kd hN hB hb hm a3 a5 x1 _ (fun τ2 k1 k2 k3 => ⟨rfl, (a4.kp k1).ks (g1.mono (by decide))⟩)
