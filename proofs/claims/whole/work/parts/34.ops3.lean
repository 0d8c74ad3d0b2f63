theorem op_bar {σ τ : Sg} (h : Rel σ τ) (x1 : Int32) : w_X6_bar x1 σ (fun r1 => w_X7_bar x1 τ (fun r2 τ1 => r1 = r2 ∧ Rel σ τ1)) := by
  have hR := h
  obtain ⟨⟨n0, n1, ht, hp⟩, ho⟩ := h
  obtain ⟨t1, t2, t3, t4, t5, t6, t7, t8, t9, t10⟩ := ht
  have hb := nB_le (b := σ 4) (n := n1)
  have hs := hp.2.2
  unfold w_X6_bar
  rcases ix_c x1 (n1 := 24) (by omega) with hx | ⟨k1, hk, rfl⟩
  · have key : w_X7_bar x1 τ (fun r2 τ1 => -2 = r2 ∧ Rel σ τ1) :=
      s_readsB2 τ (σ 4) n1 t2 t8 t10 _ (fun τ' a1 a2 a3 => inN (m1 := 23) hx (by omega) (by decide) _ (it_p rfl ⟨rfl, hR.kp (kp8 a1 a2)⟩))
    refine it_c (fun _ => key) (fun c1 => it_n (fun c2 => ?_) key)
    rcases hx with hx | hx
    · exact c1 hx
    · exact i_nle c2 hx
  · refine it_n (nI_pos (by omega)) (it_p (nI_lt (b := 24) hk (by omega)) ?_)
    rw [hs.1, nI_clamp (by omega)]
    by_cases c1 : nB (σ 4) n1 ≤ k1
    · refine it_p (nI_le c1 (by omega)) ?_
      refine s_readsB2 τ (σ 4) n1 t2 t8 t10 _ (fun τ' a1 a2 a3 => inY (m1 := 23) (by omega) (by omega) (by decide) _ (it_n (by decide) ?_))
      rw [a3.1]
      exact it_p (nI_le c1 (by omega)) ⟨rfl, hR.kp (kp8 a1 a2)⟩
    · have c2 : ¬ nI (nB (σ 4) n1) ≤ nI k1 := fun z => c1 ((nI_leI (by omega) (by omega)).mp z)
      refine it_n c2 ⟨vp_in_nI (by omega) (by omega), ?_⟩
      refine s_readsB2 τ (σ 4) n1 t2 t8 t10 _ (fun τ' a1 a2 a3 => inY (m1 := 23) (by omega) (by omega) (by decide) _ (it_n (by decide) ?_))
      rw [a3.1, nI_clamp (by omega), a3.2 k1 (by omega)]
      exact it_n c2 ⟨vp_in_nI (by omega) (by omega), (hs.2 k1 (by omega)).1, hR.kp (kp8 a1 a2)⟩
theorem Rel.set {σ τ : Sg} (h : Rel σ τ) (j : Nat) (hj : j < 4) (y1 : Nat) (hy : y1 < (if j = 1 then 10 else if j = 2 then 19 else 100)) : Rel (pt σ 26 j (nI y1)) (pt τ 9 j (nI y1)) := by
  obtain ⟨⟨n0, n1, h1, h2⟩, h3, h4, h5, h6⟩ := h
  refine ⟨⟨n0, n1, ?_, ?_⟩, ⟨?_, ?_, ?_⟩, ?_, ?_, ?_⟩
  · unfold relT
    rw [pt_ne τ _ _ (show 6 ≠ 9 by decide), pt_ne τ _ _ (show 5 ≠ 9 by decide), pt_ne σ _ _ (show 1 ≠ 26 by decide), pt_ne σ _ _ (show 3 ≠ 26 by decide), pt_ne σ _ _ (show 2 ≠ 26 by decide), pt_ne σ _ _ (show 4 ≠ 26 by decide)]
    exact h1
  · have e : ∀ q, q ≠ 26 → pt σ 26 j (nI y1) q = σ q := fun q hq => pt_ne _ _ _ hq
    unfold relP clIs chIs lkAt nbIs soIs
    rw [e 2 (by decide), e 4 (by decide), e 5 (by decide), e (5 + 1) (by decide), e (5 + 2) (by decide), e (5 + 3) (by decide), e (5 + 4) (by decide), e (5 + 5) (by decide), e (5 + 6) (by decide), e (5 + 7) (by decide), e (5 + 8) (by decide), e 23 (by decide), e 24 (by decide), e 25 (by decide)]
    exact h2
  · intro i hi
    by_cases e : i = j
    · subst e
      rw [pt_s, pt_s]
    · rw [pt_o _ _ e, pt_o _ _ e]
      exact h3.1 i hi
  · obtain ⟨a1, a2, a3⟩ := h3.2.1
    refine ⟨?_, ?_, ?_⟩
    · by_cases e : 0 = j
      · subst e
        exact ⟨y1, hy, pt_s _ _ _ _⟩
      · rw [pt_o _ _ e]; exact a1
    · by_cases e : 1 = j
      · subst e
        exact ⟨y1, hy, pt_s _ _ _ _⟩
      · rw [pt_o _ _ e]; exact a2
    · by_cases e : 2 = j
      · subst e
        exact ⟨y1, hy, pt_s _ _ _ _⟩
      · rw [pt_o _ _ e]; exact a3
  · by_cases e : 3 = j
    · subst e
      exact ⟨y1, hy, pt_s _ _ _ _⟩
    · rw [pt_o _ _ e]; exact h3.2.2
  · unfold relH
    rw [pt_ne τ _ _ (show 0 ≠ 9 by decide), pt_ne τ _ _ (show 16 ≠ 9 by decide), pt_ne σ _ _ (show 28 ≠ 26 by decide), pt_ne σ _ _ (show 29 ≠ 26 by decide), pt_ne σ _ _ (show 30 ≠ 26 by decide), pt_ne σ _ _ (show 31 ≠ 26 by decide)]
    exact h4
  · intro s hs
    unfold relS1
    rw [pt_ne τ _ _ (show 1 ≠ 9 by decide), pt_ne τ _ _ (show 2 ≠ 9 by decide), pt_ne τ _ _ (show 3 ≠ 9 by decide), pt_ne σ _ _ (show 33 + 2 * s ≠ 26 by omega), pt_ne σ _ _ (show 34 + 2 * s ≠ 26 by omega)]
    exact h5 s hs
  · rw [pt_ne τ _ _ (show 0 ≠ 9 by decide), pt_ne σ _ _ (show 0 ≠ 26 by decide)]
    exact h6
theorem s_set (τ : Sg) (j : Nat) (hj : j < 4) (x2 : Int32) (m1 : Nat) (hm : m1 = (if j = 1 then 10 else if j = 2 then 19 else 100)) (K : Int32 → Sg → Prop) (h1 : ∀ y1 : Nat, y1 < m1 → x2 = nI y1 → K (τ 9 j) (pt τ 9 j (nI y1))) (h0 : (x2 < 0 ∨ nI m1 ≤ x2) → K (-2) τ) : w_X7_set (nI j) x2 τ K := by
  have cl : (nI j).toNatClampNeg = j := nI_clamp (by omega)
  have vi : vp_in (nI j) 4 := vp_in_nI (by omega) (by omega)
  have key : ∀ hi : Int64, (nI (m1 - 1)).toInt64 = hi → m1 ≤ 100 → 0 < m1 → J_X7_set_40 K τ (nI j) x2 hi 0 x2.toInt64 := by
    intro hi e e2 e3
    unfold J_X7_set_40
    rcases ix_c x2 (n1 := m1) (by omega) with hx | ⟨y1, hy, rfl⟩
    · exact inN (m1 := m1 - 1) (by rw [show m1 - 1 + 1 = m1 by omega]; exact hx) (by omega) e _ (it_p rfl (h0 hx))
    · refine inY (m1 := m1 - 1) (by omega) (by omega) e _ (it_n (by decide) ⟨vi, vi, ?_⟩)
      rintro _ rfl
      rw [cl]
      exact h1 y1 hy rfl
  refine inY (m1 := 3) (by omega) (by omega) (by decide) _ (it_n (by decide) ?_)
  rcases (show j = 0 ∨ j = 1 ∨ j = 2 ∨ j = 3 by omega) with rfl | rfl | rfl | rfl
  · subst hm
    exact it_n (by decide) (it_n (by decide) (key _ (by decide) (by decide) (by decide)))
  · subst hm
    exact it_p rfl (key _ (by decide) (by decide) (by decide))
  · subst hm
    exact it_n (by decide) (it_p rfl (key _ (by decide) (by decide) (by decide)))
  · subst hm
    exact it_n (by decide) (it_n (by decide) (key _ (by decide) (by decide) (by decide)))
theorem op_set {σ τ : Sg} (h : Rel σ τ) (x1 x2 : Int32) : w_X6_set x1 x2 σ (fun r1 σ1 => w_X7_set x1 x2 τ (fun r2 τ1 => r1 = r2 ∧ Rel σ1 τ1)) := by
  unfold w_X6_set
  rcases ix_c x1 (n1 := 4) (by omega) with hx | ⟨j, hj, rfl⟩
  · have key : w_X7_set x1 x2 τ (fun r2 τ1 => -2 = r2 ∧ Rel σ τ1) := inN (m1 := 3) hx (by omega) (by decide) _ (it_p rfl ⟨rfl, h⟩)
    refine it_c (fun _ => key) (fun c1 => it_p ?_ key)
    exact hx.resolve_left c1
  · obtain ⟨m1, hm⟩ : ∃ m1 : Nat, m1 = (if j = 1 then 10 else if j = 2 then 19 else 100) := ⟨_, rfl⟩
    have hm2 : m1 ≤ 100 := by rw [hm]; split <;> (try split) <;> omega
    have sf : setF j = nI m1 := by
      rw [hm]
      unfold setF
      split
      · rfl
      · split <;> rfl
    have cl : (nI j).toNatClampNeg = j := nI_clamp (by omega)
    have key : (x2 < 0 ∨ nI m1 ≤ x2) → w_X7_set (nI j) x2 τ (fun r2 τ1 => -2 = r2 ∧ Rel σ τ1) := fun hy => by
      refine s_set τ j hj x2 m1 hm _ (fun y1 hy1 e => ?_) (fun _ => ⟨rfl, h⟩)
      subst e
      exfalso
      rcases hy with hy | hy
      · exact nI_pos (by omega) hy
      · rw [nI_leI (by omega) (by omega)] at hy
        omega
    refine it_n (nI_pos (by omega)) (it_n (fun z => ?_) ?_)
    · rw [show (4 : Int32) = nI 4 from rfl, nI_leI (by omega) (by omega)] at z
      omega
    · rw [cl, sf]
      refine it_c (fun c1 => key (Or.inl c1)) (fun c1 => ⟨vp_in_nI (by omega) (by omega), it_c (fun c2 => ?_) (fun c2 => ?_)⟩)
      · rcases ix_c x2 (n1 := m1) (by omega) with hy | ⟨y1, hy, rfl⟩
        · rcases hy with hy | hy
          · exact absurd hy c1
          · exact absurd hy (i_nle c2)
        · have fin : w_X7_set (nI j) (nI y1) τ (fun r2 τ1 => σ 26 j = r2 ∧ Rel (pt σ 26 j (nI y1)) τ1) := by
            refine s_set τ j hj (nI y1) m1 hm _ (fun y2 hy2 e => ?_) (fun hy2 => ?_)
            · rw [nI_eq (by omega) (by omega)] at e
              subst e
              exact ⟨(h.2.1.1 j hj).symm, h.set j hj y1 (by rw [← hm]; exact hy)⟩
            · exfalso
              rcases hy2 with hy2 | hy2
              · exact c1 hy2
              · exact i_nle c2 hy2
          unfold w_X5_change
          rcases (show j = 0 ∨ j = 1 ∨ j = 2 ∨ j = 3 by omega) with rfl | rfl | rfl | rfl
          · refine it_p rfl ?_
            rintro _ rfl
            exact fin
          · refine it_n (by decide) (it_p rfl ?_)
            rintro _ rfl
            exact fin
          · refine it_n (by decide) (it_n (by decide) (it_p rfl ?_))
            rintro _ rfl
            exact fin
          · refine it_n (by decide) (it_n (by decide) (it_n (by decide) ?_))
            rintro _ rfl
            exact fin
      · refine key (Or.inr ?_)
        rw [fa_lt] at c2
        rw [fa_le]
        omega
theorem op_whistle {σ τ : Sg} (h : Rel σ τ) (x1 : Int32) : w_X6_whistle x1 σ (fun r1 => w_X7_whistle x1 τ (fun r2 => r1 = r2 ∧ Rel σ τ)) := by
  unfold w_X6_whistle
  rcases ix_c x1 (n1 := 10) (by omega) with hx | ⟨j, hj, rfl⟩
  · have key : w_X7_whistle x1 τ (fun r2 => -10002 = r2 ∧ Rel σ τ) := inN (m1 := 9) hx (by omega) (by decide) _ (it_p rfl ⟨rfl, h⟩)
    refine it_c (fun _ => key) (fun c1 => it_n (fun c2 => ?_) key)
    rcases hx with hx | hx
    · exact c1 hx
    · exact i_nle c2 hx
  · refine it_n (nI_pos (by omega)) (it_p (nI_lt (b := 10) hj (by omega)) ?_)
    refine s_pitchAt σ 26 _ _ (inY (m1 := 9) (by omega) (by omega) (by decide) _ (it_n (by decide) (s_whistleAt τ _ _ ⟨?_, h⟩)))
    rw [h.2.1.1 0 (by omega), h.2.1.1 1 (by omega), h.2.1.1 2 (by omega)]
/-- what both sides see -/
def Vw (σ τ : Sg) (N : Nat) (P : Nat → Int32) (d : Nat → Nat → Int32) (B : Nat) (kd : Nat → Int32) : Prop := okC N d ∧ okP N P ∧ B ≤ 24 ∧ clIs σ 5 N P d ∧ nbIs σ 5 N P ∧ soIs σ B kd ∧ okT (σ 26 0) (σ 26 1) (σ 26 2) ∧ P = d 0 ∧ (∀ i, i < B → kd i = 0 ∨ kd i = 1 ∨ kd i = 2) ∧ ∀ K : Sg → Prop, (∀ τ', kpM τ τ' → τ' 9 = τ 9 → fdIs τ' N P d B kd → Rel σ τ' → (∀ j, j < 4 → τ' 9 j = σ 26 j) → K τ') → w_X7_find τ K
theorem vw {σ τ : Sg} (h : Rel σ τ) : ∃ N P d B kd, Vw σ τ N P d B kd := by
  have hR := h
  obtain ⟨⟨n0, n1, ht, hp⟩, ho⟩ := h
  obtain ⟨t1, t2, t3, t4, t5, t6, t7, t8, t9, t10⟩ := ht
  have hb := nB_le (b := σ 4) (n := n1)
  have ok := okC_S (b := σ 2) t1
  refine ⟨nS (σ 2) n0, dS (σ 2) 0, dS (σ 2), nB (σ 4) n1, fun i => kindv (σ 4 i), ok, fun k hk => (ok.2 k hk).1, by omega, hp.1, hp.2.1, hp.2.2, hR.2.1.2.1, rfl, fun i hi => kindv_3 (nB_fit hi), fun K hK => ?_⟩
  refine s_find2 τ (σ 2) (σ 4) n0 n1 t1 t2 t7 t8 t9 t10 K (fun τ' a1 a2 a3 => ?_)
  have r2 := hR.kp a1
  exact hK τ' a1 a2 a3 r2 r2.2.1.1
theorem op_ear {σ τ : Sg} (h : Rel σ τ) (x1 x2 : Int32) : w_X6_ear x1 x2 σ (fun r1 => w_X7_ear x1 x2 τ (fun r2 τ1 => r1 = r2 ∧ Rel σ τ1)) := by
  obtain ⟨N, P, d, B, kd, ok, hP, hB, hc, hn, hs, hT, _, _, fnd⟩ := vw h
  have hN := ok.1
  unfold w_X6_ear w_X7_ear
  rcases ix_c x1 (n1 := N) (by omega) with hx | ⟨k1, hk, rfl⟩
  · refine csgN hc.1.1 hx _ (it_n (by decide) ?_)
    exact fnd _ (fun τ' a1 a2 a3 a4 a5 => sngN hN a3.1.1 hx _ (it_p rfl ⟨rfl, a4⟩))
  · refine csgY hN hc.1.1 hk _ (it_p rfl ?_)
    have cl : (nI k1).toNatClampNeg = k1 := nI_clamp (by omega)
    have vi : vp_in (nI k1) 8 := vp_in_nI (by omega) (by omega)
    rw [cl]
    rcases two_c (x := x2) with hy | rfl | rfl
    · refine nchN hy _ (it_n (by decide) ?_)
      exact fnd _ (fun τ' a1 a2 a3 a4 a5 => sngY hN a3.1.1 hk _ (it_n (by decide) (twoN hy _ (it_p rfl ⟨rfl, a4⟩))))
    · refine nchY (by omega) _ (it_p rfl (it_p rfl ⟨vi, ?_⟩))
      exact fnd _ (fun τ' a1 a2 a3 a4 a5 => sngY hN a3.1.1 hk _ (it_n (by decide) (twoY (by omega) _ (it_n (by decide) (it_p rfl ⟨vi, (hn k1 hk).trans (a3.2.2.1 k1 hk).1.symm, a4⟩)))))
    · refine nchY (by omega) _ (it_p rfl (it_n (by decide) ⟨vi, ?_⟩))
      exact fnd _ (fun τ' a1 a2 a3 a4 a5 => sngY hN a3.1.1 hk _ (it_n (by decide) (twoY (by omega) _ (it_n (by decide) (it_n (by decide) ⟨vi, (hc.2 k1 hk).2.2.trans (a3.2.2.1 k1 hk).2.1.symm, a4⟩)))))
theorem op_note {σ τ : Sg} (h : Rel σ τ) (x1 x2 : Int32) : w_X6_note x1 x2 σ (fun r1 => w_X7_note x1 x2 τ (fun r2 τ1 => r1 = r2 ∧ Rel σ τ1)) := by
  obtain ⟨N, P, d, B, kd, ok, hP, hB, hc, hn, hs, hT, _, _, fnd⟩ := vw h
  have hN := ok.1
  unfold w_X6_note w_X7_note
  rcases ix_c x1 (n1 := N) (by omega) with hx | ⟨k1, hk, rfl⟩
  · refine csgN hc.1.1 hx _ (it_n (by decide) ?_)
    exact fnd _ (fun τ' a1 a2 a3 a4 a5 => sngN hN a3.1.1 hx _ (it_p rfl ⟨rfl, a4⟩))
  · refine csgY hN hc.1.1 hk _ (it_p rfl ?_)
    rcases ix_c x2 (n1 := B) (by omega) with hy | ⟨b1, hb, rfl⟩
    · refine cbrN hs.1 hy _ (it_n (by decide) ?_)
      exact fnd _ (fun τ' a1 a2 a3 a4 a5 => sngY hN a3.1.1 hk _ (it_n (by decide) (barN hB a3.2.2.2.1 hy _ (it_p rfl ⟨rfl, a4⟩))))
    · refine cbrY hB hs.1 hb _ (it_p rfl ⟨vp_in_nI (by omega) (by omega), ?_⟩)
      rw [nI_clamp (by omega), show σ (23 + 2) b1 = nI (rb kd b1) from (hs.2 b1 hb).2]
      refine s_noteBehind σ 5 26 N k1 _ P d hN hk hc _ ?_
      refine fnd _ (fun τ' a1 a2 a3 a4 a5 => sngY hN a3.1.1 hk _ (it_n (by decide) (barY hB a3.2.2.2.1 hb _ (it_n (by decide) (s_noteOr τ' N B k1 b1 P d kd hN hB hk hb a3 _ ⟨?_, a4⟩)))))
      rw [a5 0 (by omega), a5 1 (by omega), a5 2 (by omega)]
theorem op_away {σ τ : Sg} (h : Rel σ τ) (x1 x2 : Int32) : w_X6_away x1 x2 σ (fun r1 => w_X7_away x1 x2 τ (fun r2 τ1 => r1 = r2 ∧ Rel σ τ1)) := by
  obtain ⟨N, P, d, B, kd, ok, hP, hB, hc, hn, hs, hT, _, _, fnd⟩ := vw h
  have hN := ok.1
  unfold w_X6_away w_X7_away
  rcases ix_c x1 (n1 := N) (by omega) with hx | ⟨k1, hk, rfl⟩
  · refine csgN hc.1.1 hx _ (it_n (by decide) ?_)
    exact fnd _ (fun τ' a1 a2 a3 a4 a5 => sngN hN a3.1.1 hx _ (it_p rfl ⟨rfl, a4⟩))
  · refine csgY hN hc.1.1 hk _ (it_p rfl ?_)
    rcases ix_c x2 (n1 := B) (by omega) with hy | ⟨b1, hb, rfl⟩
    · refine cbrN hs.1 hy _ (it_n (by decide) ?_)
      exact fnd _ (fun τ' a1 a2 a3 a4 a5 => sngY hN a3.1.1 hk _ (it_n (by decide) (barN hB a3.2.2.2.1 hy _ (it_p rfl ⟨rfl, a4⟩))))
    · refine cbrY hB hs.1 hb _ (it_p rfl ⟨vp_in_nI (by omega) (by omega), ?_⟩)
      rw [nI_clamp (by omega), show σ (23 + 2) b1 = nI (rb kd b1) from (hs.2 b1 hb).2]
      refine s_noteBehind σ 5 26 N k1 _ P d hN hk hc _ ?_
      have hr := NT_rg (r := rb kd b1) ok hP hT (by have := rb_le kd b1; omega)
      have cl : (nI k1).toNatClampNeg = k1 := nI_clamp (by omega)
      have vi : vp_in (nI k1) 8 := vp_in_nI (by omega) (by omega)
      cases e : NT P d N (σ 26 0) (σ 26 1) (σ 26 2) (rb kd b1) k1 with
      | none =>
        refine it_p rfl ?_
        refine fnd _ (fun τ' a1 a2 a3 a4 a5 => sngY hN a3.1.1 hk _ (it_n (by decide) (barY hB a3.2.2.2.1 hb _ (it_n (by decide) ⟨vi, it_p ?_ ⟨rfl, a4⟩⟩))))
        rw [cl, (a3.2.2.1 k1 hk).2.1]
        exact (stpv_n hN hk).mpr (NT_n.mp e)
      | some x =>
        obtain ⟨m1, e1, e2, e3⟩ := hr k1 hk x e
        subst e1
        refine it_n (nm_ne (by omega)) ?_
        refine fnd _ (fun τ' a1 a2 a3 a4 a5 => sngY hN a3.1.1 hk _ (it_n (by decide) (barY hB a3.2.2.2.1 hb _ (it_n (by decide) ⟨vi, it_n ?_ ?_⟩))))
        · rw [cl, (a3.2.2.1 k1 hk).2.1]
          intro z
          have := NT_n (v := σ 26 0) (e := σ 26 1) (w := σ 26 2) (r := rb kd b1) |>.mpr ((stpv_n hN hk).mp z)
          rw [this] at e
          cases e
        · refine s_noteIn τ' N B k1 b1 P d kd hN hB hk hb a3 (nI m1) ?_ _ ⟨rfl, a4⟩
          rw [a5 0 (by omega), a5 1 (by omega), a5 2 (by omega)]
          exact e
theorem op_chord {σ τ : Sg} (h : Rel σ τ) (x1 x2 : Int32) : w_X6_chord x1 x2 σ (fun r1 => w_X7_chord x1 x2 τ (fun r2 τ1 => r1 = r2 ∧ Rel σ τ1)) := by
  obtain ⟨N, P, d, B, kd, ok, hP, hB, hc, hn, hs, hT, _, _, fnd⟩ := vw h
  have hN := ok.1
  unfold w_X6_chord w_X7_chord
  rcases ix_c x1 (n1 := B) (by omega) with hx | ⟨b1, hb, rfl⟩
  · refine cbrN hs.1 hx _ (it_n (by decide) ?_)
    exact fnd _ (fun τ' a1 a2 a3 a4 a5 => barN hB a3.2.2.2.1 hx _ (it_p rfl ⟨rfl, a4⟩))
  · have hr := NT_rg (r := rb kd b1) ok hP hT (by have := rb_le kd b1; omega)
    refine cbrY hB hs.1 hb _ (it_p rfl ?_)
    rcases ix_c x2 (n1 := 3) (by omega) with hy | ⟨j, hj, rfl⟩
    · have nz : ∀ q : Nat, q < 3 → ¬ x2 = nI q := by
        rintro q hq rfl
        rcases hy with hy | hy
        · exact nI_pos (by omega) hy
        · rw [nI_leI (by omega) (by omega)] at hy
          omega
      refine it_n (nz 0 (by omega)) (it_n (nz 1 (by omega)) (it_n (nz 2 (by omega)) ?_))
      exact fnd _ (fun τ' a1 a2 a3 a4 a5 => barY hB a3.2.2.2.1 hb _ (it_n (by decide) (inN (m1 := 2) hy (by omega) (by decide) _ (it_p rfl ⟨rfl, a4⟩))))
    · have M : ∀ K : Int32 → Sg → Prop, (∀ τ', fdIs τ' N P d B kd → Rel σ τ' → (∀ j, j < 4 → τ' 9 j = σ 26 j) → w_X7_chordBy (nI b1) (nI j) τ' (fun r27 => K r27 τ')) → w_X7_find τ (fun τ1 => w_X7_isBar (nI b1) τ1 (fun r6 => (if r6 = 0 then K (-2 : Int32) τ1 else w_X7_in (nI j).toInt64 (0 : Int64) (2 : Int64) (fun r18 => (if r18 = 0 then K (-2 : Int32) τ1 else w_X7_chordBy (nI b1) (nI j) τ1 (fun r27 => K r27 τ1)))))) := fun K hK =>
        fnd _ (fun τ' a1 a2 a3 a4 a5 => barY hB a3.2.2.2.1 hb _ (it_n (by decide) (inY (m1 := 2) (by omega) (by omega) (by decide) _ (it_n (by decide) (hK τ' a3 a4 a5)))))
      rcases (show j = 0 ∨ j = 1 ∨ j = 2 by omega) with rfl | rfl | rfl
      · refine it_p rfl (s_spread σ 5 26 N B b1 P d kd hN hB hb hc hs hr _ ?_)
        refine M _ (fun τ' a3 a4 a5 => it_p rfl (s_mspread0 τ' N B b1 P d kd hN hB hb a3 _ ⟨?_, a4⟩))
        rw [a5 0 (by omega), a5 1 (by omega), a5 2 (by omega)]
      · refine it_n (by decide) (it_p rfl (s_closes σ 26 N B b1 P d kd hN hB hb hc hs hr _ (fun z => it_n (by decide) ?_) (fun z => it_p rfl ?_)))
        · refine M _ (fun τ' a3 a4 a5 => it_n (by decide) (it_p rfl (s_mcloses τ' N B b1 P d kd hN hB hb a3 _ (fun z2 => it_n (by decide) ⟨rfl, a4⟩) (fun z2 => ?_))))
          rw [a5 0 (by omega), a5 1 (by omega), a5 2 (by omega), a5 3 (by omega)] at z2
          exact absurd z z2
        · refine M _ (fun τ' a3 a4 a5 => it_n (by decide) (it_p rfl (s_mcloses τ' N B b1 P d kd hN hB hb a3 _ (fun z2 => ?_) (fun z2 => it_p rfl ⟨rfl, a4⟩))))
          rw [a5 0 (by omega), a5 1 (by omega), a5 2 (by omega), a5 3 (by omega)] at z2
          exact absurd z2 z
      · refine it_n (by decide) (it_n (by decide) (it_p rfl (s_flattest σ N B b1 P d kd hN hB hb hc hs hr _ ?_)))
        refine M _ (fun τ' a3 a4 a5 => it_n (by decide) (it_n (by decide) (s_mflattest τ' N B b1 P d kd hN hB hb a3 _ ⟨?_, a4⟩)))
        rw [a5 0 (by omega), a5 1 (by omega), a5 2 (by omega)]
theorem op_open {σ τ : Sg} (h : Rel σ τ) (x1 : Int32) : w_X6_open x1 σ (fun r1 => w_X7_open x1 τ (fun r2 τ1 => r1 = r2 ∧ Rel σ τ1)) := by
  obtain ⟨N, P, d, B, kd, ok, hP, hB, hc, hn, hs, hT, _, _, fnd⟩ := vw h
  have hN := ok.1
  have hr : ∀ b1, b1 < B → rg (NT P d N (σ 26 0) (σ 26 1) (σ 26 2) (rb kd b1)) N := fun b1 hb => NT_rg ok hP hT (by have := rb_le kd b1; omega)
  unfold w_X6_open w_X7_open
  rcases two_c (x := x1) with hx | rfl | rfl
  · exact nchN hx _ (it_n (by decide) (fnd _ (fun τ' a1 a2 a3 a4 a5 => twoN hx _ (it_p rfl ⟨rfl, a4⟩))))
  · refine nchY (by omega) _ (it_p rfl (s_openC σ _ N B P d kd hN hB hc hs hr _ (it_p rfl ?_)))
    refine fnd _ (fun τ' a1 a2 a3 a4 a5 => twoY (by omega) _ (it_n (by decide) (s_openM τ' _ N B P d kd hN hB a3 _ (it_p rfl ⟨?_, a4⟩))))
    rw [a5 0 (by omega), a5 1 (by omega), a5 2 (by omega), a5 3 (by omega)]
  · refine nchY (by omega) _ (it_p rfl (s_openC σ _ N B P d kd hN hB hc hs hr _ (it_n (by decide) ?_)))
    refine fnd _ (fun τ' a1 a2 a3 a4 a5 => twoY (by omega) _ (it_n (by decide) (s_openM τ' _ N B P d kd hN hB a3 _ (it_n (by decide) ⟨?_, a4⟩))))
    rw [a5 0 (by omega), a5 1 (by omega), a5 2 (by omega), a5 3 (by omega)]
