theorem Rel.of {σ σ' τ τ' : Sg} (h : Rel σ τ) (h1 : ∀ q, q < 26 → q ≠ 0 → (q < 14 ∨ 22 < q) → σ' q = σ q) (h2 : τ' 5 = τ 5) (h3 : τ' 6 = τ 6) (v1 : relV σ' τ') (hh : relH σ' τ') (hs : ∀ s, s < 4 → relS1 σ' τ' s) (hl : σ' 0 11 = τ' 0 4) : Rel σ' τ' := by
  obtain ⟨⟨n0, n1, t1, t2⟩, _⟩ := h
  have e : ∀ q, q < 26 → q ≠ 0 → (q < 14 ∨ 22 < q) → σ' q = σ q := h1
  refine ⟨⟨n0, n1, ?_, ?_⟩, v1, hh, hs, hl⟩
  · unfold relT
    rw [h2, h3, e 1 (by omega) (by omega) (by omega), e 3 (by omega) (by omega) (by omega), e 2 (by omega) (by omega) (by omega), e 4 (by omega) (by omega) (by omega)]
    exact t1
  · unfold relP clIs chIs lkAt nbIs soIs
    rw [e 2 (by omega) (by omega) (by omega), e 4 (by omega) (by omega) (by omega), e 5 (by omega) (by omega) (by omega), e (5 + 1) (by omega) (by omega) (by omega), e (5 + 2) (by omega) (by omega) (by omega), e (5 + 3) (by omega) (by omega) (by omega), e (5 + 4) (by omega) (by omega) (by omega), e (5 + 5) (by omega) (by omega) (by omega), e (5 + 6) (by omega) (by omega) (by omega), e (5 + 7) (by omega) (by omega) (by omega), e (5 + 8) (by omega) (by omega) (by omega), e 23 (by omega) (by omega) (by omega), e 24 (by omega) (by omega) (by omega), e 25 (by omega) (by omega) (by omega)]
    exact t2
theorem Rel.fin {σ τ : Sg} (h : Rel σ τ) (x : Int32) : Rel (pt σ 0 11 x) (pt τ 0 4 x) := by
  refine h.of (fun q _ q0 _ => pt_ne _ _ _ q0) (pt_ne _ _ _ (by decide)) (pt_ne _ _ _ (by decide)) ?_ ?_ (fun s hs => ?_) ?_
  · unfold relV
    rw [pt_ne σ _ _ (by decide), pt_ne τ _ _ (by decide)]
    exact h.2.1
  · unfold relH
    rw [pt_ne σ _ _ (show 28 ≠ 0 by decide), pt_ne σ _ _ (show 29 ≠ 0 by decide), pt_ne σ _ _ (show 30 ≠ 0 by decide), pt_ne σ _ _ (show 31 ≠ 0 by decide), pt_ne τ _ _ (show 16 ≠ 0 by decide), pt_o τ _ (show 18 ≠ 4 by decide)]
    exact h.2.2.1
  · unfold relS1
    rw [pt_ne σ _ _ (show 33 + 2 * s ≠ 0 by omega), pt_ne σ _ _ (show 34 + 2 * s ≠ 0 by omega), pt_ne τ _ _ (show 1 ≠ 0 by decide), pt_ne τ _ _ (show 2 ≠ 0 by decide), pt_ne τ _ _ (show 3 ≠ 0 by decide)]
    exact h.2.2.2.1 s hs
  · rw [pt_s, pt_s]
theorem finds_ {σ τ : Sg} (h : Rel σ τ) (x : Int32) (K : Int32 → Sg → Prop) (hK : ∀ τ', Rel (pt σ 0 11 x) τ' → K (-10 - x) τ') : w_X7_finds x τ K := by
  rintro _ rfl
  exact hK _ (h.fin x)
theorem Rel.mem {σ σ' τ τ' : Sg} (h : Rel σ τ) (h1 : same [28, 29, 30, 31] σ σ') (h2 : same [0, 16] τ τ') (h3 : τ' 0 4 = τ 0 4) (h4 : relH σ' τ') : Rel σ' τ' := by
  refine h.of (fun q q1 _ _ => h1 q (by simp; omega)) (h2 5 (by decide)) (h2 6 (by decide)) ?_ h4 (fun s hs => ?_) ?_
  · unfold relV
    rw [h1 26 (by decide), h2 9 (by decide)]
    exact h.2.1
  · unfold relS1
    rw [h1 (33 + 2 * s) (by simp; omega), h1 (34 + 2 * s) (by simp; omega), h2 1 (by decide), h2 2 (by decide), h2 3 (by decide)]
    exact h.2.2.2.1 s hs
  · rw [h1 0 (by decide), h3]
    exact h.2.2.2.2
theorem op_forget {σ τ : Sg} (h : Rel σ τ) : w_X6_forget σ (fun r1 σ1 => w_X7_forget τ (fun r2 τ1 => r1 = r2 ∧ Rel σ1 τ1)) := by
  rintro _ rfl _ rfl
  obtain ⟨nh, h1, h2, h3, h4⟩ := h.2.2.1
  refine ⟨h2.trans h3.symm, h.mem (same.rf.pt (by decide)) (same.rf.pt (by decide)) (pt_o _ _ (by decide)) ⟨0, by omega, pt_s _ _ _ _, pt_s _ _ _ _, fun i hi => by omega⟩⟩
theorem s_silentC (σ : Sg) (N : Nat) (P : Nat → Int32) (d : Nat → Nat → Int32) (hN : N ≤ 8) (hc : clIs σ 5 N P d) (K : Int32 → Prop) (h : K (nI (ctP (fun i => flk P d N i = none) N))) : w_X0_howManySilent 5 σ K := by
  refine up2 (fun j y1 y2 => y1 = nI (ctP (fun i => flk P d N i = none) j) ∧ y2 = nI j) N ?_ 0 _ _ (Nat.zero_le _) ⟨rfl, rfl⟩
  rintro j rc _ _ hj ⟨rfl, rfl⟩ hrc
  have c1 := ctP_le (p1 := fun i => flk P d N i = none) j
  unfold F_X0_howManySilent_4 E_X0_howManySilent_4
  rw [hc.1.1]
  by_cases hjN : N ≤ j
  · refine it_p (nI_le hjN (by omega)) ?_
    rw [show j = N by omega]
    exact h
  · refine it_n (fun z => hjN ((nI_leI (by omega) (by omega)).mp z)) ⟨vp_in_nI (by omega) (by omega), ?_⟩
    rw [nI_clamp (by omega), (hc.2 j (by omega)).1]
    have iff : srcv (flk P d N j) = -1 ↔ flk P d N j = none := by
      cases e : flk P d N j with
      | none => exact ⟨fun _ => rfl, fun _ => rfl⟩
      | some r =>
        obtain ⟨q, sm, st⟩ := r
        have := (fol_path (by omega) e).2.2.2.1
        exact ⟨fun z => absurd z (nI_m1 (by omega)), fun z => by cases z⟩
    by_cases c2 : flk P d N j = none
    · refine it_p (iff.mpr c2) (hrc _ _ (by omega) ⟨?_, nI_1 _⟩)
      rw [ctP_y (p1 := fun i => flk P d N i = none) c2, nI_1]
    · refine it_n (fun z => c2 (iff.mp z)) (hrc _ _ (by omega) ⟨?_, nI_1 _⟩)
      rw [ctP_n (p1 := fun i => flk P d N i = none) c2]
      exact Int32.add_zero _
theorem s_silentM (τ : Sg) (N : Nat) (P : Nat → Int32) (d : Nat → Nat → Int32) (hN : N ≤ 8) (e7 : τ 0 7 = nI N) (hn : ntIs τ N P d) (K : Int32 → Prop) (h : K (nI (ctP (fun i => flk P d N i = none) N))) : w_X7_silent τ K := by
  refine up2 (fun j y1 y2 => y1 = nI (ctP (fun i => flk P d N i = none) j) ∧ y2 = nI j) N ?_ 0 _ _ (Nat.zero_le _) ⟨rfl, rfl⟩
  rintro j rc _ _ hj ⟨rfl, rfl⟩ hrc
  have c1 := ctP_le (p1 := fun i => flk P d N i = none) j
  unfold F_X7_silent_4 E_X7_silent_4
  rw [e7]
  by_cases hjN : N ≤ j
  · refine it_p (nI_le hjN (by omega)) ?_
    rw [show j = N by omega]
    exact h
  · refine it_n (fun z => hjN ((nI_leI (by omega) (by omega)).mp z)) ⟨vp_in_nI (by omega) (by omega), ?_⟩
    rw [nI_clamp (by omega), (hn j (by omega)).2.1]
    have iff : stpv (flk P d N j) = -1 ↔ flk P d N j = none := stpv_n hN (by omega)
    by_cases c2 : flk P d N j = none
    · refine it_p (iff.mpr c2) (hrc _ _ (by omega) ⟨?_, nI_1 _⟩)
      rw [ctP_y (p1 := fun i => flk P d N i = none) c2, nI_1]
    · refine it_n (fun z => c2 (iff.mp z)) (hrc _ _ (by omega) ⟨?_, nI_1 _⟩)
      rw [ctP_n (p1 := fun i => flk P d N i = none) c2]
      exact Int32.add_zero _
theorem s_restsC (σ : Sg) (B : Nat) (kd : Nat → Int32) (hB : B ≤ 24) (hs : soIs σ B kd) (K : Int32 → Prop) (h : K (nI (ctP (fun i => kd i = 1) B))) : w_X3_howManyRests 23 σ K := by
  refine up2 (fun j y1 y2 => y1 = nI (ctP (fun i => kd i = 1) j) ∧ y2 = nI j) B ?_ 0 _ _ (Nat.zero_le _) ⟨rfl, rfl⟩
  rintro j rc _ _ hj ⟨rfl, rfl⟩ hrc
  have c1 := ctP_le (p1 := fun i => kd i = 1) j
  unfold F_X3_howManyRests_4 E_X3_howManyRests_4
  rw [hs.1]
  by_cases hjN : B ≤ j
  · refine it_p (nI_le hjN (by omega)) ?_
    rw [show j = B by omega]
    exact h
  · refine it_n (fun z => hjN ((nI_leI (by omega) (by omega)).mp z)) ⟨vp_in_nI (by omega) (by omega), ?_⟩
    rw [nI_clamp (by omega), show σ (23 + 1) j = kd j from (hs.2 j (by omega)).1]
    by_cases c2 : kd j = 1
    · refine it_p c2 (hrc _ _ (by omega) ⟨?_, nI_1 _⟩)
      rw [ctP_y (p1 := fun i => kd i = 1) c2, nI_1]
    · refine it_n c2 (hrc _ _ (by omega) ⟨?_, nI_1 _⟩)
      rw [ctP_n (p1 := fun i => kd i = 1) c2]
      exact Int32.add_zero _
theorem s_restsM (τ : Sg) (B : Nat) (kd : Nat → Int32) (hB : B ≤ 24) (hs : mbIs τ B kd) (K : Int32 → Prop) (h : K (nI (ctP (fun i => kd i = 1) B))) : w_X7_rests τ K := by
  refine up2 (fun j y1 y2 => y1 = nI (ctP (fun i => kd i = 1) j) ∧ y2 = nI j) B ?_ 0 _ _ (Nat.zero_le _) ⟨rfl, rfl⟩
  rintro j rc _ _ hj ⟨rfl, rfl⟩ hrc
  have c1 := ctP_le (p1 := fun i => kd i = 1) j
  unfold F_X7_rests_4 E_X7_rests_4
  rw [hs.1]
  by_cases hjN : B ≤ j
  · refine it_p (nI_le hjN (by omega)) ?_
    rw [show j = B by omega]
    exact h
  · refine it_n (fun z => hjN ((nI_leI (by omega) (by omega)).mp z)) ⟨vp_in_nI (by omega) (by omega), ?_⟩
    rw [nI_clamp (by omega), hs.2 j (by omega)]
    by_cases c2 : kd j = 1
    · refine it_p c2 (hrc _ _ (by omega) ⟨?_, nI_1 _⟩)
      rw [ctP_y (p1 := fun i => kd i = 1) c2, nI_1]
    · refine it_n c2 (hrc _ _ (by omega) ⟨?_, nI_1 _⟩)
      rw [ctP_n (p1 := fun i => kd i = 1) c2]
      exact Int32.add_zero _
theorem op_count {σ τ : Sg} (h : Rel σ τ) (x1 : Int32) : w_X6_count x1 σ (fun r1 => w_X7_count x1 τ (fun r2 τ1 => r1 = r2 ∧ Rel σ τ1)) := by
  obtain ⟨N, P, d, B, kd, ok, hP, hB, hc, hn, hs, hT, _, _, fnd⟩ := vw h
  have hN := ok.1
  unfold w_X6_count w_X7_count
  refine it_c (fun e => ?_) (fun e0 => it_c (fun e => ?_) (fun e1 => it_c (fun e => ?_) (fun e2 => it_c (fun e => ?_) (fun e3 => it_c (fun e => ?_) (fun e4 => it_c (fun e => ?_) (fun e5 => it_c (fun e => ?_) (fun e6 => it_c (fun e => ?_) (fun e7 => it_c (fun e => ?_) (fun e8 => ?_)))))))))
  · subst e
    exact fnd _ (fun τ' a1 a2 a3 a4 a5 => it_p rfl ⟨hc.1.1.trans a3.1.1.symm, a4⟩)
  · subst e
    exact fnd _ (fun τ' a1 a2 a3 a4 a5 => it_n (by decide) (it_p rfl ⟨hs.1.trans a3.2.2.2.1.symm, a4⟩))
  · subst e
    refine fnd _ (fun τ' a1 a2 a3 a4 a5 => it_n (by decide) (it_n (by decide) (it_p rfl ⟨by unfold vp_in; decide, ?_, a4⟩)))
    obtain ⟨⟨m0, m1, t, _⟩, _⟩ := a4
    exact t.2.2.2.2.1.trans t.2.2.2.2.2.2.1.symm
  · subst e
    refine fnd _ (fun τ' a1 a2 a3 a4 a5 => it_n (by decide) (it_n (by decide) (it_n (by decide) (it_p rfl ⟨by unfold vp_in; decide, ?_, a4⟩))))
    obtain ⟨⟨m0, m1, t, _⟩, _⟩ := a4
    exact t.2.2.2.2.2.1.trans t.2.2.2.2.2.2.2.1.symm
  · subst e
    refine s_silentC σ N P d hN hc _ ?_
    exact fnd _ (fun τ' a1 a2 a3 a4 a5 => it_n (by decide) (it_n (by decide) (it_n (by decide) (it_n (by decide) (it_p rfl (s_silentM τ' N P d hN a3.1.1 a3.2.2.1 _ ⟨rfl, a4⟩))))))
  · subst e
    refine s_restsC σ B kd hB hs _ ?_
    exact fnd _ (fun τ' a1 a2 a3 a4 a5 => it_n (by decide) (it_n (by decide) (it_n (by decide) (it_n (by decide) (it_n (by decide) (it_p rfl (s_restsM τ' B kd hB a3.2.2.2 _ ⟨rfl, a4⟩)))))))
  · subst e
    exact fnd _ (fun τ' a1 a2 a3 a4 a5 => it_n (by decide) (it_n (by decide) (it_n (by decide) (it_n (by decide) (it_n (by decide) (it_n (by decide) (it_p rfl ⟨i04, (a5 0 (by omega)).symm, a4⟩)))))))
  · subst e
    refine fnd _ (fun τ' a1 a2 a3 a4 a5 => it_n (by decide) (it_n (by decide) (it_n (by decide) (it_n (by decide) (it_n (by decide) (it_n (by decide) (it_n (by decide) (it_p rfl ⟨?_, a4⟩))))))))
    obtain ⟨nh, _, h2, h3, _⟩ := a4.2.2.1
    exact h2.trans h3.symm
  · subst e
    exact fnd _ (fun τ' a1 a2 a3 a4 a5 => it_n (by decide) (it_n (by decide) (it_n (by decide) (it_n (by decide) (it_n (by decide) (it_n (by decide) (it_n (by decide) (it_n (by decide) (it_p rfl ⟨a4.2.2.2.2, a4⟩)))))))))
  · exact fnd _ (fun τ' a1 a2 a3 a4 a5 => it_n e0 (it_n e1 (it_n e2 (it_n e3 (it_n e4 (it_n e5 (it_n e6 (it_n e7 (it_n e8 ⟨rfl, a4⟩)))))))))
/-- what may be held -/
def okH (x1 x2 x3 : Int32) : Prop := (∃ b1 : Nat, b1 < 24 ∧ x1 = nI b1) ∧ (∃ k1 : Nat, k1 < 8 ∧ x2 = nI k1) ∧ ∃ y1 : Nat, y1 ≤ 2000 ∧ x3 = nI y1
theorem ix_N {x : Int32} {n1 : Nat} (hn : n1 < 2 ^ 31) (hx : x < 0 ∨ nI n1 ≤ x) : ¬ ∃ j : Nat, j < n1 ∧ x = nI j := by
  rintro ⟨j, hj, rfl⟩
  rcases hx with hx | hx
  · exact nI_pos (by omega) hx
  · rw [nI_leI (by omega) (by omega)] at hx
    omega
theorem s_may (x1 x2 x3 : Int32) (K : Int32 → Prop) (h1 : okH x1 x2 x3 → K 1) (h0 : ¬ okH x1 x2 x3 → K 0) : w_X1_mayHold x1 x2 x3 K := by
  unfold w_X1_mayHold
  rcases ix_c x1 (n1 := 24) (by omega) with hx | ⟨b1, hb, rfl⟩
  · have k0 := h0 (fun z => ix_N (by omega) hx z.1)
    exact it_c (fun _ => k0) (fun c1 => it_p (hx.resolve_left c1) k0)
  · refine it_n (nI_pos (by omega)) (it_n (i_nle (nI_lt (b := 24) hb (by omega))) ?_)
    rcases ix_c x2 (n1 := 8) (by omega) with hy | ⟨k1, hk, rfl⟩
    · have k0 := h0 (fun z => ix_N (by omega) hy z.2.1)
      exact it_c (fun _ => k0) (fun c1 => it_p (hy.resolve_left c1) k0)
    · refine it_n (nI_pos (by omega)) (it_n (i_nle (nI_lt (b := 8) hk (by omega))) ?_)
      rcases ix_c x3 (n1 := 2001) (by omega) with hz | ⟨y1, hy, rfl⟩
      · have k0 := h0 (fun z => ix_N (by omega) hz (by obtain ⟨y1, e1, e2⟩ := z.2.2; exact ⟨y1, by omega, e2⟩))
        refine it_c (fun _ => k0) (fun c1 => it_p ?_ k0)
        have := hz.resolve_left c1
        have e1 : (nI 2001).toInt = 2001 := by decide
        have e2 : (2000 : Int32).toInt = 2000 := by decide
        rw [fa_le] at this
        rw [fa_lt]
        omega
      · refine it_n (nI_pos (by omega)) (it_n (i_nlt (nI_le (b := 2000) (by omega) (by omega))) (h1 ⟨⟨b1, hb, rfl⟩, ⟨k1, hk, rfl⟩, y1, by omega, rfl⟩))
def kpC (σ : Sg) (nh : Nat) (x1 x2 x3 : Int32) : Sg := pt (pt (pt (pt σ 29 nh x1) 30 nh x2) 31 nh x3) 28 0 (nI (nh + 1))
def kpH (τ : Sg) (nh : Nat) (x1 x2 x3 : Int32) : Sg := pt (pt (pt (pt τ 16 (3 * nh) x1) 16 (3 * nh + 1) x2) 16 (3 * nh + 2) x3) 0 18 (nI (nh + 1))
theorem s_keep (σ : Sg) (nh : Nat) (hn : nh < 8) (e : σ 28 0 = nI nh) (x1 x2 x3 : Int32) (K : Sg → Prop) (h : K (kpC σ nh x1 x2 x3)) : w_X1_keep 28 x1 x2 x3 σ K := by
  unfold w_X1_keep w_X1_isFull
  have vi : vp_in (nI nh) 8 := vp_in_nI (by omega) (by omega)
  have cl : (nI nh).toNatClampNeg = nh := nI_clamp (by omega)
  refine it_p (by rw [e]; exact nI_lt (b := 8) hn (by omega)) (it_p rfl ?_)
  rw [e, cl]
  refine ⟨vi, ?_⟩
  rintro _ rfl
  rw [pt_ne σ _ _ (by decide), e, cl]
  refine ⟨vi, ?_⟩
  rintro _ rfl
  rw [pt_ne _ _ _ (by decide), pt_ne σ _ _ (by decide), e, cl]
  refine ⟨vi, ?_⟩
  rintro _ rfl _ rfl
  rw [pt_ne _ _ _ (by decide), pt_ne _ _ _ (by decide), pt_ne σ _ _ (by decide), e, nI_1]
  exact h
theorem s_heardM (τ : Sg) (nh : Nat) (hn : nh ≤ 8) (e : τ 0 18 = nI nh) (x1 x2 x3 : Int32) (K : Int32 → Sg → Prop) (h0 : ¬ okH x1 x2 x3 → K (-2) τ) (h1 : okH x1 x2 x3 → nh = 8 → K (-4) τ) (h2 : okH x1 x2 x3 → nh < 8 → K (nI (nh + 1)) (kpH τ nh x1 x2 x3)) : w_X7_heard x1 x2 x3 τ K := by
  unfold w_X7_heard
  rcases ix_c x1 (n1 := 24) (by omega) with hx | ⟨b1, hb, rfl⟩
  · exact inN (m1 := 23) hx (by omega) (by decide) _ (it_p rfl (h0 (fun z => ix_N (by omega) hx z.1)))
  · refine inY (m1 := 23) (by omega) (by omega) (by decide) _ (it_n (by decide) ?_)
    rcases ix_c x2 (n1 := 8) (by omega) with hy | ⟨k1, hk, rfl⟩
    · exact inN (m1 := 7) hy (by omega) (by decide) _ (it_p rfl (h0 (fun z => ix_N (by omega) hy z.2.1)))
    · refine inY (m1 := 7) (by omega) (by omega) (by decide) _ (it_n (by decide) ?_)
      rcases ix_c x3 (n1 := 2001) (by omega) with hz | ⟨y1, hy, rfl⟩
      · exact inN (m1 := 2000) hz (by omega) (by decide) _ (it_p rfl (h0 (fun z => ix_N (by omega) hz (by obtain ⟨y1, e1, e2⟩ := z.2.2; exact ⟨y1, by omega, e2⟩))))
      · have hk2 : okH (nI b1) (nI k1) (nI y1) := ⟨⟨b1, hb, rfl⟩, ⟨k1, hk, rfl⟩, y1, by omega, rfl⟩
        refine inY (m1 := 2000) (by omega) (by omega) (by decide) _ (it_n (by decide) ?_)
        by_cases c1 : nh = 8
        · subst c1
          exact it_p e (h1 hk2 rfl)
        · refine it_n (fun z => c1 ?_) ?_
          · rw [e, show (8 : Int32) = nI 8 from rfl, nI_eq (by omega) (by omega)] at z
            exact z
          · rw [e]
            simp (disch := omega) only [Nat.reduceAdd, fa_lit, nI_leI, nI_ltI, nI_eq, nI_add, pk_mul, pk_sub, pk_div, nI_clamp, c_vin, c_em1, c_m1e]
            refine ⟨by omega, ?_⟩
            rintro _ rfl
            rw [pt_ne τ _ _ (by decide), e]
            simp (disch := omega) only [Nat.reduceAdd, fa_lit, nI_leI, nI_ltI, nI_eq, nI_add, pk_mul, pk_sub, pk_div, nI_clamp, c_vin, c_em1, c_m1e]
            refine ⟨by omega, ?_⟩
            rintro _ rfl
            rw [pt_ne _ _ _ (by decide), pt_ne τ _ _ (by decide), e]
            simp (disch := omega) only [Nat.reduceAdd, fa_lit, nI_leI, nI_ltI, nI_eq, nI_add, pk_mul, pk_sub, pk_div, nI_clamp, c_vin, c_em1, c_m1e]
            refine ⟨by omega, ?_⟩
            rintro _ rfl _ rfl
            rw [pt_s, pt_ne _ _ _ (by decide), pt_ne _ _ _ (by decide), pt_ne τ _ _ (by decide), e]
            simp (disch := omega) only [Nat.reduceAdd, fa_lit, nI_leI, nI_ltI, nI_eq, nI_add, pk_mul, pk_sub, pk_div, nI_clamp, c_vin, c_em1, c_m1e]
            exact h2 hk2 (by omega)
theorem kpC_s {σ : Sg} {nh : Nat} {x1 x2 x3 : Int32} : same [28, 29, 30, 31] σ (kpC σ nh x1 x2 x3) := (((same.rf.pt (by decide)).pt (by decide)).pt (by decide)).pt (by decide)
theorem kpH_s {τ : Sg} {nh : Nat} {x1 x2 x3 : Int32} : same [0, 16] τ (kpH τ nh x1 x2 x3) := (((same.rf.pt (by decide)).pt (by decide)).pt (by decide)).pt (by decide)
theorem Rel.kept {σ τ : Sg} (h : Rel σ τ) {nh : Nat} (hn : nh < 8) (e : σ 28 0 = nI nh) {x1 x2 x3 : Int32} (hk : okH x1 x2 x3) : Rel (kpC σ nh x1 x2 x3) (kpH τ nh x1 x2 x3) := by
  obtain ⟨nh2, h1, h2, h3, h4⟩ := h.2.2.1
  have : nh2 = nh := by rw [e, nI_eq (by omega) (by omega)] at h2; omega
  subst this
  refine h.mem kpC_s kpH_s ?_ ⟨nh2 + 1, by omega, pt_s _ _ _ _, pt_s _ _ _ _, fun i hi => ?_⟩
  · unfold kpH
    rw [pt_o _ _ (by decide), pt_ne _ _ _ (by decide), pt_ne _ _ _ (by decide), pt_ne τ _ _ (by decide)]
  · unfold kpC kpH
    rw [pt_ne _ _ _ (show 16 ≠ 0 by decide), pt_ne _ _ _ (show 29 ≠ 28 by decide), pt_ne _ _ _ (show 30 ≠ 28 by decide), pt_ne _ _ _ (show 31 ≠ 28 by decide), pt_ne _ _ _ (show 29 ≠ 31 by decide), pt_ne _ _ _ (show 30 ≠ 31 by decide), pt_ne _ _ _ (show 29 ≠ 30 by decide)]
    by_cases c1 : i = nh2
    · subst c1
      rw [pt_o _ _ (show 3 * i ≠ 3 * i + 2 by omega), pt_o _ _ (show 3 * i ≠ 3 * i + 1 by omega), pt_s, pt_s, pt_o _ _ (show 3 * i + 1 ≠ 3 * i + 2 by omega), pt_s, pt_s, pt_s, pt_s]
      exact ⟨rfl, rfl, rfl, hk⟩
    · rw [pt_o _ _ (show 3 * i ≠ 3 * nh2 + 2 by omega), pt_o _ _ (show 3 * i ≠ 3 * nh2 + 1 by omega), pt_o _ _ (show 3 * i ≠ 3 * nh2 by omega), pt_o _ _ (show 3 * i + 1 ≠ 3 * nh2 + 2 by omega), pt_o _ _ (show 3 * i + 1 ≠ 3 * nh2 + 1 by omega), pt_o _ _ (show 3 * i + 1 ≠ 3 * nh2 by omega), pt_o _ _ (show 3 * i + 2 ≠ 3 * nh2 + 2 by omega), pt_o _ _ (show 3 * i + 2 ≠ 3 * nh2 + 1 by omega), pt_o _ _ (show 3 * i + 2 ≠ 3 * nh2 by omega), pt_o _ _ c1, pt_o _ _ c1, pt_o _ _ c1]
      rw [pt_ne σ _ _ (show 30 ≠ 29 by decide), pt_ne _ _ _ (show 31 ≠ 30 by decide), pt_ne σ _ _ (show 31 ≠ 29 by decide)]
      exact h4 i (by omega)
theorem op_heard {σ τ : Sg} (h : Rel σ τ) (x1 x2 x3 : Int32) : w_X6_heard x1 x2 x3 σ (fun r1 σ1 => w_X7_heard x1 x2 x3 τ (fun r2 τ1 => r1 = r2 ∧ Rel σ1 τ1)) := by
  obtain ⟨nh, h1, h2, h3, h4⟩ := h.2.2.1
  unfold w_X6_heard
  refine s_may x1 x2 x3 _ (fun z => it_n (by decide) ?_) (fun z => it_p rfl ?_)
  · unfold w_X1_isFull
    by_cases c1 : nh = 8
    · subst c1
      refine it_n (by rw [h2]; decide) (it_n (by decide) ?_)
      exact s_heardM τ 8 (by omega) h3 x1 x2 x3 _ (fun y => absurd z y) (fun _ _ => ⟨rfl, h⟩) (fun _ y => by omega)
    · refine it_p (by rw [h2]; exact nI_lt (b := 8) (by omega) (by omega)) (it_p rfl ?_)
      refine s_keep σ nh (by omega) h2 x1 x2 x3 _ ?_
      exact s_heardM τ nh h1 h3 x1 x2 x3 _ (fun y => absurd z y) (fun _ y => absurd y c1) (fun _ y => ⟨pt_s _ _ _ _, h.kept y h2 z⟩)
  · exact s_heardM τ nh h1 h3 x1 x2 x3 _ (fun _ => ⟨rfl, h⟩) (fun y => absurd y z) (fun y => absurd y z)
