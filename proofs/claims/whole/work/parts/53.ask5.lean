theorem fd_17 {τ τ' : Sg} {N B : Nat} {P : Nat → Int32} {d : Nat → Nat → Int32} {kd : Nat → Int32} (h : fdIs τ N P d B kd) (hs : same [17] τ τ') : fdIs τ' N P d B kd := by
  unfold fdIs mdIs plIs ntIs ntAt mbIs at h ⊢
  rw [hs 0 (by decide), hs 7 (by decide), hs 8 (by decide), hs 9 (by decide), hs 10 (by decide), hs 11 (by decide), hs 12 (by decide), hs 13 (by decide)]
  exact h
theorem s_askM (σ τ1 : Sg) (nh N B : Nat) (P : Nat → Int32) (d : Nat → Nat → Int32) (kd : Nat → Int32) (hN : N ≤ 8) (hB : B ≤ 24) (hm : mmC σ nh) (hm2 : mmM σ τ1 nh) (hf : fdIs τ1 N P d B kd) (h9 : ∀ j, j < 4 → τ1 9 j = σ 26 j) (fs : Nat → Prop) (hfs : ∀ v1, fs v1 ↔ hT0 σ nh N B P d kd (nI v1) (σ 26 1)) (x : Nat → Nat → Int32) (hx : ∀ k1 i, x k1 i = og (NT P d N (nI (svn fs i)) (σ 26 1) (σ 26 2) 0 k1)) (K : Int32 → Sg → Prop) (h : ∀ τ', kpM τ1 τ' → K (askv (fun k1 => nI (mxt (x k1) (ctP fs 100) (ctP fs 100))) N) τ') : w_X7_askNow τ1 K := by
  have c100 := ctP_le (p1 := fs) 100
  obtain ⟨f1, hf1⟩ : ∃ f1 : Nat → Int32, f1 = fun k1 => nI (mxt (x k1) (ctP fs 100) (ctP fs 100)) := ⟨_, rfl⟩
  rw [← hf1] at h
  unfold w_X7_askNow
  rw [z0]
  refine ⟨i04, ?_⟩
  rintro _ rfl
  refine up3 (fun j y2 y3 ρ => y2 = nI (ctP fs j) ∧ y3 = nI j ∧ mvM τ1 ρ N P d B kd 0 ∧ ∀ k1, k1 < N → ∀ i, i < ctP fs j → ρ 17 (100 * k1 + i) = x k1 i) 100 ?_ 0 _ _ _ (Nat.zero_le _) ⟨rfl, rfl, mvM.rf hf, fun k1 _ i hi => absurd hi (Nat.not_lt_zero _)⟩
  rintro j rc _ _ ρ hj ⟨rfl, rfl, g1, g2⟩ hrc
  have cj := ctP_le (p1 := fs) j
  unfold F_X7_askNow_11 E_X7_askNow_11
  rw [z0]
  by_cases c1 : 100 ≤ j
  · have ej : j = 100 := by omega
    subst ej
    refine it_p (nI_le (a := 100) c1 (by omega)) ⟨i04, ?_⟩
    rintro _ rfl
    refine g1.back hN _ (fun τ2 k1 k2 k3 k4 k5 => ?_)
    refine up3 (fun i y3 y4 y5 => y5 = nI i ∧ (i = 0 → y3 = -1) ∧ (0 < i → y3 = nI (mnI f1 i) ∧ y4 = f1 (mnI f1 i))) N ?_ 0 _ _ _ (Nat.zero_le _) ⟨rfl, fun _ => rfl, fun z => by omega⟩
    rintro i rc2 y3 y4 _ hi ⟨rfl, q3, q4⟩ hrc2
    unfold F_X7_askNow_113 E_X7_askNow_113
    rw [k5.1.1]
    by_cases c2 : N ≤ i
    · have ei : i = N := by omega
      subst ei
      refine it_p (nI_le c2 (by omega)) ?_
      have := h τ2 k1
      unfold askv at this
      by_cases c3 : i = 0
      · rw [if_pos c3] at this
        rw [q3 c3]
        exact this
      · rw [if_neg c3] at this
        rw [(q4 (by omega)).1]
        exact this
    · refine it_n (fun z => c2 ((nI_leI (by omega) (by omega)).mp z)) ?_
      rw [show (100 : Int32) * nI i = nI (100 * i) from pk_mul 100 i]
      refine s_alikeM τ2 i (ctP fs 100) (by omega) c100 (x i) (fun q hq => by rw [k4]; exact g2 i (by omega) q hq) _ ?_
      rw [show nI (mxt (x i) (ctP fs 100) (ctP fs 100)) = f1 i by rw [hf1]]
      unfold J_X7_askNow_146 J_X7_askNow_151 J_X7_askNow_164
      rw [nI_1]
      have new : (i = 0 ∨ ¬ f1 (mnI f1 i) ≤ f1 i) → rc2 (nI i) (f1 i) (nI (i + 1)) := fun z =>
        hrc2 _ _ _ (by omega) ⟨rfl, fun y => by omega, fun _ => by rw [mnI_n z]; exact ⟨rfl, rfl⟩⟩
      by_cases c3 : i = 0
      · exact it_p (q3 c3) (it_n (by decide) (it_n (by decide) (new (Or.inl c3))))
      · obtain ⟨w1, w2⟩ := q4 (by omega)
        have := mnI_lt (f := f1) (n := i) (by omega)
        subst w1
        subst w2
        refine it_n (nI_m1 (by omega)) (it_c (fun c4 => it_p rfl (it_p rfl (hrc2 _ _ _ (by omega) ⟨rfl, fun y => by omega, fun _ => ?_⟩))) (fun c4 => it_n (by decide) (it_n (by decide) (new (Or.inr c4)))))
        rw [mnI_k c3 c4]
        exact ⟨rfl, rfl⟩
  · refine it_n (fun z => c1 ((nI_leI (a := 100) (by omega) (by omega)).mp z)) ⟨i04, ?_⟩
    rintro _ rfl
    have e1 : pt ρ 9 0 (nI j) 9 1 = σ 26 1 := by rw [pt_o _ _ (by decide), g1.2.1 1 (by decide)]; exact h9 1 (by omega)
    have e2 : pt ρ 9 0 (nI j) 9 2 = σ 26 2 := by rw [pt_o _ _ (by decide), g1.2.1 2 (by decide)]; exact h9 2 (by omega)
    refine g1.heard hN hB hm hm2 (nI j) (nI j) (σ 26 1) (σ 26 2) (pt_s _ _ _ _) e1 e2 _ (fun τ' k1 k2 k3 z => it_n (by decide) ?_) (fun τ' k1 k2 k3 z => it_p rfl ?_)
    · have z2 : fs j := (hfs j).mpr z
      have sj := svn_at (by omega) z2
      refine up2 (fun i y4 ρ2 => y4 = nI i ∧ same [17] τ' ρ2 ∧ (∀ k9, k9 < i → ρ2 17 (100 * k9 + ctP fs j) = x k9 (ctP fs j)) ∧ ∀ k9 q, k9 < N → q < ctP fs j → ρ2 17 (100 * k9 + q) = τ' 17 (100 * k9 + q)) N ?_ 0 _ _ (Nat.zero_le _) ⟨rfl, same.rf, fun k9 hk => by omega, fun _ _ _ _ => rfl⟩
      rintro i rc2 _ ρ2 hi ⟨rfl, q1, q2, q3⟩ hrc2
      have f2 := fd_17 k1.2.2 q1
      unfold F_X7_askNow_34 E_X7_askNow_34
      rw [f2.1.1]
      by_cases c2 : N ≤ i
      · refine it_p (nI_le c2 (by omega)) ?_
        rw [nI_1, nI_1]
        refine hrc _ _ _ (by omega) ⟨by rw [ctP_y z2], rfl, ⟨k1.1.tr (q1.mono (by decide)), fun q hq => by rw [q1 9 (by decide)]; exact k1.2.1 q hq, f2⟩, fun k9 hk q hq => ?_⟩
        rw [ctP_y z2] at hq
        by_cases c3 : q = ctP fs j
        · subst c3
          exact q2 k9 (by omega)
        · rw [q3 k9 q hk (by omega), k3]
          exact g2 k9 hk q (by omega)
      · refine it_n (fun z => c2 ((nI_leI (by omega) (by omega)).mp z)) ⟨vp_in_nI (by omega) (by omega), ?_⟩
        rw [show (100 : Int32) * nI i + nI (ctP fs j) = nI (100 * i + ctP fs j) by rw [show (100 : Int32) * nI i = nI (100 * i) from pk_mul 100 i, nI_add], nI_clamp (n := i) (by omega), nI_clamp (n := 100 * i + ctP fs j) (by omega), nI_1]
        obtain ⟨_, n2⟩ := f2.2.2.1 i (by omega)
        have t9 : ρ2 9 = pt ρ 9 0 (nI j) 9 := by rw [q1 9 (by decide)]; exact k2
        have val : ∀ y9 : Int32, y9 = og (NT P d N (ρ2 9 0) (ρ2 9 1) (ρ2 9 2) 0 i) → rc2 (nI (i + 1)) (pt ρ2 17 (100 * i + ctP fs j) y9) := by
          rintro _ rfl
          refine hrc2 _ _ (by omega) ⟨rfl, q1.pt (by decide), fun k9 hk => ?_, fun k9 q hk hq => ?_⟩
          · by_cases c3 : k9 = i
            · subst c3
              rw [pt_s, hx k9, sj, t9, pt_s, e1, e2]
            · rw [pt_o _ _ (by omega)]
              exact q2 k9 (by omega)
          · rw [pt_o _ _ (by omega)]
            exact q3 k9 q hk hq
        have vi : vp_in (nI (100 * i + ctP fs j)) 800 := vp_in_nI (by omega) (by omega)
        refine it_c (fun c3 => ⟨vi, ?_⟩) (fun c3 => ⟨vp_in_nI (by omega) (by omega), vi, ?_⟩)
        · rintro _ rfl
          rw [n2.1] at c3
          exact val _ (NT_none ((stpv_n hN (by omega)).mp c3)).symm
        · rintro _ rfl
          cases hfl : flk P d N i with
          | none => exact absurd (by rw [n2.1, hfl]; rfl) c3
          | some r =>
            obtain ⟨w1, w2, w3⟩ := r
            exact val _ (NT_0 n2 hfl).symm
    · have z2 : ¬ fs j := fun y => z ((hfs j).mp y)
      rw [nI_1]
      refine hrc _ _ _ (by omega) ⟨by rw [ctP_n z2], rfl, k1, fun k9 hk q hq => ?_⟩
      rw [ctP_n z2] at hq
      rw [k3]
      exact g2 k9 hk q hq
theorem op_ask {σ τ : Sg} (h : Rel σ τ) : w_X6_ask σ (fun r1 σ1 => w_X7_ask τ (fun r2 τ1 => r1 = r2 ∧ Rel σ1 τ1)) := by
  obtain ⟨N, P, d, B, kd, ok, hP, hB, hc, hn, hs, hT, _, _, fnd⟩ := vw h
  obtain ⟨nh, hm, hm2⟩ := mm_of h
  have hN := ok.1
  obtain ⟨fs, hfs⟩ : ∃ fs : Nat → Prop, ∀ v1, fs v1 ↔ hT0 σ nh N B P d kd (nI v1) (σ 26 1) := ⟨_, fun _ => Iff.rfl⟩
  obtain ⟨x, hx⟩ : ∃ x : Nat → Nat → Int32, ∀ k1 i, x k1 i = og (NT P d N (nI (svn fs i)) (σ 26 1) (σ 26 2) 0 k1) := ⟨_, fun _ _ => rfl⟩
  refine s_fitC σ nh N B P d kd hN hB hc hs hm fs hfs _ (fun σ' g1 g2 => ?_)
  refine s_askC σ σ' N P d hN hP hT hc fs g1 (fun i hi => ?_) x hx _ (fun σ2 w1 => ?_)
  · obtain ⟨a1, a2, a3⟩ := svn_ok hi
    have := g2 _ a1 a2
    rw [a3] at this
    exact this
  · unfold w_X7_ask
    refine fnd _ (fun τ' a1 a2 a3 a4 a5 => s_askM σ τ' nh N B P d kd hN hB hm (hm2 τ' a4) a3 a5 fs hfs x hx _ (fun τ2 k1 => ⟨?_, (a4.kp k1).ks (w1.mono (by decide))⟩))
    have : (fun k1 => nI (mxr (x k1) (ctP fs 100))) = fun k1 => nI (mxt (x k1) (ctP fs 100) (ctP fs 100)) := funext fun k1 => by rw [mx_eq]
    rw [this]
