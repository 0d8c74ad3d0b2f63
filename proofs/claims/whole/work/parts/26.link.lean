theorem s_link (σ : Sg) (k0 N : Nat) (P : Nat → Int32) (d : Nat → Nat → Int32) (hN : N ≤ 8) (hc : chIs σ k0 N P d) (hd : ∀ i, i < N → dig (P i)) (hh : ∀ i, i < N → d 3 i = 0 ∨ d 3 i = 1) (K : Sg → Prop) (h : ∀ σ', same [k0 + 5, k0 + 6, k0 + 7, k0 + 8] σ σ' → nbIs σ' k0 N P → (∀ i, i < N → lkAt σ' k0 N P d i) → K σ') : w_X0_link k0 σ K := by
  have nn : ∀ q, q ≤ 4 → (k0 + q) ∉ [k0 + 5, k0 + 6, k0 + 7, k0 + 8] := by
    intro q hq
    simp
    omega
  have keep : ∀ ρ, same [k0 + 5, k0 + 6, k0 + 7, k0 + 8] σ ρ → chIs ρ k0 N P d := by
    intro ρ hs
    refine ⟨by rw [show ρ k0 = σ k0 from hs (k0 + 0) (nn 0 (by omega))]; exact hc.1, fun i hi => ?_⟩
    rw [hs _ (nn 1 (by omega)), hs _ (nn 2 (by omega)), hs _ (nn 3 (by omega)), hs _ (nn 4 (by omega))]
    exact hc.2 i hi
  unfold w_X0_link
  refine up2 (fun j y ρ => y = nI j ∧ same [k0 + 5, k0 + 6, k0 + 7, k0 + 8] σ ρ ∧ ∀ i, i < j → ρ (k0 + 7) i = enc (nr P i N)) N ?_ 0 _ _ (Nat.zero_le _) ⟨rfl, same.rf, fun i hi => by omega⟩
  rintro j rc _ ρ hj ⟨rfl, h1, h2⟩ hrc
  have hcρ := keep ρ h1
  unfold F_X0_link_2
  rw [hcρ.1]
  by_cases hjN : N ≤ j
  · refine it_p ((nI_leI (by omega) (by omega)).mpr hjN) ?_
    have ej : j = N := by omega
    subst ej
    unfold E_X0_link_2
    refine up2 (fun t y ρ2 => y = nI t ∧ same [k0 + 5, k0 + 6, k0 + 7, k0 + 8] σ ρ2 ∧ nbIs ρ2 k0 j P ∧ ∀ i, i < t → lkAt ρ2 k0 j P d i) j ?_ 0 _ _ (Nat.zero_le _) ⟨rfl, h1, h2, fun i hi => by omega⟩
    rintro t rc2 _ ρ2 ht ⟨rfl, g1, g2, g3⟩ hrc2
    have hc2 := keep ρ2 g1
    unfold F_X0_link_29 E_X0_link_29
    rw [hc2.1]
    by_cases htN : j ≤ t
    · refine it_p ((nI_leI (by omega) (by omega)).mpr htN) ?_
      have et : t = j := by omega
      subst et
      exact h ρ2 g1 g2 g3
    · refine it_n (fun z => htN ((nI_leI (by omega) (by omega)).mp z)) ?_
      refine s_follow ρ2 k0 j t P d hN (by omega) hc2 g2 hh _ ?_
      refine hrc2 _ _ (by omega) ⟨nI_add t 1, ?_, ?_, ?_⟩
      · unfold fin3
        exact ((g1.pt (by simp)).pt (by simp)).pt (by simp)
      · intro i hi
        unfold fin3
        rw [pt_ne _ _ _ (by omega), pt_ne _ _ _ (by omega), pt_ne _ _ _ (by omega)]
        exact g2 i hi
      · intro i hi
        unfold lkAt fin3
        by_cases e : i = t
        · subst e
          refine ⟨?_, pt_s _ _ _ _, ?_⟩
          · rw [pt_ne _ _ _ (by omega), pt_ne _ _ _ (by omega), pt_s]
          · rw [pt_ne _ _ _ (by omega), pt_s]
        · obtain ⟨a1, a2, a3⟩ := g3 i (by omega)
          refine ⟨?_, ?_, ?_⟩
          · rw [pt_ne _ _ _ (by omega), pt_ne _ _ _ (by omega), pt_o _ _ e]
            exact a1
          · rw [pt_o _ _ e, pt_ne _ _ _ (by omega), pt_ne _ _ _ (by omega)]
            exact a2
          · rw [pt_ne _ _ _ (by omega), pt_o _ _ e, pt_ne _ _ _ (by omega)]
            exact a3
  · refine it_n (fun z => hjN ((nI_leI (by omega) (by omega)).mp z)) ?_
    refine s_near ρ k0 N j P hN (by omega) hcρ.1 (fun i hi => (hcρ.2 i hi).1) hd _ ⟨vp_in_nI (by omega) (by omega), ?_⟩
    rintro _ rfl
    rw [nI_clamp (by omega)]
    refine hrc _ _ (by omega) ⟨nI_add j 1, h1.pt (by simp), fun i hi => ?_⟩
    by_cases e : i = j
    · subst e
      exact pt_s _ _ _ _
    · rw [pt_o _ _ e]
      exact h2 i (by omega)
theorem nar_0 : vp_nar .boolean 0 = 0 := rfl
theorem nar_1 : vp_nar .boolean 1 = 1 := rfl
theorem s_parseS (σ : Sg) (n : Nat) (hn : n ≤ 39) (hs : σ 1 2 = nI n) (K : Sg → Prop) (h : ∀ σ', same [5, 6, 7, 8, 9, 10, 11, 12, 13] σ σ' → chIs σ' 5 (nS (σ 2) n) (dS (σ 2) 0) (dS (σ 2)) → nbIs σ' 5 (nS (σ 2) n) (dS (σ 2) 0) → (∀ i, i < nS (σ 2) n → lkAt σ' 5 (nS (σ 2) n) (dS (σ 2) 0) (dS (σ 2)) i) → K σ') : w_X0_parse 5 1 σ K := by
  have ok := okC_S (b := σ 2) hn
  have lk : ∀ ρ, same [5, 6, 7, 8, 9] σ ρ → chIs ρ 5 (nS (σ 2) n) (dS (σ 2) 0) (dS (σ 2)) → J_X0_parse_135 5 K ρ := by
    intro ρ h1 h2
    unfold J_X0_parse_135
    refine s_link ρ 5 _ _ _ ok.1 h2 (fun i hi => (ok.2 i hi).1) (fun i hi => (ok.2 i hi).2.2.2) _ (fun ρ' g1 g2 g3 => ?_)
    refine h ρ' ((h1.mono (by decide)).tr (g1.mono (by decide))) ⟨?_, fun i hi => ?_⟩ g2 g3
    · rw [g1 5 (by decide)]
      exact h2.1
    · rw [g1 (5 + 1) (by decide), g1 (5 + 2) (by decide), g1 (5 + 3) (by decide), g1 (5 + 4) (by decide)]
      exact h2.2 i hi
  unfold w_X0_parse
  rintro _ rfl
  refine s_faultS _ 1 n hn (by rw [pt_ne _ _ _ (by decide)]; exact hs) _ ?_
  rw [show pt σ 5 0 0 (1 + 1) = σ 2 from pt_ne _ _ _ (by decide)]
  cases hf : flt (σ 2) n n 0 with
  | some q =>
    have eN : nS (σ 2) n = 0 := by unfold nS; rw [hf]
    have hq : enc (some q) ≠ -1 := nI_m1 (by
      have : ∀ {d j q}, flt (σ 2) n d j = some q → q < j + d ∨ q = n := by
        intro d
        induction d with
        | zero => intro j q h; rw [flt_0] at h; split at h <;> cases h; exact Or.inr rfl
        | succ d ih =>
          intro j q h
          rw [flt_s] at h
          split at h
          · have := ih h
            omega
          · cases h
            omega
      have := this hf
      omega)
    refine it_n hq (lk _ (same.rf.pt (by decide)) ?_)
    rw [eN]
    exact ⟨pt_s _ _ _ _, fun i hi => by omega⟩
  | none =>
    have eN : nS (σ 2) n = (n + 1) / 5 := by unfold nS; rw [hf]
    obtain ⟨hn5, -⟩ := flt_none hf
    refine it_p rfl ?_
    refine up2 (fun j y ρ => y = nI (5 * j) ∧ same [5, 6, 7, 8, 9] σ ρ ∧ ρ 5 0 = nI j ∧ ∀ i, i < j → ρ 6 i = dS (σ 2) 0 i ∧ ρ 7 i = dS (σ 2) 1 i ∧ ρ 8 i = dS (σ 2) 2 i ∧ ρ 9 i = dS (σ 2) 3 i) ((n + 1) / 5) ?_ 0 _ _ (Nat.zero_le _) ⟨rfl, same.rf.pt (by decide), pt_s _ _ _ _, fun i hi => by omega⟩
    rintro j rc _ ρ hj ⟨rfl, h1, h2, h3⟩ hrc
    have r1 : ρ 1 2 = nI n := by rw [h1 1 (by decide)]; exact hs
    have r2 : ρ 2 = σ 2 := h1 2 (by decide)
    unfold F_X0_parse_15 E_X0_parse_15
    simp (disch := omega) only [Nat.reduceAdd, fa_lit, nI_leI, nI_ltI, nI_eq, nI_add, pk_mul, pk_sub, pk_div, nI_clamp, c_vin, c_em1, c_m1e, r1, r2, h2]
    by_cases hjN : (n + 1) / 5 ≤ j
    · refine it_p (by omega) (lk ρ h1 ?_)
      have ej : j = (n + 1) / 5 := by omega
      rw [eN, ← ej]
      exact ⟨h2, h3⟩
    · refine it_n (by omega) (it_n (by omega) ⟨by omega, by omega, ?_⟩)
      have hjS : j < nS (σ 2) n := by omega
      have e0 := (tell_dig (by omega) (nS_fit hjS (show 0 < 4 by omega)).2).2
      have e1 := (tell_dig (by omega) (nS_fit hjS (show 1 < 4 by omega)).2).2
      have e2 := (tell_dig (by omega) (nS_fit hjS (show 2 < 4 by omega)).2).2
      have e3 := (tell_h (nS_fit hjS (show 3 < 4 by omega)).2).1
      have f0 : σ 2 (5 * j) - nI 48 = dS (σ 2) 0 j := e0.symm
      have f1 : σ 2 (5 * j + 1) - nI 48 = dS (σ 2) 1 j := e1.symm
      have f2 : σ 2 (5 * j + 2) - nI 48 = dS (σ 2) 2 j := e2.symm
      rintro _ rfl
      rw [f0]
      refine ⟨by omega, ?_⟩
      rw [pt_ne _ _ _ (by decide), pt_ne _ _ _ (by decide), h2, r2]
      simp (disch := omega) only [Nat.reduceAdd, fa_lit, nI_leI, nI_ltI, nI_eq, nI_add, pk_mul, pk_sub, pk_div, nI_clamp, c_vin, c_em1, c_m1e, f1]
      refine ⟨by omega, ?_⟩
      rintro _ rfl
      refine ⟨by omega, ?_⟩
      rw [pt_ne _ _ _ (by decide), pt_ne _ _ _ (by decide), pt_ne _ _ _ (by decide), pt_ne _ _ _ (by decide), h2, r2]
      simp (disch := omega) only [Nat.reduceAdd, fa_lit, nI_leI, nI_ltI, nI_eq, nI_add, pk_mul, pk_sub, pk_div, nI_clamp, c_vin, c_em1, c_m1e, f2]
      refine ⟨by omega, ?_⟩
      rintro _ rfl
      refine ⟨by omega, ?_⟩
      rw [pt_ne _ _ _ (by decide), pt_ne _ _ _ (by decide), pt_ne _ _ _ (by decide), pt_ne _ _ _ (by decide), pt_ne _ _ _ (by decide), pt_ne _ _ _ (by decide), h2, r2]
      have key : ∀ v, vp_nar .boolean v = dS (σ 2) 3 j → J_X0_parse_118 (pt (pt (pt ρ 6 j (dS (σ 2) 0 j)) 7 j (dS (σ 2) 1 j)) 8 j (dS (σ 2) 2 j)) 5 rc (nI (5 * j)) v (nI j) := by
        intro v hv
        unfold J_X0_parse_118
        simp (disch := omega) only [Nat.reduceAdd, fa_lit, nI_leI, nI_ltI, nI_eq, nI_add, pk_mul, pk_sub, pk_div, nI_clamp, c_vin, c_em1, c_m1e, hv]
        refine ⟨by omega, ?_⟩
        rintro _ rfl _ rfl
        refine hrc _ _ (by omega) ⟨by congr 1, ((((h1.pt (by decide)).pt (by decide)).pt (by decide)).pt (by decide)).pt (by decide), ?_, fun i hi => ?_⟩
        · rw [pt_s, pt_ne _ _ _ (by decide), pt_ne _ _ _ (by decide), pt_ne _ _ _ (by decide), pt_ne _ _ _ (by decide), h2]
          exact nI_add j 1
        · by_cases e : i = j
          · subst e
            refine ⟨?_, ?_, ?_, ?_⟩
            · rw [pt_ne _ _ _ (by decide), pt_ne _ _ _ (by decide), pt_ne _ _ _ (by decide), pt_ne _ _ _ (by decide), pt_s]
            · rw [pt_ne _ _ _ (by decide), pt_ne _ _ _ (by decide), pt_ne _ _ _ (by decide), pt_s]
            · rw [pt_ne _ _ _ (by decide), pt_ne _ _ _ (by decide), pt_s]
            · rw [pt_ne _ _ _ (by decide), pt_s]
          · obtain ⟨a0, a1, a2, a3⟩ := h3 i (by omega)
            refine ⟨?_, ?_, ?_, ?_⟩
            · rw [pt_ne _ _ _ (by decide), pt_ne _ _ _ (by decide), pt_ne _ _ _ (by decide), pt_ne _ _ _ (by decide), pt_o _ _ e]
              exact a0
            · rw [pt_ne _ _ _ (by decide), pt_ne _ _ _ (by decide), pt_ne _ _ _ (by decide), pt_o _ _ e, pt_ne _ _ _ (by decide)]
              exact a1
            · rw [pt_ne _ _ _ (by decide), pt_ne _ _ _ (by decide), pt_o _ _ e, pt_ne _ _ _ (by decide), pt_ne _ _ _ (by decide)]
              exact a2
            · rw [pt_ne _ _ _ (by decide), pt_o _ _ e, pt_ne _ _ _ (by decide), pt_ne _ _ _ (by decide), pt_ne _ _ _ (by decide)]
              exact a3
      refine it_c (fun q => ?_) (fun q => ?_)
      · exact key 1 (by rw [show dS (σ 2) 3 j = _ from e3, if_pos (show σ 2 (5 * j + 3) = 104 from q)]; rfl)
      · exact key 0 (by rw [show dS (σ 2) 3 j = _ from e3, if_neg (show ¬ σ 2 (5 * j + 3) = 104 from q)]; rfl)
