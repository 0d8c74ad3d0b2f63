theorem Rel.sh {σ σ' τ τ' : Sg} (h : Rel σ τ) (s : Nat) (hs : s < 4) (h1 : same [33 + 2 * s, 34 + 2 * s] σ σ') (h2 : same [1, 2, 3, 4] τ τ') (h3 : ∀ q, q < 4 → q ≠ s → τ' 1 q = τ 1 q ∧ τ' 2 q = τ 2 q ∧ ∀ i, i < 60 → τ' 3 (60 * q + i) = τ 3 (60 * q + i)) (h4 : relS1 σ' τ' s) : Rel σ' τ' := by
  have e : ∀ q, q < 33 → σ' q = σ q := fun q hq => h1 q (by simp; omega)
  refine h.of (fun q q1 _ _ => e q (by omega)) (h2 5 (by decide)) (h2 6 (by decide)) ?_ ?_ (fun q hq => ?_) ?_
  · unfold relV
    rw [e 26 (by decide), h2 9 (by decide)]
    exact h.2.1
  · unfold relH
    rw [e 28 (by decide), e 29 (by decide), e 30 (by decide), e 31 (by decide), h2 0 (by decide), h2 16 (by decide)]
    exact h.2.2.1
  · by_cases c1 : q = s
    · subst c1
      exact h4
    · obtain ⟨g1, g2, g3⟩ := h3 q hq c1
      unfold relS1
      rw [h1 (33 + 2 * q) (by simp; omega), h1 (34 + 2 * q) (by simp; omega), g1, g2]
      obtain ⟨a1, a2⟩ := h.2.2.2.1 q hq
      refine ⟨a1, a2.imp id ?_⟩
      rintro ⟨f1, m1, q1, q2, q3, q4, q5, q6⟩
      exact ⟨f1, m1, q1, q2, q3, q4, q5, fun i hi => (g3 i (by omega)).trans (q6 i hi)⟩
  · rw [e 0 (by decide), h2 0 (by decide)]
    exact h.2.2.2.2
theorem s_fill (σ : Sg) (k0 : Nat) (K : Sg → Prop) (h : ∀ σ', same [k0 + 1] σ σ' → (∀ i, i < 60 → σ' (k0 + 1) i = 0) → K σ') : w_J7_fill_53178 k0 0 σ K := by
  refine up2 (fun j y ρ => y = nI j ∧ same [k0 + 1] σ ρ ∧ ∀ i, i < j → ρ (k0 + 1) i = 0) 60 ?_ 0 _ _ (Nat.zero_le _) ⟨rfl, same.rf, fun i hi => by omega⟩
  rintro j rc _ ρ hj ⟨rfl, g1, g2⟩ hrc
  unfold F_J7_fill_53178_5 E_J7_fill_53178_5
  by_cases c1 : 60 ≤ j
  · exact it_p (nI_le (a := 60) c1 (by omega)) (h ρ g1 (fun i hi => g2 i (by omega)))
  · refine it_n (fun z => c1 ((nI_leI (a := 60) (by omega) (by omega)).mp z)) ⟨vp_in_nI (by omega) (by omega), ?_⟩
    rintro _ rfl
    rw [nI_1, nI_clamp (by omega)]
    refine hrc _ _ (by omega) ⟨rfl, g1.pt (by simp), fun i hi => ?_⟩
    by_cases c2 : i = j
    · subst c2
      exact pt_s _ _ _ _
    · rw [pt_o _ _ c2]
      exact g2 i (by omega)
theorem s_renew (σ : Sg) (k0 m1 : Nat) (hm : m1 ≤ 60) (x1 : Int32) (K : Sg → Prop) (h : ∀ σ', same [k0, k0 + 1] σ σ' → σ' k0 1 = x1 → σ' k0 2 = nI m1 → (∀ i, i < 60 → σ' (k0 + 1) i = 0) → K σ') : w_X2_renew k0 x1 (nI m1) σ K := by
  unfold w_X2_renew
  rintro _ rfl _ rfl
  have q1 : ¬ (60 : Int32) < nI m1 := i_nlt (nI_le (b := 60) hm (by omega))
  rw [if_neg q1]
  have q2 : (if (0 : Int32) < nI m1 then nI m1 else 0) = nI m1 := by
    by_cases c1 : m1 = 0
    · subst c1
      rfl
    · exact if_pos (nI_lt (a := 0) (by omega) (by omega))
  rw [q2]
  rintro _ rfl _ rfl
  refine s_fill _ k0 _ (fun σ' g1 g2 => h σ' ?_ ?_ ?_ g2)
  · exact ((same.rf.pt (by simp)).pt (by simp)).tr (g1.mono (by simp))
  · rw [g1 k0 (by simp), pt_o _ _ (by decide), pt_s]
  · rw [g1 k0 (by simp), pt_s]
theorem formY {k1 : Nat} (h : k1 < 3) (K : Int32 → Prop) (hK : K 0) : w_X6_isNoForm (nI k1) K := it_n (nI_pos (by omega)) (it_p (nI_lt (b := 3) h (by omega)) hK)
theorem formN {x : Int32} (h : x < 0 ∨ nI 3 ≤ x) (K : Int32 → Prop) (hK : K 1) : w_X6_isNoForm x K := by
  unfold w_X6_isNoForm
  refine it_c (fun _ => hK) (fun c1 => it_n (fun c2 => ?_) hK)
  rcases h with h | h
  · exact c1 h
  · exact i_nle c2 h
theorem op_sheet {σ τ : Sg} (h : Rel σ τ) (x1 x2 x3 : Int32) : w_X6_sheet x1 x2 x3 σ (fun r1 σ1 => w_X7_sheet x1 x2 x3 τ (fun r2 τ1 => r1 = r2 ∧ Rel σ1 τ1)) := by
  unfold w_X6_sheet w_X7_sheet
  rcases ix_c x1 (n1 := 4) (by omega) with hx | ⟨s, hs, rfl⟩
  · exact cshN hx _ (it_n (by decide) (shtN hx _ (it_p rfl ⟨rfl, h⟩)))
  · have cs : (nI s).toNatClampNeg = s := nI_clamp (by omega)
    have vs : vp_in (nI s) 4 := vp_in_nI (by omega) (by omega)
    refine cshY hs _ (it_p rfl ?_)
    rcases ix_c x2 (n1 := 3) (by omega) with hx | ⟨f1, hf, rfl⟩
    · exact formN hx _ (it_n (by decide) (shtY (by omega) _ (it_n (by decide) (inN (m1 := 2) hx (by omega) (by decide) _ (it_p rfl ⟨rfl, h⟩)))))
    · refine formY hf _ (it_p rfl ?_)
      refine it_c (fun c1 => ?_) (fun c1 => shtY (by omega) _ (it_n (by decide) (inY (m1 := 2) (by omega) (by omega) (by decide) _ (it_n (by decide) (it_n c1 ⟨rfl, h⟩)))))
      refine it_c (fun c2 => ⟨vs, ?_⟩) (fun c2 => ?_)
      · obtain ⟨m1, hm, rfl⟩ : ∃ m1 : Nat, m1 ≤ 60 ∧ x3 = nI m1 := by
          rcases ix_c x3 (n1 := 61) (by omega) with hz | ⟨y1, hy, e⟩
          · exfalso
            have e1 : (nI 61).toInt = 61 := by decide
            have e2 : (60 : Int32).toInt = 60 := by decide
            have e3 : (0 : Int32).toInt = 0 := by decide
            rw [fa_le] at c1 c2
            rw [fa_lt, fa_le] at hz
            omega
          · exact ⟨y1, by omega, e⟩
        rw [cs]
        refine s_renew σ (33 + 2 * s) m1 hm _ _ (fun σ' g1 g2 g3 g4 => ?_)
        refine shtY (by omega) _ (it_n (by decide) (inY (m1 := 2) (by omega) (by omega) (by decide) _ (it_n (by decide) (it_p c1 (it_p c2 ⟨vs, ?_⟩)))))
        rintro _ rfl
        refine ⟨vs, ?_⟩
        rintro _ rfl
        refine up2 (fun j y ρ => y = nI j ∧ same [1, 2, 3] τ ρ ∧ (∀ q, q ≠ s → ρ 1 q = τ 1 q ∧ ρ 2 q = τ 2 q) ∧ ρ 1 s = nI f1 ∧ ρ 2 s = nI m1 ∧ (∀ i, i < j → ρ 3 (60 * s + i) = 0) ∧ ∀ q, q < 60 * s ∨ 60 * s + 60 ≤ q → ρ 3 q = τ 3 q) m1 ?_ 0 _ _ (Nat.zero_le _) ⟨rfl, ?_, ?_, ?_, ?_, fun i hi => by omega, fun q hq => ?_⟩
        · rintro j rc _ ρ hj ⟨rfl, k1, k2, k3, k4, k5, k6⟩ hrc
          unfold F_X7_sheet_55 E_X7_sheet_55
          by_cases c3 : m1 ≤ j
          · refine it_p (nI_le c3 (by omega)) ⟨rfl, h.sh s hs (by rw [show 34 + 2 * s = 33 + 2 * s + 1 by omega]; exact g1) (k1.mono (by simp)) (fun q hq hq2 => ⟨(k2 q hq2).1, (k2 q hq2).2, fun i hi => k6 _ (by omega)⟩) ⟨k3.trans g2.symm, Or.inr ⟨f1, m1, hf, hm, g2, g3, k4, fun i hi => ?_⟩⟩⟩
            rw [k5 i (by omega), show 34 + 2 * s = 33 + 2 * s + 1 by omega, g4 i (by omega)]
          · refine it_n (fun z => c3 ((nI_leI (by omega) (by omega)).mp z)) ?_
            simp (disch := omega) only [Nat.reduceAdd, fa_lit, nI_leI, nI_ltI, nI_eq, nI_add, pk_mul, pk_sub, pk_div, nI_clamp, c_vin, c_em1, c_m1e]
            refine ⟨by omega, ?_⟩
            rintro _ rfl
            refine hrc _ _ (by omega) ⟨rfl, k1.pt (by decide), fun q hq => ?_, ?_, ?_, fun i hi => ?_, fun q hq => ?_⟩
            · rw [pt_ne ρ _ _ (by decide), pt_ne ρ _ _ (by decide)]
              exact k2 q hq
            · rw [pt_ne ρ _ _ (by decide)]
              exact k3
            · rw [pt_ne ρ _ _ (by decide)]
              exact k4
            · by_cases c4 : i = j
              · subst c4
                exact pt_s _ _ _ _
              · rw [pt_o _ _ (by omega)]
                exact k5 i (by omega)
            · rw [pt_o _ _ (by omega)]
              exact k6 q hq
        · exact (same.rf.pt (by decide)).pt (by decide)
        · intro q hq
          rw [pt_ne _ _ _ (show 1 ≠ 2 by decide), pt_o _ _ hq, pt_o _ _ hq, pt_ne τ _ _ (by decide)]
          exact ⟨rfl, rfl⟩
        · rw [pt_ne _ _ _ (show 1 ≠ 2 by decide), pt_s]
        · rw [pt_s]
        · rw [pt_ne _ _ _ (show 3 ≠ 2 by decide), pt_ne τ _ _ (by decide)]
      · rintro _ rfl
        refine shtY (by omega) _ (it_n (by decide) (inY (m1 := 2) (by omega) (by omega) (by decide) _ (it_n (by decide) (it_p c1 (it_n c2 ?_)))))
        exact finds_ h 5 _ (fun τ' r => ⟨rfl, r⟩)
theorem op_lose {σ τ : Sg} (h : Rel σ τ) (x1 : Int32) : w_X6_lose x1 σ (fun r1 σ1 => w_X7_lose x1 τ (fun r2 τ1 => r1 = r2 ∧ Rel σ1 τ1)) := by
  unfold w_X6_lose w_X7_lose
  rcases ix_c x1 (n1 := 4) (by omega) with hx | ⟨s, hs, rfl⟩
  · exact cshN hx _ (it_n (by decide) (shtN hx _ (it_p rfl ⟨rfl, h⟩)))
  · have cs : (nI s).toNatClampNeg = s := nI_clamp (by omega)
    have vs : vp_in (nI s) 4 := vp_in_nI (by omega) (by omega)
    refine cshY hs _ (it_p rfl ⟨vs, ?_⟩)
    obtain ⟨s1, s2⟩ := h.2.2.2.1 s hs
    unfold w_X2_isLost
    rw [cs]
    rcases s2 with s2 | ⟨f1, m1, q1, q2, q3, q4, q5, q6⟩
    · refine it_p s2 (it_n (by decide) ?_)
      rintro _ rfl
      refine shtY (by omega) _ (it_n (by decide) ⟨vs, it_n (by rw [s1, s2]; decide) ?_⟩)
      exact finds_ h 1 _ (fun τ' r => ⟨rfl, r⟩)
    · refine it_n (by rw [q3]; exact nI_m1 (by omega)) (it_p rfl ?_)
      rintro _ rfl
      refine s_renew σ (33 + 2 * s) 0 (by omega) _ _ (fun σ' g1 g2 g3 g4 => ?_)
      refine shtY (by omega) _ (it_n (by decide) ⟨vs, it_p (by rw [s1, q3]; exact nI_pos' (by omega)) ⟨vs, ?_⟩⟩)
      rintro _ rfl
      refine ⟨vs, ?_, h.sh s hs (by rw [show 34 + 2 * s = 33 + 2 * s + 1 by omega]; exact g1) (same.rf.pt (by decide)) (fun q hq hq2 => ⟨pt_o _ _ hq2, ?_, fun i hi => ?_⟩) ⟨?_, Or.inl g2⟩⟩
      · rw [pt_ne τ _ _ (by decide), q4, q5]
      · rw [pt_ne τ _ _ (by decide)]
      · rw [pt_ne τ _ _ (by decide)]
      · rw [pt_s, g2]
