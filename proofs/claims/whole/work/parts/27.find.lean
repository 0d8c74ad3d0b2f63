def wh (v e w p : Int32) : Int32 := ((((1000 + v) - ((v * (p + e)) / 4)) - 9) + w)
theorem z0 : (0 : Int32).toNatClampNeg = 0 := by decide
theorem z1 : (1 : Int32).toNatClampNeg = 1 := by decide
theorem z2 : (2 : Int32).toNatClampNeg = 2 := by decide
theorem z3 : (3 : Int32).toNatClampNeg = 3 := by decide
theorem i04 : vp_in (0 : Int32) 4 := by unfold vp_in; decide
theorem i14 : vp_in (1 : Int32) 4 := by unfold vp_in; decide
theorem i24 : vp_in (2 : Int32) 4 := by unfold vp_in; decide
theorem i34 : vp_in (3 : Int32) 4 := by unfold vp_in; decide
theorem s_whistleAt (τ : Sg) (p : Int32) (K : Int32 → Prop) (h : K (wh (τ 9 0) (τ 9 1) (τ 9 2) p)) : w_X7_whistleAt p τ K := by
  unfold w_X7_whistleAt
  rw [z0, z1, z2]
  exact ⟨i04, i04, i14, i24, h⟩
theorem s_pitchAt (σ : Sg) (k0 : Nat) (p : Int32) (K : Int32 → Prop) (h : K (wh (σ k0 0) (σ k0 1) (σ k0 2) p)) : w_X5_pitchAt k0 p σ K := h
def plIs (τ : Sg) (N : Nat) (P : Nat → Int32) : Prop := ∀ k, k < N → τ 10 k = P k
def ntAt (τ : Sg) (N : Nat) (P : Nat → Int32) (d : Nat → Nat → Int32) (k : Nat) : Prop := τ 12 k = stpv (flk P d N k) ∧ ∀ q sm st, flk P d N k = some (q, sm, st) → τ 13 k = sm + wh (τ 9 0) (τ 9 1) (τ 9 2) (P q) + wsg P (d 1) q
theorem s_listens (τ : Sg) (N k : Nat) (P : Nat → Int32) (d : Nat → Nat → Int32) (hN : N ≤ 8) (hk : k < N) (hm : mdIs τ N d) (hp : plIs τ N P) (hn : ∀ i, i < N → τ 11 i = enc (nr P i N)) (h0 : τ 12 k = -1) (K : Sg → Prop) (h : ∀ τ', same [12, 13] τ τ' → (∀ i, i ≠ k → τ' 12 i = τ 12 i ∧ τ' 13 i = τ 13 i) → ntAt τ' N P d k → K τ') : w_X7_listens (nI k) τ K := by
  unfold w_X7_listens
  have sil : flk P d N k = none → K τ := by
    intro e
    refine h τ same.rf (fun i _ => ⟨rfl, rfl⟩) ⟨by rw [e]; exact h0, fun q sm st e2 => by rw [e] at e2; cases e2⟩
  refine up3 (fun st a sm b => ∃ o : Option Nat, a = enc o ∧ b = nI st ∧ (∀ q, o = some q → q < N) ∧ fol P (d 1) (d 3) N (9 - st) o sm st = flk P d N k) 9 ?_ 0 _ _ _ (Nat.zero_le _) ⟨some k, rfl, rfl, fun q e => by cases e; exact hk, rfl⟩
  rintro st rc _ sm _ hst ⟨o, rfl, rfl, ho, hf⟩ hrc
  unfold F_X7_listens_7 E_X7_listens_7
  by_cases hs : 9 ≤ st
  · refine it_p (by simp (disch := omega) only [Nat.reduceAdd, fa_lit, nI_leI, nI_ltI, nI_eq, nI_add, pk_mul, pk_sub, pk_div, nI_clamp, c_vin, c_em1, c_m1e]; exact hs) (sil ?_)
    rw [← hf, show 9 - st = 0 by omega]
    rfl
  · refine it_n (by simp (disch := omega) only [Nat.reduceAdd, fa_lit, nI_leI, nI_ltI, nI_eq, nI_add, pk_mul, pk_sub, pk_div, nI_clamp, c_vin, c_em1, c_m1e]; exact hs) ?_
    cases o with
    | none =>
      rw [fol_none] at hf
      exact it_p rfl (sil hf.symm)
    | some q =>
      have hq := ho q rfl
      have m1 := hm.2 q hq 1 (by omega)
      have m3 := hm.2 q hq 3 (by omega)
      rw [enc_some]
      refine it_n (nI_m1 (by omega)) ?_
      rw [show 9 - st = (9 - (st + 1)) + 1 by omega] at hf
      have hf : (if d 3 q = 1 then some (q, sm, st) else fol P (d 1) (d 3) N (9 - (st + 1)) (nr P q N) (sm + d 1 q / 2) (st + 1)) = flk P d N k := hf
      simp (disch := omega) only [Nat.reduceAdd, fa_lit, nI_leI, nI_ltI, nI_eq, nI_add, pk_mul, pk_sub, pk_div, nI_clamp, c_vin, c_em1, c_m1e, m1, m3]
      refine ⟨by omega, ?_⟩
      by_cases c : d 3 q = 1
      · rw [if_pos c] at hf
        refine it_p c ⟨by omega, ?_⟩
        rintro _ rfl
        refine ⟨by omega, s_whistleAt _ _ _ ⟨by omega, ?_⟩⟩
        rw [pt_ne _ _ _ (by decide), pt_ne _ _ _ (by decide), pt_ne _ _ _ (by decide), m1, hp q hq]
        unfold w_X7_wrongBy
        simp (disch := omega) only [Nat.reduceAdd, fa_lit, nI_leI, nI_ltI, nI_eq, nI_add, pk_mul, pk_sub, pk_div, nI_clamp, c_vin, c_em1, c_m1e]
        rw [pt_ne _ _ _ (by decide), hp q hq]
        refine ⟨by omega, ?_⟩
        have fin : ∀ x, x = wsg P (d 1) q → K (pt (pt τ 12 k (nI st)) 13 k ((sm + wh (τ 9 0) (τ 9 1) (τ 9 2) (P q)) + x)) := by
          rintro _ rfl
          refine h _ ((same.rf.pt (by decide)).pt (by decide)) (fun i hi => ⟨?_, ?_⟩) ⟨?_, fun q' sm' st' e => ?_⟩
          · rw [pt_ne _ _ _ (by decide), pt_o _ _ hi]
          · rw [pt_o _ _ hi, pt_ne _ _ _ (by decide)]
          · rw [pt_ne _ _ _ (by decide), pt_s, ← hf]
            rfl
          · rw [← hf] at e
            cases e
            rw [pt_s, pt_ne _ _ _ (by decide), pt_ne _ _ _ (by decide)]
        refine it_c (fun cc => ⟨by omega, ?_⟩) (fun cc => ⟨by omega, ?_⟩)
        · rintro _ rfl
          exact fin _ (by unfold wsg; rw [if_pos (show P q - P q / 2 * 2 = 0 from cc)])
        · rintro _ rfl
          exact fin _ (by unfold wsg; rw [if_neg (show ¬ P q - P q / 2 * 2 = 0 from cc)])
      · rw [if_neg c] at hf
        refine it_n c ⟨by omega, ?_⟩
        rintro _ rfl
        refine ⟨by omega, ?_⟩
        rintro _ rfl
        rw [hn q hq]
        exact hrc _ _ _ (by omega) ⟨nr P q N, rfl, rfl, fun q' e => nr_lt e, hf⟩
/-- notes are found for these places and this train -/
def ntIs (τ : Sg) (N : Nat) (P : Nat → Int32) (d : Nat → Nat → Int32) : Prop := ∀ k, k < N → τ 11 k = enc (nr P k N) ∧ ntAt τ N P d k
theorem s_findNotes (τ : Sg) (N : Nat) (P : Nat → Int32) (d : Nat → Nat → Int32) (hN : N ≤ 8) (hm : mdIs τ N d) (hp : plIs τ N P) (K : Sg → Prop) (h : ∀ τ', same [11, 12, 13] τ τ' → ntIs τ' N P d → K τ') : w_X7_findNotes τ K := by
  have km : ∀ ρ, same [11, 12, 13] τ ρ → mdIs ρ N d ∧ plIs ρ N P := by
    intro ρ hs
    unfold mdIs plIs
    rw [hs 0 (by decide), hs 7 (by decide), hs 10 (by decide)]
    exact ⟨hm, hp⟩
  unfold w_X7_findNotes
  refine up2 (fun j y ρ => y = nI j ∧ same [11, 12, 13] τ ρ ∧ ∀ i, i < j → ρ 11 i = enc (nr P i N)) N ?_ 0 _ _ (Nat.zero_le _) ⟨rfl, same.rf, fun i hi => by omega⟩
  rintro j rc _ ρ hj ⟨rfl, h1, h2⟩ hrc
  obtain ⟨hmρ, hpρ⟩ := km ρ h1
  unfold F_X7_findNotes_2
  rw [hmρ.1]
  by_cases hjN : N ≤ j
  · refine it_p ((nI_leI (by omega) (by omega)).mpr hjN) ?_
    have ej : j = N := by omega
    subst ej
    unfold E_X7_findNotes_2
    refine up2 (fun t y ρ2 => y = nI t ∧ same [11, 12, 13] τ ρ2 ∧ (∀ i, i < j → ρ2 11 i = enc (nr P i j)) ∧ ∀ i, i < t → ntAt ρ2 j P d i) j ?_ 0 _ _ (Nat.zero_le _) ⟨rfl, h1, h2, fun i hi => by omega⟩
    rintro t rc2 _ ρ2 ht ⟨rfl, g1, g2, g3⟩ hrc2
    obtain ⟨hm2, hp2⟩ := km ρ2 g1
    unfold F_X7_findNotes_29 E_X7_findNotes_29
    rw [hm2.1]
    by_cases htN : j ≤ t
    · refine it_p ((nI_leI (by omega) (by omega)).mpr htN) ?_
      have et : t = j := by omega
      subst et
      exact h ρ2 g1 (fun k hk => ⟨g2 k hk, g3 k hk⟩)
    · refine it_n (fun z => htN ((nI_leI (by omega) (by omega)).mp z)) ⟨vp_in_nI (by omega) (by omega), ?_⟩
      rintro _ rfl
      rw [nI_clamp (by omega)]
      have g4 : same [11, 12, 13] τ (pt ρ2 12 t (-1)) := g1.pt (by decide)
      obtain ⟨hm3, hp3⟩ := km _ g4
      refine s_listens _ j t P d hN (by omega) hm3 hp3 (fun i hi => by rw [pt_ne _ _ _ (by decide)]; exact g2 i hi) (pt_s _ _ _ _) _ (fun ρ3 k1 k2 k3 => ?_)
      refine hrc2 _ _ (by omega) ⟨nI_add t 1, g4.tr (k1.mono (by decide)), fun i hi => ?_, fun i hi => ?_⟩
      · rw [k1 11 (by decide), pt_ne _ _ _ (by decide)]
        exact g2 i hi
      · by_cases e : i = t
        · subst e
          exact k3
        · obtain ⟨a1, a2⟩ := g3 i (by omega)
          obtain ⟨b1, b2⟩ := k2 i e
          unfold ntAt
          rw [b1, b2, k1 9 (by decide), pt_o _ _ e, pt_ne _ _ _ (by decide), pt_ne _ _ _ (by decide)]
          exact ⟨a1, a2⟩
  · refine it_n (fun z => hjN ((nI_leI (by omega) (by omega)).mp z)) ?_
    refine s_nearest ρ N j P hN (by omega) hmρ.1 hpρ _ ⟨vp_in_nI (by omega) (by omega), ?_⟩
    rintro _ rfl
    rw [nI_clamp (by omega)]
    refine hrc _ _ (by omega) ⟨nI_add j 1, h1.pt (by decide), fun i hi => ?_⟩
    by_cases e : i = j
    · subst e
      exact pt_s _ _ _ _
    · rw [pt_o _ _ e]
      exact h2 i (by omega)
/-- all is found -/
def fdIs (τ : Sg) (N : Nat) (P : Nat → Int32) (d : Nat → Nat → Int32) (B : Nat) (kd : Nat → Int32) : Prop := mdIs τ N d ∧ plIs τ N P ∧ ntIs τ N P d ∧ mbIs τ B kd
/-- what stays of the model's state over a call that only asks -/
def kpM (τ τ' : Sg) : Prop := same [0, 4, 7, 8, 9, 10, 11, 12, 13, 14, 15, 17] τ τ' ∧ τ' 0 4 = τ 0 4 ∧ τ' 0 18 = τ 0 18 ∧ ∀ j, j < 4 → τ' 9 j = τ 9 j
theorem kpM.rf {τ : Sg} : kpM τ τ := ⟨same.rf, rfl, rfl, fun _ _ => rfl⟩
theorem kpM.tr {τ τ' τ'' : Sg} (h : kpM τ τ') (g : kpM τ' τ'') : kpM τ τ'' := ⟨h.1.tr g.1, g.2.1.trans h.2.1, g.2.2.1.trans h.2.2.1, fun j hj => (g.2.2.2 j hj).trans (h.2.2.2 j hj)⟩
theorem kpM.of {τ τ' : Sg} (h : same [4, 7, 8, 10, 11, 12, 13, 14, 15, 17] τ τ') : kpM τ τ' := ⟨h.mono (by decide), by rw [h 0 (by decide)], by rw [h 0 (by decide)], fun j _ => by rw [h 9 (by decide)]⟩
theorem s_find (τ : Sg) (n0 n1 : Nat) (h0 : n0 ≤ 39) (h1 : n1 ≤ 24) (e0 : τ 6 0 = nI n0) (e1 : τ 6 1 = nI n1) (K : Sg → Prop) (h : ∀ τ', kpM τ τ' → τ' 9 = τ 9 → fdIs τ' (nS (τ 5) n0) (dS (τ 5) 0) (dS (τ 5)) (nB (fun i => τ 5 (40 + i)) n1) (fun i => kindv (τ 5 (40 + i))) → K τ') : w_X7_find τ K := by
  have ok := okC_S (b := τ 5) h0
  unfold w_X7_find
  refine s_readsS τ n0 h0 e0 _ (fun τ1 a1 a2 a3 => ?_)
  have b6 : τ1 6 = τ 6 := a1 6 (by decide)
  have b5 : τ1 5 = τ 5 := a1 5 (by decide)
  refine s_readsB τ1 n1 h1 (by rw [b6]; exact e1) _ (fun τ2 c1 c2 c3 => ?_)
  rw [b5] at c3
  have m2 : mdIs τ2 (nS (τ 5) n0) (dS (τ 5)) := by
    unfold mdIs
    rw [c2 7 (by decide), c1 7 (by decide)]
    exact a3
  refine up2 (fun j y ρ => y = nI j ∧ same [10] τ2 ρ ∧ ∀ i, i < j → ρ 10 i = dS (τ 5) 0 i) (nS (τ 5) n0) ?_ 0 _ _ (Nat.zero_le _) ⟨rfl, same.rf, fun i hi => by omega⟩
  rintro j rc _ ρ hj ⟨rfl, g1, g2⟩ hrc
  have mρ : mdIs ρ (nS (τ 5) n0) (dS (τ 5)) := by
    unfold mdIs
    rw [g1 0 (by decide), g1 7 (by decide)]
    exact m2
  have hN := ok.1
  unfold F_X7_find_12 E_X7_find_12
  rw [mρ.1]
  by_cases hjN : nS (τ 5) n0 ≤ j
  · refine it_p ((nI_leI (by omega) (by omega)).mpr hjN) ?_
    have ej : j = nS (τ 5) n0 := by omega
    refine s_findNotes ρ (nS (τ 5) n0) (dS (τ 5) 0) (dS (τ 5)) hN mρ (fun i hi => g2 i (by omega)) _ (fun τ3 k1 k2 => ?_)
    have z0 : ∀ q, q ≠ 7 → q ≠ 9 → τ3 0 q = τ 0 q := fun q q1 q2 => by rw [k1 0 (by decide), g1 0 (by decide), c2 q q2, a2 q q1]
    refine h τ3 ⟨?_, z0 4 (by decide) (by decide), z0 18 (by decide) (by decide), fun i _ => ?_⟩ ?_ ⟨?_, ?_, k2, ?_⟩
    · exact (((a1.mono (by decide)).tr (c1.mono (by decide))).tr (g1.mono (by decide))).tr (k1.mono (by decide))
    · rw [k1 9 (by decide), g1 9 (by decide), c1 9 (by decide), a1 9 (by decide)]
    · rw [k1 9 (by decide), g1 9 (by decide), c1 9 (by decide), a1 9 (by decide)]
    · unfold mdIs
      rw [k1 0 (by decide), k1 7 (by decide)]
      exact mρ
    · intro i hi
      rw [k1 10 (by decide)]
      exact g2 i (by omega)
    · unfold mbIs
      rw [k1 0 (by decide), k1 8 (by decide), g1 0 (by decide), g1 8 (by decide)]
      exact c3
  · refine it_n (fun z => hjN ((nI_leI (by omega) (by omega)).mp z)) ?_
    have m0 := mρ.2 j (by omega) 0 (by omega)
    simp (disch := omega) only [Nat.reduceAdd, fa_lit, nI_leI, nI_ltI, nI_eq, nI_add, pk_mul, pk_sub, pk_div, nI_clamp, c_vin, c_em1, c_m1e]
    refine ⟨by omega, by omega, ?_⟩
    rintro _ rfl
    rw [show 4 * j = 4 * j + 0 by omega, m0]
    refine hrc _ _ (by omega) ⟨rfl, g1.pt (by decide), fun i hi => ?_⟩
    by_cases e : i = j
    · subst e
      exact pt_s _ _ _ _
    · rw [pt_o _ _ e]
      exact g2 i (by omega)
