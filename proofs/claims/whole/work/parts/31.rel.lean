theorem flt_cong {b c1 : Nat → Int32} {n : Nat} : ∀ {d1 j : Nat}, (∀ i, j ≤ i → i < j + d1 → b i = c1 i) → flt b n d1 j = flt c1 n d1 j
  | 0, j, _ => rfl
  | d1 + 1, j, h => by
    rw [flt_s, flt_s, h j (by omega) (by omega), flt_cong (fun i h1 h2 => h i (by omega) (by omega))]
theorem nS_cong {b c1 : Nat → Int32} {n : Nat} (h : ∀ i, i < n → b i = c1 i) : nS b n = nS c1 n := by
  unfold nS
  rw [flt_cong (c1 := c1) (fun i _ h2 => h i (by omega))]
theorem s_readsS2 (τ : Sg) (b1 : Nat → Int32) (n : Nat) (hn : n ≤ 39) (hs : τ 6 0 = nI n) (hb : ∀ i, i < n → τ 5 i = b1 i) (K : Int32 → Sg → Prop) (h : ∀ τ', same [0, 7] τ τ' → (∀ q, q ≠ 7 → τ' 0 q = τ 0 q) → mdIs τ' (nS b1 n) (dS b1) → K (enc (flt b1 n n 0)) τ') : w_X7_readsSingers τ K := by
  refine s_readsS τ n hn hs K (fun τ1 g1 g2 g3 => ?_)
  rw [flt_cong (c1 := b1) (fun i _ h2 => hb i (by omega))]
  refine h τ1 g1 g2 ?_
  rw [nS_cong hb] at g3
  refine ⟨g3.1, fun k hk j hj => ?_⟩
  rw [g3.2 k hk j hj]
  unfold dS
  rw [hb _ (nS_fit hk hj).1]
theorem s_readsB2 (τ : Sg) (b1 : Nat → Int32) (n : Nat) (hn : n ≤ 24) (hs : τ 6 1 = nI n) (hb : ∀ i, i < n → τ 5 (40 + i) = b1 i) (K : Int32 → Sg → Prop) (h : ∀ τ', same [0, 8] τ τ' → (∀ q, q ≠ 9 → τ' 0 q = τ 0 q) → mbIs τ' (nB b1 n) (fun i => kindv (b1 i)) → K (enc (flB b1 n 0)) τ') : w_X7_readsBars τ K := by
  have e1 : flB (fun i => τ 5 (40 + i)) n 0 = flB b1 n 0 := flB_cong (fun i _ h2 => hb i (by omega))
  have e2 : nB (fun i => τ 5 (40 + i)) n = nB b1 n := by unfold nB; rw [e1]
  refine s_readsB τ n hn hs K (fun τ1 g1 g2 g3 => ?_)
  rw [e1]
  refine h τ1 g1 g2 ?_
  rw [e2] at g3
  refine ⟨g3.1, fun i hi => ?_⟩
  rw [g3.2 i hi]
  have := nB_le (b := b1) (n := n)
  show kindv (τ 5 (40 + i)) = kindv (b1 i)
  rw [hb i (by omega)]
theorem s_find2 (τ : Sg) (b1 b2 : Nat → Int32) (n0 n1 : Nat) (h0 : n0 ≤ 39) (h1 : n1 ≤ 24) (e0 : τ 6 0 = nI n0) (e1 : τ 6 1 = nI n1) (hb1 : ∀ i, i < n0 → τ 5 i = b1 i) (hb2 : ∀ i, i < n1 → τ 5 (40 + i) = b2 i) (K : Sg → Prop) (h : ∀ τ', kpM τ τ' → τ' 9 = τ 9 → fdIs τ' (nS b1 n0) (dS b1 0) (dS b1) (nB b2 n1) (fun i => kindv (b2 i)) → K τ') : w_X7_find τ K := by
  have ok := okC_S (b := b1) h0
  unfold w_X7_find
  refine s_readsS2 τ b1 n0 h0 e0 hb1 _ (fun τ1 a1 a2 a3 => ?_)
  have c6 : τ1 6 = τ 6 := a1 6 (by decide)
  have c5 : τ1 5 = τ 5 := a1 5 (by decide)
  refine s_readsB2 τ1 b2 n1 h1 (by rw [c6]; exact e1) (fun i hi => by rw [c5]; exact hb2 i hi) _ (fun τ2 c1 c2 c3 => ?_)
  have m2 : mdIs τ2 (nS b1 n0) (dS b1) := by
    unfold mdIs
    rw [c2 7 (by decide), c1 7 (by decide)]
    exact a3
  refine up2 (fun j y ρ => y = nI j ∧ same [10] τ2 ρ ∧ ∀ i, i < j → ρ 10 i = dS b1 0 i) (nS b1 n0) ?_ 0 _ _ (Nat.zero_le _) ⟨rfl, same.rf, fun i hi => by omega⟩
  rintro j rc _ ρ hj ⟨rfl, g1, g2⟩ hrc
  have mρ : mdIs ρ (nS b1 n0) (dS b1) := by
    unfold mdIs
    rw [g1 0 (by decide), g1 7 (by decide)]
    exact m2
  have hN := ok.1
  unfold F_X7_find_12 E_X7_find_12
  rw [mρ.1]
  by_cases hjN : nS b1 n0 ≤ j
  · refine it_p ((nI_leI (by omega) (by omega)).mpr hjN) ?_
    have ej : j = nS b1 n0 := by omega
    refine s_findNotes ρ (nS b1 n0) (dS b1 0) (dS b1) hN mρ (fun i hi => g2 i (by omega)) _ (fun τ3 k1 k2 => ?_)
    have zz : ∀ q, q ≠ 7 → q ≠ 9 → τ3 0 q = τ 0 q := fun q q1 q2 => by rw [k1 0 (by decide), g1 0 (by decide), c2 q q2, a2 q q1]
    refine h τ3 ⟨?_, zz 4 (by decide) (by decide), zz 18 (by decide) (by decide), fun i _ => ?_⟩ ?_ ⟨?_, ?_, k2, ?_⟩
    · exact (((a1.mono (by decide)).tr (c1.mono (by decide))).tr (g1.mono (by decide))).tr (k1.mono (by decide))
    · rw [k1 9 (by decide), g1 9 (by decide), c1 9 (by decide), a1 9 (by decide)]
    · rw [k1 9 (by decide), g1 9 (by decide), c1 9 (by decide), a1 9 (by decide)]
    · unfold mdIs
      rw [k1 0 (by decide), k1 7 (by decide)]
      exact mρ
    · intro i hi
      rw [k1 10 (by decide)]
      exact g2 i (by omega)
    · unfold mbIs
      rw [k1 0 (by decide), k1 8 (by decide), g1 0 (by decide), g1 8 (by decide)]
      exact c3
  · refine it_n (fun z => hjN ((nI_leI (by omega) (by omega)).mp z)) ?_
    have m0 := mρ.2 j (by omega) 0 (by omega)
    simp (disch := omega) only [Nat.reduceAdd, fa_lit, nI_leI, nI_ltI, nI_eq, nI_add, pk_mul, pk_sub, pk_div, nI_clamp, c_vin, c_em1, c_m1e]
    refine ⟨by omega, by omega, ?_⟩
    rintro _ rfl
    rw [show 4 * j = 4 * j + 0 by omega, m0]
    refine hrc _ _ (by omega) ⟨rfl, g1.pt (by decide), fun i hi => ?_⟩
    by_cases e : i = j
    · subst e
      exact pt_s _ _ _ _
    · rw [pt_o _ _ e]
      exact g2 i (by omega)
/-- texts: the same bytes; what the class keeps of them -/
def relT (σ τ : Sg) (n0 n1 : Nat) : Prop := n0 ≤ 39 ∧ n1 ≤ 24 ∧ σ 1 1 = nI 39 ∧ σ 3 1 = nI 24 ∧ σ 1 2 = nI n0 ∧ σ 3 2 = nI n1 ∧ τ 6 0 = nI n0 ∧ τ 6 1 = nI n1 ∧ (∀ i, i < n0 → τ 5 i = σ 2 i) ∧ ∀ i, i < n1 → τ 5 (40 + i) = σ 4 i
def relP (σ : Sg) (n0 n1 : Nat) : Prop := clIs σ 5 (nS (σ 2) n0) (dS (σ 2) 0) (dS (σ 2)) ∧ nbIs σ 5 (nS (σ 2) n0) (dS (σ 2) 0) ∧ soIs σ (nB (σ 4) n1) (fun i => kindv (σ 4 i))
def relV (σ τ : Sg) : Prop := (∀ j, j < 4 → τ 9 j = σ 26 j) ∧ okT (σ 26 0) (σ 26 1) (σ 26 2) ∧ ∃ c1 : Nat, c1 < 100 ∧ σ 26 3 = nI c1
def relH (σ τ : Sg) : Prop := ∃ nh : Nat, nh ≤ 8 ∧ σ 28 0 = nI nh ∧ τ 0 18 = nI nh ∧ ∀ i, i < nh → τ 16 (3 * i) = σ 29 i ∧ τ 16 (3 * i + 1) = σ 30 i ∧ τ 16 (3 * i + 2) = σ 31 i ∧ (∃ b1 : Nat, b1 < 24 ∧ σ 29 i = nI b1) ∧ (∃ k1 : Nat, k1 < 8 ∧ σ 30 i = nI k1) ∧ ∃ x1 : Nat, x1 ≤ 2000 ∧ σ 31 i = nI x1
def relS1 (σ τ : Sg) (s : Nat) : Prop := τ 1 s = σ (33 + 2 * s) 1 ∧ (σ (33 + 2 * s) 1 = -1 ∨ ∃ f1 m1 : Nat, f1 < 3 ∧ m1 ≤ 60 ∧ σ (33 + 2 * s) 1 = nI f1 ∧ σ (33 + 2 * s) 2 = nI m1 ∧ τ 2 s = nI m1 ∧ ∀ i, i < m1 → τ 3 (60 * s + i) = σ (34 + 2 * s) i)
def Rel (σ τ : Sg) : Prop := (∃ n0 n1, relT σ τ n0 n1 ∧ relP σ n0 n1) ∧ relV σ τ ∧ relH σ τ ∧ (∀ s, s < 4 → relS1 σ τ s) ∧ σ 0 11 = τ 0 4
theorem Rel.kp {σ τ τ' : Sg} (h : Rel σ τ) (hk : kpM τ τ') : Rel σ τ' := by
  obtain ⟨⟨n0, n1, h1, h2⟩, h3, h4, h5, h6⟩ := h
  obtain ⟨s1, s2, s3, s4⟩ := hk
  refine ⟨⟨n0, n1, ?_, h2⟩, ?_, ?_, ?_, ?_⟩
  · unfold relT
    rw [s1 6 (by decide), s1 5 (by decide)]
    exact h1
  · exact ⟨fun j hj => by rw [s4 j hj]; exact h3.1 j hj, h3.2⟩
  · unfold relH
    rw [s3, s1 16 (by decide)]
    exact h4
  · intro s hs
    unfold relS1
    rw [s1 1 (by decide), s1 2 (by decide), s1 3 (by decide)]
    exact h5 s hs
  · rw [s2]
    exact h6
/-- cells of the class that only serve a call -/
abbrev scr : List Nat := [14, 15, 16, 17, 18, 19, 20, 21, 22, 27, 41, 42]
theorem Rel.ks {σ σ' τ : Sg} (h : Rel σ τ) (hk : same scr σ σ') : Rel σ' τ := by
  have e : ∀ q, q ∉ scr → σ' q = σ q := hk
  obtain ⟨⟨n0, n1, h1, h2⟩, h3, h4, h5, h6⟩ := h
  refine ⟨⟨n0, n1, ?_, ?_⟩, ?_, ?_, ?_, ?_⟩
  · unfold relT
    rw [e 1 (by decide), e 3 (by decide), e 2 (by decide), e 4 (by decide)]
    exact h1
  · unfold relP clIs chIs lkAt nbIs soIs
    rw [e 2 (by decide), e 4 (by decide), e 5 (by decide), e (5 + 1) (by decide), e (5 + 2) (by decide), e (5 + 3) (by decide), e (5 + 4) (by decide), e (5 + 5) (by decide), e (5 + 6) (by decide), e (5 + 7) (by decide), e (5 + 8) (by decide), e 23 (by decide), e 24 (by decide), e 25 (by decide)]
    exact h2
  · unfold relV
    rw [e 26 (by decide)]
    exact h3
  · unfold relH
    rw [e 28 (by decide), e 29 (by decide), e 30 (by decide), e 31 (by decide)]
    exact h4
  · intro s hs
    have q1 : σ' (33 + 2 * s) = σ (33 + 2 * s) := e _ (by simp [scr]; omega)
    have q2 : σ' (34 + 2 * s) = σ (34 + 2 * s) := e _ (by simp [scr]; omega)
    unfold relS1
    rw [q1, q2]
    exact h5 s hs
  · rw [e 0 (by decide)]
    exact h6
theorem Rel_0 : Rel σC0 σM0 := by
  have hS : nS (σC0 2) 0 = 0 := rfl
  refine ⟨⟨0, 0, ⟨by omega, by omega, rfl, rfl, rfl, rfl, rfl, rfl, fun i hi => by omega, fun i hi => by omega⟩, ⟨⟨⟨rfl, fun i hi => ?_⟩, fun i hi => ?_⟩, fun i hi => ?_, ⟨rfl, fun i hi => ?_⟩⟩⟩, ⟨?_, ⟨⟨40, by omega, rfl⟩, ⟨0, by omega, rfl⟩, 9, by omega, rfl⟩, 10, by omega, rfl⟩, ⟨0, by omega, rfl, rfl, fun i hi => by omega⟩, ?_, rfl⟩
  · rw [hS] at hi; omega
  · rw [hS] at hi; omega
  · rw [hS] at hi; omega
  · have : nB (σC0 4) 0 ≤ 0 := nB_le
    omega
  · intro j hj
    rcases (show j = 0 ∨ j = 1 ∨ j = 2 ∨ j = 3 by omega) with rfl | rfl | rfl | rfl <;> decide
  · intro s hs
    rcases (show s = 0 ∨ s = 1 ∨ s = 2 ∨ s = 3 by omega) with rfl | rfl | rfl | rfl
    · exact ⟨by decide, Or.inl (by decide)⟩
    · exact ⟨by decide, Or.inl (by decide)⟩
    · exact ⟨by decide, Or.inl (by decide)⟩
    · exact ⟨by decide, Or.inl (by decide)⟩
