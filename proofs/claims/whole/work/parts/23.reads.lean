theorem it_same {c A : Prop} [Decidable c] (a : A) : if c then A else A := by by_cases h : c <;> simp [h, a]
/-- how many singers a text tells -/
def nS (b : Nat → Int32) (n : Nat) : Nat := match flt b n n 0 with
  | none => (n + 1) / 5
  | some _ => 0
/-- what it tells of singer k: place, ear, sinking, hearing -/
def dS (b : Nat → Int32) (j k : Nat) : Int32 := tell j (b (5 * k + j))
theorem nS_le {b : Nat → Int32} {n : Nat} (h : n ≤ 39) : nS b n ≤ 8 := by
  unfold nS
  split <;> omega
theorem nS_fit {b : Nat → Int32} {n k j : Nat} (hk : k < nS b n) (hj : j < 4) : 5 * k + j < n ∧ fitS j (b (5 * k + j)) = true := by
  unfold nS at hk
  split at hk
  · rename_i h
    obtain ⟨h1, h2⟩ := flt_none h
    have h3 : 5 * k + j < n := by omega
    have h4 := h2 (5 * k + j) (by omega) (by omega)
    rw [show (5 * k + j) % 5 = j by omega] at h4
    exact ⟨h3, h4⟩
  · omega
/-- a choir's data as they may be -/
def okC (N : Nat) (d : Nat → Nat → Int32) : Prop := N ≤ 8 ∧ ∀ k, k < N → dig (d 0 k) ∧ dig (d 1 k) ∧ dig (d 2 k) ∧ (d 3 k = 0 ∨ d 3 k = 1)
theorem okC_S {b : Nat → Int32} {n : Nat} (h : n ≤ 39) : okC (nS b n) (dS b) := by
  refine ⟨nS_le h, fun k hk => ⟨(tell_dig (by omega) (nS_fit hk (by omega)).2).1, (tell_dig (by omega) (nS_fit hk (by omega)).2).1, (tell_dig (by omega) (nS_fit hk (by omega)).2).1, (tell_h (nS_fit hk (by omega)).2).2⟩⟩
/-- the model has read the singers -/
def mdIs (τ : Sg) (N : Nat) (d : Nat → Nat → Int32) : Prop := τ 0 7 = nI N ∧ ∀ k, k < N → ∀ j, j < 4 → τ 7 (4 * k + j) = d j k
theorem s_readsS (τ : Sg) (n : Nat) (hn : n ≤ 39) (hs : τ 6 0 = nI n) (K : Int32 → Sg → Prop) (h : ∀ τ', same [0, 7] τ τ' → (∀ q, q ≠ 7 → τ' 0 q = τ 0 q) → mdIs τ' (nS (τ 5) n) (dS (τ 5)) → K (enc (flt (τ 5) n n 0)) τ') : w_X7_readsSingers τ K := by
  unfold w_X7_readsSingers
  rintro _ rfl
  refine ⟨by unfold vp_in; decide, ?_⟩
  rintro _ rfl
  rw [pt_ne _ _ _ (by decide), show (0 : Int32).toNatClampNeg = 0 by decide, hs]
  refine up2 (fun j y ρ => y = nI j ∧ flt (τ 5) n (n - j) j = flt (τ 5) n n 0 ∧ same [0, 7] τ ρ ∧ (∀ q, q ≠ 7 → ρ 0 q = τ 0 q) ∧ ρ 0 7 = nI ((j + 1) / 5) ∧ ∀ i, i < j → i % 5 < 4 → ρ 7 (4 * (i / 5) + i % 5) = tell (i % 5) (τ 5 i)) n ?_ 0 _ _ (Nat.zero_le _) ⟨rfl, rfl, same.rf.pt (by decide), fun q hq => pt_o _ _ hq, pt_s _ _ _ _, fun i hi => by omega⟩
  rintro j rc _ ρ hj ⟨rfl, hf, h1, h2, h3, h4⟩ hrc
  have h5 : ρ 5 = τ 5 := h1 5 (by decide)
  unfold F_X7_readsSingers_14 E_X7_readsSingers_14 J_X7_readsSingers_68
  simp (disch := omega) only [Nat.reduceAdd, fa_lit, nI_leI, nI_ltI, nI_eq, nI_add, pk_mul, pk_sub, pk_div, nI_clamp, c_vin, c_em1, c_m1e, h5]
  by_cases hjn : n ≤ j
  · refine it_p hjn ?_
    have ej : j = n := by omega
    subst ej
    rw [Nat.sub_self, flt_0] at hf
    by_cases c0 : j ≤ 0
    · refine it_p c0 ?_
      rw [if_pos (by omega)] at hf
      rw [← hf] at h
      refine h ρ h1 h2 ?_
      unfold nS
      rw [← hf]
      exact ⟨h3, fun k hk => by dsimp only at hk; omega⟩
    · refine it_n c0 ?_
      by_cases c4 : j % 5 = 4
      · refine it_p (by omega) ?_
        rw [if_pos (by omega)] at hf
        rw [← hf] at h
        refine h ρ h1 h2 ?_
        unfold nS
        rw [← hf]
        refine ⟨h3, fun k hk q hq => ?_⟩
        dsimp only at hk
        have := h4 (5 * k + q) (by omega) (by omega)
        rw [show (5 * k + q) / 5 = k by omega, show (5 * k + q) % 5 = q by omega] at this
        exact this
      · refine it_n (by omega) ?_
        rintro _ rfl
        rw [if_neg (by omega)] at hf
        rw [← hf] at h
        refine h _ (h1.pt (by decide)) (fun q hq => (pt_o _ _ hq).trans (h2 q hq)) ?_
        unfold nS
        rw [← hf]
        exact ⟨pt_s _ _ _ _, fun k hk => by dsimp only at hk; omega⟩
  · refine it_n hjn ?_
    rintro _ rfl
    have e5 : j - j / 5 * 5 = j % 5 := by omega
    simp (disch := omega) only [Nat.reduceAdd, fa_lit, nI_leI, nI_ltI, nI_eq, nI_add, pk_mul, pk_sub, pk_div, nI_clamp, c_vin, c_em1, c_m1e, e5]
    refine ⟨by omega, s_tells (j % 5) (by omega) _ _ ?_⟩
    rw [show n - j = (n - (j + 1)) + 1 by omega, flt_s] at hf
    by_cases c : fitS (j % 5) (τ 5 j) = true
    · rw [if_pos c] at hf
      refine it_n (fun z => by rw [tell_fit.mp z] at c; cases c) ?_
      by_cases ck : 4 ≤ j % 5
      · refine it_p ck (it_n (by omega) ?_)
        rintro _ rfl
        refine hrc _ _ (by omega) ⟨rfl, hf, h1.pt (by decide), fun q hq => (pt_o _ _ hq).trans (h2 q hq), ?_, fun i hi hi5 => ?_⟩
        · rw [pt_s, h3, nI_add]
          congr 1
          omega
        · rw [pt_ne _ _ _ (by decide)]
          exact h4 i (by omega) hi5
      · refine it_n ck ⟨by omega, ?_⟩
        rintro _ rfl
        have ei : ∀ i, i < j + 1 → i % 5 < 4 → pt ρ 7 (4 * (j / 5) + j % 5) (tell (j % 5) (τ 5 j)) 7 (4 * (i / 5) + i % 5) = tell (i % 5) (τ 5 i) := by
          intro i hi hi5
          by_cases e : i = j
          · subst e
            exact pt_s _ _ _ _
          · rw [pt_o _ _ (by omega)]
            exact h4 i (by omega) hi5
        have e0 : ∀ q, pt ρ 7 (4 * (j / 5) + j % 5) (tell (j % 5) (τ 5 j)) 0 q = ρ 0 q := fun q => by rw [pt_ne _ _ _ (by decide)]
        by_cases c3 : j % 5 = 3
        · refine it_p c3 ?_
          rintro _ rfl
          refine hrc _ _ (by omega) ⟨rfl, hf, (h1.pt (by decide)).pt (by decide), fun q hq => (pt_o _ _ hq).trans ((e0 q).trans (h2 q hq)), ?_, fun i hi hi5 => ?_⟩
          · rw [pt_s, e0, h3, nI_add]
            congr 1
            omega
          · rw [pt_ne _ _ _ (by decide)]
            exact ei i hi hi5
        · refine it_n c3 ?_
          rintro _ rfl
          refine hrc _ _ (by omega) ⟨rfl, hf, (h1.pt (by decide)).pt (by decide), fun q hq => (pt_o _ _ hq).trans ((e0 q).trans (h2 q hq)), ?_, fun i hi hi5 => ?_⟩
          · rw [pt_s, e0, h3, nI_add]
            congr 1
            omega
          · rw [pt_ne _ _ _ (by decide)]
            exact ei i hi hi5
    · rw [if_neg c] at hf
      refine it_p (tell_fit.mpr (by simpa using c)) ?_
      rintro _ rfl
      rw [← hf] at h
      refine h _ (h1.pt (by decide)) (fun q hq => (pt_o _ _ hq).trans (h2 q hq)) ?_
      unfold nS
      rw [← hf]
      exact ⟨pt_s _ _ _ _, fun k hk => by dsimp only at hk; omega⟩
