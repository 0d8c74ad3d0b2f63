def kindv (b : Int32) : Int32 := if b = 115 then 0 else if b = 114 then 1 else if b = 101 then 2 else -9
def fitB (b : Int32) : Prop := b = 115 ∨ b = 114 ∨ b = 101
theorem kindv_9 {b : Int32} (h : ¬ fitB b) : kindv b = -9 := by
  unfold fitB at h
  unfold kindv
  rw [if_neg (fun z => h (Or.inl z)), if_neg (fun z => h (Or.inr (Or.inl z))), if_neg (fun z => h (Or.inr (Or.inr z)))]
theorem kindv_3 {b : Int32} (h : fitB b) : kindv b = 0 ∨ kindv b = 1 ∨ kindv b = 2 := by
  rcases h with rfl | rfl | rfl
  · exact Or.inl rfl
  · exact Or.inr (Or.inl rfl)
  · exact Or.inr (Or.inr rfl)
noncomputable def flB (b : Nat → Int32) : Nat → Nat → Option Nat
  | 0, _ => none
  | d + 1, j => by classical exact if fitB (b j) then flB b d (j + 1) else some j
theorem flB_y {b : Nat → Int32} {d j : Nat} (h : fitB (b j)) : flB b (d + 1) j = flB b d (j + 1) := if_pos h
theorem flB_n {b : Nat → Int32} {d j : Nat} (h : ¬ fitB (b j)) : flB b (d + 1) j = some j := if_neg h
theorem flB_none {b : Nat → Int32} : ∀ {d j : Nat}, flB b d j = none → ∀ i, j ≤ i → i < j + d → fitB (b i)
  | 0, j, _, i, h1, h2 => by omega
  | d + 1, j, h, i, h1, h2 => by
    by_cases c : fitB (b j)
    · rw [flB_y c] at h
      by_cases e : i = j
      · subst e; exact c
      · exact flB_none h i (by omega) (by omega)
    · rw [flB_n c] at h
      cases h
theorem flB_cong {b c : Nat → Int32} : ∀ {d j : Nat}, (∀ i, j ≤ i → i < j + d → b i = c i) → flB b d j = flB c d j
  | 0, j, _ => rfl
  | d + 1, j, h => by
    have e := h j (by omega) (by omega)
    by_cases q : fitB (b j)
    · rw [flB_y q, flB_y (by rw [← e]; exact q), flB_cong (fun i h1 h2 => h i (by omega) (by omega))]
    · rw [flB_n q, flB_n (by rw [← e]; exact q)]
noncomputable def nB (b : Nat → Int32) (n : Nat) : Nat := match flB b n 0 with
  | none => n
  | some _ => 0
theorem nB_le {b : Nat → Int32} {n : Nat} : nB b n ≤ n := by
  unfold nB
  split <;> omega
theorem nB_fit {b : Nat → Int32} {n i : Nat} (h : i < nB b n) : fitB (b i) := by
  unfold nB at h
  split at h
  · rename_i e
    exact flB_none e i (by omega) (by omega)
  · omega
/-- rests behind which bar i comes, since the note was last taken -/
def rcn (kd : Nat → Int32) : Nat → Nat
  | 0 => 0
  | i + 1 => (if kd i = 2 then 0 else rcn kd i) + (if kd i = 1 then 1 else 0)
def rb (kd : Nat → Int32) (i : Nat) : Nat := if kd i = 2 then 0 else rcn kd i
theorem rcn_s (kd : Nat → Int32) (i : Nat) : rcn kd (i + 1) = rb kd i + (if kd i = 1 then 1 else 0) := rfl
theorem rcn_le (kd : Nat → Int32) : ∀ i, rcn kd i ≤ i
  | 0 => Nat.le_refl _
  | i + 1 => by
    unfold rcn
    have := rcn_le kd i
    split <;> split <;> omega
theorem rb_le (kd : Nat → Int32) (i : Nat) : rb kd i ≤ i := by
  unfold rb
  have := rcn_le kd i
  split <;> omega
theorem s_faultB (σ : Sg) (k0 n : Nat) (hn : n ≤ 39) (hs : σ k0 2 = nI n) (K : Int32 → Prop) (h : K (enc (flB (σ (k0 + 1)) n 0))) : w_X4_faultOfSong k0 σ K := by
  unfold w_X4_faultOfSong
  refine up1 (fun j y => y = nI j ∧ flB (σ (k0 + 1)) (n - j) j = flB (σ (k0 + 1)) n 0) n ?_ 0 _ (Nat.zero_le _) ⟨rfl, rfl⟩
  rintro j rc _ hj ⟨rfl, hf⟩ hrc
  unfold F_X4_faultOfSong_2 E_X4_faultOfSong_2
  simp (disch := omega) only [Nat.reduceAdd, fa_lit, nI_leI, nI_ltI, nI_eq, nI_add, pk_mul, pk_sub, pk_div, nI_clamp, c_vin, c_em1, c_m1e, hs]
  rw [← hf] at h
  by_cases hjn : n ≤ j
  · refine it_p hjn ?_
    rw [show n - j = 0 by omega] at h
    exact h
  · refine it_n hjn ⟨by omega, ?_⟩
    rw [show n - j = (n - (j + 1)) + 1 by omega] at h hf
    by_cases c : fitB (σ (k0 + 1) j)
    · rw [flB_y c] at hf
      have nx := hrc _ (by omega) ⟨rfl, hf⟩
      refine it_c (fun _ => nx) (fun q1 => ⟨by omega, it_c (fun _ => nx) (fun q2 => ⟨by omega, it_c (fun _ => nx) (fun q3 => ?_)⟩)⟩)
      exact absurd c (by unfold fitB; exact fun z => z.elim q1 (fun z => z.elim q2 q3))
    · rw [flB_n c] at h
      exact it_n (fun z => c (Or.inl z)) ⟨by omega, it_n (fun z => c (Or.inr (Or.inl z))) ⟨by omega, it_n (fun z => c (Or.inr (Or.inr z))) h⟩⟩
theorem s_kindOf (b : Int32) (hb : fitB b) (K : Int32 → Prop) (h : K (kindv b)) : w_X3_kindOf b K := by
  unfold w_X3_kindOf
  rcases hb with rfl | rfl | rfl
  · exact it_n (by decide) (it_n (by decide) h)
  · exact it_n (by decide) (it_p rfl h)
  · exact it_p rfl h
/-- the model has read the bars -/
def mbIs (τ : Sg) (B : Nat) (kd : Nat → Int32) : Prop := τ 0 9 = nI B ∧ ∀ i, i < B → τ 8 i = kd i
theorem s_readsB (τ : Sg) (n : Nat) (hn : n ≤ 24) (hs : τ 6 1 = nI n) (K : Int32 → Sg → Prop) (h : ∀ τ', same [0, 8] τ τ' → (∀ q, q ≠ 9 → τ' 0 q = τ 0 q) → mbIs τ' (nB (fun i => τ 5 (40 + i)) n) (fun i => kindv (τ 5 (40 + i))) → K (enc (flB (fun i => τ 5 (40 + i)) n 0)) τ') : w_X7_readsBars τ K := by
  unfold w_X7_readsBars
  rintro _ rfl
  refine up2 (fun j y ρ => y = nI j ∧ flB (fun i => τ 5 (40 + i)) (n - j) j = flB (fun i => τ 5 (40 + i)) n 0 ∧ same [0, 8] τ ρ ∧ (∀ q, q ≠ 9 → ρ 0 q = τ 0 q) ∧ ρ 0 9 = nI j ∧ ∀ i, i < j → ρ 8 i = kindv (τ 5 (40 + i))) n ?_ 0 _ _ (Nat.zero_le _) ⟨rfl, rfl, same.rf.pt (by decide), fun q hq => pt_o _ _ hq, pt_s _ _ _ _, fun i hi => by omega⟩
  rintro j rc _ ρ hj ⟨rfl, hf, h1, h2, h3, h4⟩ hrc
  have h5 : ρ 5 = τ 5 := h1 5 (by decide)
  have h6 : ρ 6 1 = nI n := by rw [h1 6 (by decide)]; exact hs
  unfold F_X7_readsBars_7 E_X7_readsBars_7
  refine ⟨by unfold vp_in; decide, ?_⟩
  simp (disch := omega) only [Nat.reduceAdd, fa_lit, nI_leI, nI_ltI, nI_eq, nI_add, pk_mul, pk_sub, pk_div, nI_clamp, c_vin, c_em1, c_m1e, h5, h6]
  by_cases hjn : n ≤ j
  · refine it_p hjn ?_
    have ej : j = n := by omega
    subst ej
    rw [Nat.sub_self] at hf
    have hf : none = flB (fun i => τ 5 (40 + i)) j 0 := hf
    rw [← hf] at h
    refine h ρ h1 h2 ?_
    unfold nB
    rw [← hf]
    exact ⟨h3, h4⟩
  · refine it_n hjn ⟨by omega, ?_⟩
    rintro _ rfl
    rw [show n - j = (n - (j + 1)) + 1 by omega] at hf
    have key : ∀ v, v = kindv (τ 5 (40 + j)) → J_X7_readsBars_59 ρ K (nI j) rc v := by
      rintro _ rfl
      unfold J_X7_readsBars_59
      simp (disch := omega) only [Nat.reduceAdd, fa_lit, nI_leI, nI_ltI, nI_eq, nI_add, pk_mul, pk_sub, pk_div, nI_clamp, c_vin, c_em1, c_m1e]
      by_cases c : fitB (τ 5 (40 + j))
      · rw [flB_y (b := fun i => τ 5 (40 + i)) c] at hf
        refine it_n (fun z => ?_) ⟨by omega, ?_⟩
        · rcases kindv_3 c with e | e | e <;> rw [e] at z <;> exact absurd z (by decide)
        · rintro _ rfl _ rfl
          refine hrc _ _ (by omega) ⟨rfl, hf, (h1.pt (by decide)).pt (by decide), fun q hq => ?_, ?_, fun i hi => ?_⟩
          · rw [pt_o _ _ hq, pt_ne _ _ _ (by decide)]
            exact h2 q hq
          · rw [pt_s, pt_ne _ _ _ (by decide), h3]
            exact nI_add j 1
          · rw [pt_ne _ _ _ (by decide)]
            by_cases e : i = j
            · subst e
              exact pt_s _ _ _ _
            · rw [pt_o _ _ e]
              exact h4 i (by omega)
      · rw [flB_n (b := fun i => τ 5 (40 + i)) c] at hf
        refine it_p (kindv_9 c) ?_
        rintro _ rfl
        rw [← hf] at h
        refine h _ (h1.pt (by decide)) (fun q hq => (pt_o _ _ hq).trans (h2 q hq)) ?_
        unfold nB
        rw [← hf]
        exact ⟨pt_s _ _ _ _, fun i hi => by dsimp only at hi; omega⟩
    refine it_c (fun q => ?_) (fun q => it_c (fun q2 => ?_) (fun q2 => it_c (fun q3 => ?_) (fun q3 => ?_)))
    · exact key _ (by rw [show τ 5 (40 + j) = 115 from q]; rfl)
    · exact key _ (by rw [show τ 5 (40 + j) = 114 from q2]; rfl)
    · exact key _ (by rw [show τ 5 (40 + j) = 101 from q3]; rfl)
    · exact key _ (kindv_9 (fun z => z.elim q (fun z => z.elim q2 q3))).symm
/-- the class has read the bars -/
def soIs (σ : Sg) (B : Nat) (kd : Nat → Int32) : Prop := σ 23 0 = nI B ∧ ∀ i, i < B → σ 24 i = kd i ∧ σ 25 i = nI (rb kd i)
theorem s_parseB (σ : Sg) (n : Nat) (hn : n ≤ 24) (hs : σ 3 2 = nI n) (K : Sg → Prop) (h : ∀ σ', same [23, 24, 25] σ σ' → soIs σ' (nB (σ 4) n) (fun i => kindv (σ 4 i)) → K σ') : w_X3_parse 23 3 σ K := by
  unfold w_X3_parse
  refine s_faultB σ 3 n (by omega) hs _ ?_
  have key : ∀ B, (∀ i, i < B → fitB (σ 4 i)) → B ≤ 24 → (∀ σ', same [23, 24, 25] σ σ' → soIs σ' B (fun i => kindv (σ 4 i)) → K σ') → J_X3_parse_22 σ 23 3 K (nI B) := by
    intro B hB hB24 h
    unfold J_X3_parse_22
    rintro _ rfl
    refine up3 (fun j r y ρ => y = nI j ∧ r = nI (rcn (fun i => kindv (σ 4 i)) j) ∧ same [23, 24, 25] σ ρ ∧ ρ 23 0 = nI B ∧ ∀ i, i < j → ρ 24 i = kindv (σ 4 i) ∧ ρ 25 i = nI (rb (fun i => kindv (σ 4 i)) i)) B ?_ 0 _ _ _ (Nat.zero_le _) ⟨rfl, rfl, same.rf.pt (by decide), pt_s _ _ _ _, fun i hi => by omega⟩
    rintro j rc _ _ ρ hj ⟨rfl, rfl, h1, h2, h3⟩ hrc
    have h4 : ρ 4 = σ 4 := h1 4 (by decide)
    have hr := rcn_le (fun i => kindv (σ 4 i)) j
    unfold F_X3_parse_29 E_X3_parse_29
    simp (disch := omega) only [Nat.reduceAdd, fa_lit, nI_leI, nI_ltI, nI_eq, nI_add, pk_mul, pk_sub, pk_div, nI_clamp, c_vin, c_em1, c_m1e, h2, h4]
    by_cases hjn : B ≤ j
    · refine it_p hjn ?_
      have ej : j = B := by omega
      subst ej
      exact h ρ h1 ⟨h2, h3⟩
    · refine it_n hjn ⟨by omega, s_kindOf _ (hB j (by omega)) _ ⟨by omega, ?_⟩⟩
      rintro _ rfl
      refine ⟨by omega, ?_⟩
      rw [pt_s]
      have key2 : ∀ v : Nat, v = rb (fun i => kindv (σ 4 i)) j → J_X3_parse_67 (nI j) (pt ρ 24 j (kindv (σ 4 j))) 23 rc (nI v) := by
        rintro _ rfl
        have hb := rb_le (fun i => kindv (σ 4 i)) j
        unfold J_X3_parse_67
        simp (disch := omega) only [Nat.reduceAdd, fa_lit, nI_leI, nI_ltI, nI_eq, nI_add, pk_mul, pk_sub, pk_div, nI_clamp, c_vin, c_em1, c_m1e]
        refine ⟨by omega, ?_⟩
        rintro _ rfl
        refine ⟨by omega, ?_⟩
        rw [pt_ne _ _ _ (by decide), pt_s]
        have nx : ∀ x : Nat, x = rcn (fun i => kindv (σ 4 i)) (j + 1) → rc (nI x) (nI (j + 1)) (pt (pt ρ 24 j (kindv (σ 4 j))) 25 j (nI (rb (fun i => kindv (σ 4 i)) j))) := by
          rintro _ rfl
          refine hrc _ _ _ (by omega) ⟨rfl, rfl, (h1.pt (by decide)).pt (by decide), ?_, fun i hi => ?_⟩
          · rw [pt_ne _ _ _ (by decide), pt_ne _ _ _ (by decide)]
            exact h2
          · by_cases e : i = j
            · subst e
              exact ⟨by rw [pt_ne _ _ _ (by decide), pt_s], by rw [pt_s]⟩
            · rw [pt_ne _ _ _ (by decide), pt_o _ _ e, pt_o _ _ e, pt_ne _ _ _ (by decide)]
              exact h3 i (by omega)
        refine it_c (fun q => ?_) (fun q => ?_)
        · refine nx _ ?_
          rw [rcn_s, if_pos (show kindv (σ 4 j) = 1 from q)]
        · refine nx _ ?_
          rw [rcn_s, if_neg (show ¬ kindv (σ 4 j) = 1 from q)]
      refine it_c (fun q => ?_) (fun q => ?_)
      · exact key2 0 (by unfold rb; rw [if_pos (show kindv (σ 4 j) = 2 from q)])
      · exact key2 _ (by unfold rb; rw [if_neg (show ¬ kindv (σ 4 j) = 2 from q)])
  cases hf : flB (σ (3 + 1)) n 0 with
  | none =>
    have hf : flB (σ 4) n 0 = none := hf
    refine it_p rfl ?_
    rintro _ rfl
    have e : (if (24 : Int32) < σ 3 2 then (24 : Int32) else σ 3 2) = nI n := by
      rw [hs, if_neg]
      simp (disch := omega) only [Nat.reduceAdd, fa_lit, nI_leI, nI_ltI, nI_eq, nI_add, pk_mul, pk_sub, pk_div, nI_clamp, c_vin, c_em1, c_m1e]
      omega
    rw [e]
    have eB : nB (σ 4) n = n := by unfold nB; rw [hf]
    refine key n (fun i hi => nB_fit (by rw [eB]; exact hi)) hn (fun σ' a b => h σ' a (by rw [eB]; exact b))
  | some q =>
    have hf : flB (σ 4) n 0 = some q := hf
    have hq : enc (some q) ≠ -1 := nI_m1 (by
      have : ∀ {d j q}, flB (σ 4) d j = some q → q < j + d := by
        intro d
        induction d with
        | zero => intro j q h; cases h
        | succ d ih =>
          intro j q h
          by_cases c : fitB (σ 4 j)
          · rw [flB_y c] at h
            have := ih h
            omega
          · rw [flB_n c] at h
            cases h
            omega
      have := this hf
      omega)
    refine it_n hq ?_
    have eB : nB (σ 4) n = 0 := by unfold nB; rw [hf]
    exact key 0 (fun i hi => by omega) (by omega) (fun σ' a b => h σ' a (by rw [eB]; exact b))
