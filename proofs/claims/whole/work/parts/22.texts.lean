theorem s_in {x l h : Int32} {lo hi : Int64} (hl : l.toInt64 = lo) (hh : h.toInt64 = hi) (K : Int32 → Prop) (h1 : l ≤ x → x ≤ h → K 1) (h0 : ¬ (l ≤ x ∧ x ≤ h) → K 0) : w_X7_in x.toInt64 lo hi K := by
  subst hl
  subst hh
  unfold w_X7_in
  have e1 : lg_cmp x.toInt64 l.toInt64 < 0 ↔ x < l := by
    rw [← fa_wide_lt x l]
    unfold lg_cmp
    constructor
    · intro q
      split at q
      · exact absurd q (by decide)
      · split at q
        · exact absurd q (by decide)
        · rename_i a b
          rw [fa_lt64]
          rw [gt_iff_lt, fa_lt64] at a
          rw [fa_eq64] at b
          omega
    · intro q
      rw [if_neg (by rw [gt_iff_lt, fa_lt64]; rw [fa_lt64] at q; omega), if_neg (by rw [fa_eq64]; rw [fa_lt64] at q; omega)]
      decide
  have e2 : 0 < lg_cmp x.toInt64 h.toInt64 ↔ h < x := by
    rw [← fa_wide_lt h x]
    unfold lg_cmp
    constructor
    · intro q
      split at q
      · assumption
      · split at q
        · exact absurd q (by decide)
        · exact absurd q (by decide)
    · intro q
      rw [if_pos q]
      decide
  by_cases c1 : x < l
  · exact it_p (e1.mpr c1) (h0 (fun z => i_nle c1 z.1))
  · refine it_n (fun z => c1 (e1.mp z)) ?_
    by_cases c2 : h < x
    · exact it_p (e2.mpr c2) (h0 (fun z => i_nle c2 z.2))
    · exact it_n (fun z => c2 (e2.mp z)) (h1 (fa_of_nlt c1) (fa_of_nlt c2))
def fitS (k : Nat) (b : Int32) : Bool := if k = 3 then decide (b = 104) || decide (b = 110) else if k = 4 then decide (b = 59) else decide (48 ≤ b) && decide (b ≤ 57)
def tell (k : Nat) (b : Int32) : Int32 := if k = 4 then (if b = 59 then 0 else -9) else if k = 3 then (if b = 104 then 1 else if b = 110 then 0 else -9) else if 48 ≤ b ∧ b ≤ 57 then b - 48 else -9
theorem s_fits (k : Nat) (hk : k < 5) (b : Int32) (K : Int32 → Prop) (h : K (if fitS k b = true then 1 else 0)) : w_X4_fitsSinger (nI k) b K := by
  unfold w_X4_fitsSinger
  unfold fitS at h
  have e3 : (nI k = (3 : Int32)) ↔ k = 3 := nI_eq (b := 3) (by omega) (by omega)
  have e4 : (nI k = (4 : Int32)) ↔ k = 4 := nI_eq (b := 4) (by omega) (by omega)
  by_cases c3 : k = 3
  · refine it_p (e3.mpr c3) ?_
    rw [if_pos c3] at h
    refine it_c (fun c => ?_) (fun c => it_c (fun c' => ?_) (fun c' => ?_))
    · simpa [c] using h
    · simpa [c, c'] using h
    · simpa [c, c'] using h
  · refine it_n (fun z => c3 (e3.mp z)) ?_
    rw [if_neg c3] at h
    by_cases c4 : k = 4
    · refine it_p (e4.mpr c4) ?_
      rw [if_pos c4] at h
      refine it_c (fun c => ?_) (fun c => ?_)
      · simpa [c] using h
      · simpa [c] using h
    · refine it_n (fun z => c4 (e4.mp z)) ?_
      rw [if_neg c4] at h
      refine it_c (fun c => ?_) (fun c => it_c (fun c' => ?_) (fun c' => ?_))
      · have : ¬ (48 : Int32) ≤ b := i_nle c
        simpa [this] using h
      · have : ¬ b ≤ (57 : Int32) := i_nle c'
        simpa [this] using h
      · have h1 : (48 : Int32) ≤ b := fa_of_nlt c
        have h2 : b ≤ (57 : Int32) := fa_of_nlt c'
        simpa [h1, h2] using h
theorem s_tells (k : Nat) (hk : k < 5) (b : Int32) (K : Int32 → Prop) (h : K (tell k b)) : w_X7_tellsOf (nI k) b K := by
  unfold w_X7_tellsOf
  unfold tell at h
  have e3 : (nI k = (3 : Int32)) ↔ k = 3 := nI_eq (b := 3) (by omega) (by omega)
  have e4 : (nI k = (4 : Int32)) ↔ k = 4 := nI_eq (b := 4) (by omega) (by omega)
  by_cases c4 : k = 4
  · refine it_p (e4.mpr c4) ?_
    rw [if_pos c4] at h
    refine it_c (fun c => ?_) (fun c => ?_)
    · rwa [if_pos c] at h
    · rwa [if_neg c] at h
  · refine it_n (fun z => c4 (e4.mp z)) ?_
    rw [if_neg c4] at h
    by_cases c3 : k = 3
    · refine it_p (e3.mpr c3) ?_
      rw [if_pos c3] at h
      refine it_c (fun c => ?_) (fun c => it_c (fun c' => ?_) (fun c' => ?_))
      · rwa [if_pos c] at h
      · rwa [if_neg c, if_pos c'] at h
      · rwa [if_neg c, if_neg c'] at h
    · refine it_n (fun z => c3 (e3.mp z)) ?_
      rw [if_neg c3] at h
      refine s_in (l := 48) (h := 57) (by decide) (by decide) _ (fun a c => ?_) (fun c => ?_)
      · rw [if_pos ⟨a, c⟩] at h
        exact it_n (by decide) h
      · rw [if_neg c] at h
        exact it_p rfl h
theorem dig_of {b : Int32} (h : 48 ≤ b ∧ b ≤ 57) : dig (b - 48) := by
  obtain ⟨h1, h2⟩ := h
  rw [fa_le] at h1 h2
  have e1 : (48 : Int32).toInt = 48 := by decide
  have e2 : (57 : Int32).toInt = 57 := by decide
  rw [e1] at h1
  rw [e2] at h2
  refine ⟨(b.toInt - 48).toNat, by omega, ?_⟩
  rw [fa_eq, fb_subI (by rw [e1]; omega) (by rw [e1]; omega), nI_toInt (by omega), e1]
  omega
theorem dig_m9 {x : Int32} (h : dig x) : x ≠ -9 := by
  obtain ⟨n, hn, rfl⟩ := h
  intro e
  have h1 := congrArg Int32.toInt e
  rw [nI_toInt (by omega)] at h1
  have h2 : (-9 : Int32).toInt = -9 := by decide
  omega
theorem tell_fit {k : Nat} {b : Int32} : tell k b = -9 ↔ fitS k b = false := by
  unfold tell fitS
  by_cases c4 : k = 4
  · subst c4
    simp only [if_true, if_neg (show ¬ (4 : Nat) = 3 by decide)]
    by_cases c : b = 59
    · simp [c]
    · simp [c]
  · by_cases c3 : k = 3
    · subst c3
      simp only [if_true, if_neg (show ¬ (3 : Nat) = 4 by decide)]
      by_cases c : b = 104
      · simp [c]
      · by_cases c' : b = 110
        · simp [c']
        · simp [c, c']
    · rw [if_neg c4, if_neg c3, if_neg c3, if_neg c4]
      by_cases c : 48 ≤ b ∧ b ≤ 57
      · rw [if_pos c]
        have := dig_m9 (dig_of c)
        simp [this, c.1, c.2]
      · rw [if_neg c]
        simp only [true_iff, Bool.and_eq_false_iff, decide_eq_false_iff_not]
        by_cases c1 : 48 ≤ b
        · exact Or.inr (fun z => c ⟨c1, z⟩)
        · exact Or.inl c1
theorem tell_dig {k : Nat} {b : Int32} (hk : k < 3) (h : fitS k b = true) : dig (tell k b) ∧ tell k b = b - 48 := by
  unfold fitS at h
  rw [if_neg (by omega), if_neg (by omega)] at h
  simp only [Bool.and_eq_true, decide_eq_true_eq] at h
  unfold tell
  rw [if_neg (by omega), if_neg (by omega), if_pos h]
  exact ⟨dig_of h, rfl⟩
theorem tell_h {b : Int32} (h : fitS 3 b = true) : tell 3 b = (if b = 104 then 1 else 0) ∧ (tell 3 b = 0 ∨ tell 3 b = 1) := by
  unfold fitS at h
  simp only [if_true, Bool.or_eq_true, decide_eq_true_eq] at h
  unfold tell
  rw [if_neg (by decide), if_pos rfl]
  rcases h with h | h
  · subst h
    exact ⟨rfl, Or.inr rfl⟩
  · subst h
    exact ⟨rfl, Or.inl rfl⟩
/-- the fault of the singers' text, from place j on, d bytes being left -/
def flt (b : Nat → Int32) (n : Nat) : Nat → Nat → Option Nat
  | 0, _ => if n = 0 ∨ n % 5 = 4 then none else some n
  | d + 1, j => if fitS (j % 5) (b j) = true then flt b n d (j + 1) else some j
theorem flt_0 {b : Nat → Int32} {n j : Nat} : flt b n 0 j = if n = 0 ∨ n % 5 = 4 then none else some n := rfl
theorem flt_s {b : Nat → Int32} {n d j : Nat} : flt b n (d + 1) j = if fitS (j % 5) (b j) = true then flt b n d (j + 1) else some j := rfl
theorem flt_none {b : Nat → Int32} {n : Nat} : ∀ {d j : Nat}, flt b n d j = none → (n = 0 ∨ n % 5 = 4) ∧ ∀ i, j ≤ i → i < j + d → fitS (i % 5) (b i) = true
  | 0, j, h => by
    unfold flt at h
    split at h
    · exact ⟨by assumption, fun i h1 h2 => by omega⟩
    · cases h
  | d + 1, j, h => by
    unfold flt at h
    split at h
    · rename_i hf
      obtain ⟨h1, h2⟩ := flt_none h
      refine ⟨h1, fun i h3 h4 => ?_⟩
      by_cases e : i = j
      · subst e; exact hf
      · exact h2 i (by omega) (by omega)
    · cases h
theorem s_faultS (σ : Sg) (k0 n : Nat) (hn : n ≤ 39) (hs : σ k0 2 = nI n) (K : Int32 → Prop) (h : K (enc (flt (σ (k0 + 1)) n n 0))) : w_X4_faultOfSingers k0 σ K := by
  unfold w_X4_faultOfSingers
  refine up1 (fun j y => y = nI j ∧ flt (σ (k0 + 1)) n (n - j) j = flt (σ (k0 + 1)) n n 0) n ?_ 0 _ (Nat.zero_le _) ⟨rfl, rfl⟩
  rintro j rc _ hj ⟨rfl, hf⟩ hrc
  unfold F_X4_faultOfSingers_2 E_X4_faultOfSingers_2
  simp (disch := omega) only [Nat.reduceAdd, fa_lit, nI_leI, nI_ltI, nI_eq, nI_add, pk_mul, pk_sub, pk_div, nI_clamp, c_vin, c_em1, c_m1e, hs]
  rw [← hf] at h
  by_cases hjn : n ≤ j
  · refine it_p hjn ?_
    rw [show n - j = 0 by omega, flt_0] at h
    by_cases c0 : n = 0
    · rw [if_pos (Or.inl c0)] at h
      exact it_p c0 h
    · refine it_n c0 ?_
      by_cases c4 : n % 5 = 4
      · rw [if_pos (Or.inr c4)] at h
        exact it_p (by omega) h
      · rw [if_neg (by omega)] at h
        exact it_n (by omega) h
  · refine it_n hjn ⟨by omega, ?_⟩
    have e5 : j - j / 5 * 5 = j % 5 := by omega
    rw [e5]
    refine s_fits (j % 5) (by omega) _ _ ?_
    rw [show n - j = (n - (j + 1)) + 1 by omega] at h hf
    rw [flt_s] at h hf
    by_cases c : fitS (j % 5) (σ (k0 + 1) j) = true
    · rw [if_pos c] at h hf ⊢
      exact it_n (by decide) (hrc _ (by omega) ⟨rfl, hf⟩)
    · rw [if_neg c] at h hf ⊢
      exact it_p rfl h
