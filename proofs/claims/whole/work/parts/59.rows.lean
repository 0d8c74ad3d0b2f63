def facN (k : Nat) : Nat := if k = 0 then 1 else if k = 1 then 1 else if k = 2 then 2 else if k = 3 then 6 else if k = 4 then 24 else 120
theorem fac_I {k : Nat} (h : k < 6) : facF k = nI (facN k) := by
  have key : ∀ k : Fin 6, facF k.val = nI (facN k.val) := by decide
  exact key ⟨k, h⟩
theorem fac_mx {k : Nat} (h : k < 6) : (if (1 : Int32) < facF k then facF k else (1 : Int32)) = nI (facN k) := by
  have key : ∀ k : Fin 6, (if (1 : Int32) < facF k.val then facF k.val else (1 : Int32)) = nI (facN k.val) := by decide
  exact key ⟨k, h⟩
theorem fac_b {k : Nat} (h : k < 6) : 0 < facN k ∧ facN k ≤ 120 := by
  have key : ∀ k : Fin 6, 0 < facN k.val ∧ facN k.val ≤ 120 := by decide
  exact key ⟨k, h⟩
def unF (rank used : Nat) : Nat → Nat → Nat → Nat
  | 0, _, _ => 0
  | d + 1, i, p => if used.testBit i = true then unF rank used d (i + 1) p else if p = rank then i else unF rank used d (i + 1) (p + 1)
theorem s_unused (rank used n : Nat) (hr : rank < 2 ^ 31) (hn : n ≤ 5) (K : Int32 → Prop) (h : K (nI (unF rank used n 0 0))) : w_X6_unusedAt (nI rank) (nI used) (nI n) K := by
  unfold w_X6_unusedAt
  refine up2 (fun j y3 y4 => ∃ p, p ≤ j ∧ y3 = nI p ∧ y4 = nI j ∧ K (nI (unF rank used (n - j) j p))) n ?_ 0 _ _ (Nat.zero_le _) ⟨0, Nat.le_refl _, rfl, rfl, h⟩
  rintro j rc _ _ hj ⟨p, hp, rfl, rfl, hv⟩ hrc
  unfold F_X6_unusedAt_5 E_X6_unusedAt_5
  by_cases c1 : n ≤ j
  · refine it_p (nI_le c1 (by omega)) ?_
    rw [show n - j = 0 by omega] at hv
    exact hv
  · refine it_n (fun z => c1 ((nI_leI (by omega) (by omega)).mp z)) ?_
    rw [show n - j = (n - (j + 1)) + 1 by omega] at hv
    have hv : K (nI (if used.testBit j = true then unF rank used (n - (j + 1)) (j + 1) p else if p = rank then j else unF rank used (n - (j + 1)) (j + 1) (p + 1))) := hv
    rw [shl_k (by omega)]
    cases c2 : used.testBit j with
    | true =>
      rw [if_pos c2] at hv
      refine it_n (fun z => ?_) ?_
      · rw [fa_bit (by omega), c2] at z
        cases z
      · rw [nI_1]
        exact hrc _ _ (by omega) ⟨p, by omega, rfl, rfl, hv⟩
    | false =>
      rw [if_neg (by rw [c2]; decide)] at hv
      refine it_p ((fa_bit (by omega)).mpr c2) ?_
      by_cases c3 : p = rank
      · rw [if_pos c3] at hv
        exact it_p (by rw [c3]) hv
      · rw [if_neg c3] at hv
        refine it_n (fun z => c3 ((nI_eq (by omega) (by omega)).mp z)) ?_
        rw [nI_1, nI_1]
        exact hrc _ _ (by omega) ⟨p + 1, by omega, rfl, rfl, hv⟩
/-- the class's row of a number: what is left, and who is used, ahead of place i -/
def lyN (n code : Nat) : Nat → Nat × Nat
  | 0 => (code, 0)
  | i + 1 => match lyN n code i with
    | (r1, u1) => (r1 % facN (n - 1 - i), u1 ||| 2 ^ (unF (r1 / facN (n - 1 - i)) u1 n 0 0))
def rwN (n code i : Nat) : Nat := unF ((lyN n code i).1 / facN (n - 1 - i)) (lyN n code i).2 n 0 0
theorem lyN_s (n code i : Nat) : lyN n code (i + 1) = ((lyN n code i).1 % facN (n - 1 - i), (lyN n code i).2 ||| 2 ^ (rwN n code i)) := rfl
/-- the model's row: its figures, then each of those behind moved up -/
def rsN (code : Nat) : Nat → Nat
  | 0 => code
  | t + 1 => rsN code t / (t + 1)
def dgN (n code k : Nat) : Nat := rsN code (n - 1 - k) % (n - k)
def st2 (n k : Nat) (f1 : Nat → Nat) (j : Nat) : Nat := if k < j ∧ j < n then f1 j + (if f1 k ≤ f1 j then 1 else 0) else f1 j
def ph2 (n : Nat) (f1 : Nat → Nat) : Nat → Nat → Nat
  | 0 => f1
  | t + 1 => st2 n (n - 1 - t) (ph2 n f1 t)
def mdN (n code i : Nat) : Nat := ph2 n (dgN n code) n i
theorem rw_eq {n code i : Nat} (hn : n < 6) (hc : code < facN n) (hi : i < n) : (lyN n code i).1 < 120 ∧ (lyN n code i).2 < 32 ∧ rwN n code i < n ∧ mdN n code i = rwN n code i := by
  have key : ∀ n : Fin 6, ∀ code : Fin 120, code.val < facN n.val → ∀ i : Fin 5, i.val < n.val → (lyN n.val code.val i.val).1 < 120 ∧ (lyN n.val code.val i.val).2 < 32 ∧ rwN n.val code.val i.val < n.val ∧ mdN n.val code.val i.val = rwN n.val code.val i.val := by decide +kernel
  have := (fac_b hn).2
  exact key ⟨n, hn⟩ ⟨code, by omega⟩ hc ⟨i, by omega⟩ hi
theorem s_lay (σ : Sg) (n code : Nat) (hn : n ≤ 5) (hc : code < facN n) (K : Sg → Prop) (h : ∀ σ', same [41] σ σ' → (∀ i, i < n → σ' 41 i = nI (rwN n code i)) → K σ') : w_X6_layOrder (nI code) (nI n) σ K := by
  unfold w_X6_layOrder
  refine up4 (fun j y3 y4 y5 ρ => y3 = nI (lyN n code j).1 ∧ y4 = nI (lyN n code j).2 ∧ y5 = nI j ∧ same [41] σ ρ ∧ ∀ i, i < j → ρ 41 i = nI (rwN n code i)) n ?_ 0 _ _ _ _ (Nat.zero_le _) ⟨rfl, rfl, rfl, same.rf, fun i hi => by omega⟩
  rintro j rc _ _ _ ρ hj ⟨rfl, rfl, rfl, g1, g2⟩ hrc
  unfold F_X6_layOrder_8 E_X6_layOrder_8
  by_cases c1 : n ≤ j
  · have ej : j = n := by omega
    subst ej
    exact it_p (nI_le c1 (by omega)) (h ρ g1 g2)
  · obtain ⟨q1, q2, q3, q4⟩ := rw_eq (n := n) (code := code) (i := j) (by omega) hc (by omega)
    obtain ⟨f1, f2⟩ := fac_b (k := n - 1 - j) (by omega)
    have e1 : nI n - (1 : Int32) - nI j = nI (n - 1 - j) := by
      rw [show nI n - (1 : Int32) = nI (n - 1) from pk_sub (b := 1) (by omega), pk_sub (by omega)]
    refine it_n (fun z => c1 ((nI_leI (by omega) (by omega)).mp z)) ?_
    rw [e1, nI_clamp (by omega), fac_mx (by omega)]
    refine ⟨vp_in_nI (by omega) (by omega), ?_⟩
    rintro _ rfl
    refine ⟨nI_ne0 f1 (by omega), ?_⟩
    have er : nI (lyN n code j).1 - nI ((lyN n code j).1 / facN (n - 1 - j)) * nI (facN (n - 1 - j)) = nI ((lyN n code j).1 % facN (n - 1 - j)) := by
      rw [← pk_div (by omega) f1 (by omega)]
      exact pk_rem (by omega) f1 (by omega)
    rw [pk_div (by omega) f1 (by omega)]
    have d1 : (lyN n code j).1 / facN (n - 1 - j) ≤ (lyN n code j).1 := Nat.div_le_self _ _
    refine s_unused _ _ n (by omega) hn _ ?_
    show (vp_in (nI j) 5 ∧ ∀ τ42, τ42 = pt ρ 41 (nI j).toNatClampNeg (nI (rwN n code j)) → _)
    refine ⟨vp_in_nI (by omega) (by omega), ?_⟩
    rintro _ rfl
    rw [nI_clamp (by omega)]
    refine ⟨vp_in_nI (by omega) (by omega), ?_⟩
    rintro _ rfl
    refine ⟨nI_ne0 f1 (by omega), ?_⟩
    rintro _ rfl
    rw [pt_s, shl_k (by omega), fa_or, er, nI_1]
    refine hrc _ _ _ _ (by omega) ⟨?_, ?_, rfl, g1.pt (by decide), fun i hi => ?_⟩
    · rw [lyN_s]
    · rw [lyN_s]
    · by_cases c2 : i = j
      · subst c2
        exact pt_s _ _ _ _
      · rw [pt_o _ _ c2]
        exact g2 i (by omega)
theorem rsN_le (code : Nat) : ∀ t, rsN code t ≤ code
  | 0 => Nat.le_refl _
  | t + 1 => Nat.le_trans (Nat.div_le_self _ _) (rsN_le code t)
theorem st2_le {n k : Nat} {f1 : Nat → Nat} {j : Nat} : st2 n k f1 j ≤ f1 j + 1 := by
  unfold st2
  split
  · split <;> omega
  · omega
theorem ph2_le {n : Nat} {f1 : Nat → Nat} {j : Nat} : ∀ t, ph2 n f1 t j ≤ f1 j + t
  | 0 => Nat.le_refl _
  | t + 1 => by
    have h1 := ph2_le (n := n) (f1 := f1) (j := j) t
    have h2 := st2_le (n := n) (k := n - 1 - t) (f1 := ph2 n f1 t) (j := j)
    show st2 n (n - 1 - t) (ph2 n f1 t) j ≤ _
    omega
theorem dgN_lt {n code k : Nat} (hk : k < n) : dgN n code k < n := by
  have : dgN n code k < n - k := Nat.mod_lt _ (by omega)
  omega
theorem i_pm (a1 : Int32) : a1 + (-1) = a1 - 1 := (Int32.sub_eq_add_neg a1 1).symm
theorem m1_lt : nI 0 - 1 < 0 := by decide
theorem s_move (τ : Sg) (n k : Nat) (hk : k < n) (hn : n ≤ 5) (f1 : Nat → Nat) (hf : ∀ q, q < n → f1 q < 100) (ρ0 : Sg) (g0 : same [14] τ ρ0) (h0 : ∀ q, q < n → ρ0 14 q = nI (f1 q)) (kx : Sg → Prop) (h : ∀ ρ, same [14] τ ρ → (∀ q, q < n → ρ 14 q = nI (st2 n k f1 q)) → kx ρ) : ∃ n54, lq2 (F_X7_unfolds_54 (nI n) (nI k) kx) n54 (nI (k + 1)) ρ0 := by
  refine up2 (fun i y5 ρ => y5 = nI (k + 1 + i) ∧ same [14] τ ρ ∧ ∀ q, q < n → ρ 14 q = nI (if q < k + 1 + i then st2 n k f1 q else f1 q)) (n - (k + 1)) ?_ 0 _ _ (Nat.zero_le _) ⟨rfl, g0, fun q hq => ?_⟩
  · rintro i rc _ ρ hi ⟨rfl, g1, g2⟩ hrc
    unfold F_X7_unfolds_54
    by_cases c1 : n ≤ k + 1 + i
    · refine it_p (nI_le c1 (by omega)) (h ρ g1 (fun q hq => ?_))
      rw [g2 q hq, if_pos (by omega)]
    · refine it_n (fun z => c1 ((nI_leI (by omega) (by omega)).mp z)) ?_
      have b1 := hf (k + 1 + i) (by omega)
      have b2 := hf k hk
      have ek : st2 n k f1 k = f1 k := by unfold st2; rw [if_neg (by omega)]
      rw [nI_clamp (by omega), nI_clamp (by omega), g2 _ (show k + 1 + i < n by omega), g2 k hk, if_neg (Nat.lt_irrefl _), if_pos (show k < k + 1 + i by omega), ek]
      have nx : ∀ x, x = nI (st2 n k f1 (k + 1 + i)) → rc (nI (k + 1 + i) + 1) (pt ρ 14 (k + 1 + i) x) := by
        rintro _ rfl
        rw [nI_1]
        refine hrc _ _ (by omega) ⟨rfl, g1.pt (by decide), fun q hq => ?_⟩
        by_cases c2 : q = k + 1 + i
        · subst c2
          rw [pt_s, if_pos (by omega)]
        · rw [pt_o _ _ c2, g2 q hq]
          by_cases c3 : q < k + 1 + i
          · rw [if_pos c3, if_pos (by omega)]
          · rw [if_neg c3, if_neg (by omega)]
      have vi : vp_in (nI (k + 1 + i)) 5 := vp_in_nI (by omega) (by omega)
      refine ⟨vi, vi, vp_in_nI (by omega) (by omega), it_c (fun z => ⟨vi, ?_⟩) (fun z => ⟨vi, ?_⟩)⟩
      · rintro _ rfl
        refine nx _ ?_
        rw [nI_ltI (by omega) (by omega)] at z
        unfold st2
        rw [if_pos (by omega), if_neg (by omega)]
        exact nI_add _ 0
      · rintro _ rfl
        refine nx _ ?_
        rw [nI_ltI (by omega) (by omega)] at z
        unfold st2
        rw [if_pos (by omega), if_pos (by omega)]
        exact nI_add _ 1
  · rw [h0 q hq]
    by_cases c1 : q < k + 1 + 0
    · rw [if_pos c1]
      unfold st2
      rw [if_neg (by omega)]
    · rw [if_neg c1]
theorem s_unfolds (τ : Sg) (n code : Nat) (hn : n ≤ 5) (hc : code < 120) (K : Sg → Prop) (h : ∀ τ', same [14] τ τ' → (∀ i, i < n → τ' 14 i = nI (mdN n code i)) → K τ') : w_X7_unfolds (nI n) (nI code) τ K := by
  unfold w_X7_unfolds
  refine up3 (fun t y3 y4 ρ => y3 = nI (rsN code t) ∧ y4 = nI (n - t) - 1 ∧ same [14] τ ρ ∧ ∀ k, n - t ≤ k → k < n → ρ 14 k = nI (dgN n code k)) n ?_ 0 _ _ _ (Nat.zero_le _) ⟨rfl, rfl, same.rf, fun k h1 h2 => by omega⟩
  rintro t rc _ _ ρ ht ⟨rfl, rfl, g1, g2⟩ hrc
  unfold F_X7_unfolds_7
  by_cases c1 : n ≤ t
  · have et : t = n := by omega
    subst et
    rw [Nat.sub_self]
    refine it_p m1_lt ?_
    unfold E_X7_unfolds_7
    refine up2 (fun s y4 ρ2 => y4 = nI (t - s) - 1 ∧ same [14] τ ρ2 ∧ ∀ k, k < t → ρ2 14 k = nI (ph2 t (dgN t code) s k)) t ?_ 0 _ _ (Nat.zero_le _) ⟨rfl, g1, fun k hk => g2 k (by omega) hk⟩
    rintro s rc2 _ ρ2 hs ⟨rfl, w1, w2⟩ hrc2
    unfold F_X7_unfolds_43 E_X7_unfolds_43
    by_cases c2 : t ≤ s
    · have es : s = t := by omega
      subst es
      rw [Nat.sub_self]
      exact it_p m1_lt (h ρ2 w1 w2)
    · rw [show t - s = (t - 1 - s) + 1 by omega, nI_pred]
      refine it_n (nI_pos (by omega)) ?_
      rw [nI_1]
      refine s_move τ t (t - 1 - s) (by omega) hn (ph2 t (dgN t code) s) (fun q hq => ?_) ρ2 w1 w2 _ (fun ρ3 v1 v2 => ?_)
      · have a1 := ph2_le (n := t) (f1 := dgN t code) (j := q) s
        have a2 := dgN_lt (code := code) hq
        omega
      · unfold E_X7_unfolds_54
        rw [i_pm]
        exact hrc2 _ _ (by omega) ⟨by rw [show t - (s + 1) = t - 1 - s by omega], v1, v2⟩
  · have r1 := rsN_le code t
    rw [show n - t = (n - 1 - t) + 1 by omega, nI_pred]
    refine it_n (nI_pos (by omega)) ?_
    rw [pk_sub (show n - 1 - t ≤ n by omega), show n - (n - 1 - t) = t + 1 by omega, nI_clamp (by omega), pk_rem (by omega) (by omega) (by omega), pk_div (by omega) (by omega) (by omega), i_pm]
    refine ⟨nI_ne0 (by omega) (by omega), vp_in_nI (by omega) (by omega), ?_⟩
    rintro _ rfl
    refine ⟨nI_ne0 (by omega) (by omega), ?_⟩
    refine hrc _ _ _ (by omega) ⟨rfl, by rw [show n - (t + 1) = n - 1 - t by omega], g1.pt (by decide), fun k h1 h2 => ?_⟩
    by_cases c2 : k = n - 1 - t
    · rw [c2, pt_s]
      unfold dgN
      rw [show n - 1 - (n - 1 - t) = t by omega, show n - (n - 1 - t) = t + 1 by omega]
    · rw [pt_o _ _ c2]
      exact g2 k (by omega) h2
