theorem les_s {s t : Nat} (hs : s < 256) (ht : t < 256) (K : Int32 → Prop) (h1 : lss s t → K 1) (h0 : ¬ lss s t → K 0) : w_X6_isLesser (nI s) (nI t) K := by
  have key : ∀ a1 b1 : Fin 9, (nI a1.val - nI b1.val < 0 ↔ a1.val < b1.val) ∧ (nI a1.val - nI b1.val = 0 ↔ a1.val = b1.val) := by decide
  have ps := pop_le s
  have pt := pop_le t
  obtain ⟨k1, k2⟩ := key ⟨pop s, by omega⟩ ⟨pop t, by omega⟩
  dsimp only at k1 k2
  refine s_bitC hs _ (s_bitC ht _ ?_)
  refine it_c (fun z => h1 (Or.inl (k1.mp z))) (fun z => it_c (fun z2 => ?_) (fun z2 => h0 ?_))
  · rw [k1] at z
    rw [k2] at z2
    refine it_c (fun z3 => h0 ?_) (fun z3 => h1 ?_)
    · rw [nI_leI (by omega) (by omega)] at z3
      unfold lss
      omega
    · rw [nI_leI (by omega) (by omega)] at z3
      unfold lss
      omega
  · rw [k1] at z
    rw [k2] at z2
    unfold lss
    omega
theorem s_outside (σ : Sg) (N r1 c1 a1 : Nat) (P : Nat → Int32) (d : Nat → Nat → Int32) (hN : N ≤ 8) (hc1 : c1 < 100) (ha : a1 ≤ 1200) (hc : clIs σ 5 N P d) (f1 : Nat → Option Int32) (hf : f1 = NT P d N (σ 26 0) (σ 26 1) (σ 26 2) r1) (hr : rg f1 N) (K : Int32 → Prop) (h : K (nI (bsN (ouP f1 c1 a1) N))) : w_X6_outside (nI a1) (nI (a1 + c1)) (nI r1) σ K := by
  unfold w_X6_outside
  refine up2 (fun j y4 y5 => y4 = nI (bsN (ouP f1 c1 a1) j) ∧ y5 = nI j) N ?_ 0 _ _ (Nat.zero_le _) ⟨rfl, rfl⟩
  rintro j rc _ _ hj ⟨rfl, rfl⟩ hrc
  unfold F_X6_outside_6 E_X6_outside_6
  rw [hc.1.1]
  by_cases hjN : N ≤ j
  · refine it_p (nI_le hjN (by omega)) ?_
    have ej : j = N := by omega
    subst ej
    exact h
  · refine it_n (fun z => hjN ((nI_leI (by omega) (by omega)).mp z)) ?_
    refine s_noteBehind σ 5 26 N j _ P d hN (by omega) hc _ ?_
    rw [← hf, nI_1]
    have no : ¬ ouP f1 c1 a1 j → rc (nI (bsN (ouP f1 c1 a1) j)) (nI (j + 1)) := fun z => hrc _ _ (by omega) ⟨by rw [bsN_n z], rfl⟩
    have ye : ouP f1 c1 a1 j → J_X6_outside_54 (nI (bsN (ouP f1 c1 a1) j)) (nI j) rc := fun z => by
      unfold J_X6_outside_54
      rintro _ rfl
      rw [shl_k (by omega), fa_or, nI_1]
      exact hrc _ _ (by omega) ⟨by rw [bsN_y z], rfl⟩
    cases hx : f1 j with
    | none =>
      refine it_p rfl (no ?_)
      rintro ⟨m1, _, z, _⟩
      rw [hx] at z
      cases z
    | some x =>
      obtain ⟨m1, rfl, w1, w2⟩ := hr j (by omega) x hx
      refine it_n (nm_ne (by omega)) ?_
      show (if nI m1 < nI a1 then _ else _)
      refine it_c (fun z => ye ⟨m1, w2, hx, ?_⟩) (fun z => it_c (fun z2 => no ?_) (fun z2 => ye ⟨m1, w2, hx, ?_⟩))
      · rw [nI_ltI (by omega) (by omega)] at z
        exact Or.inl z
      · rintro ⟨m2, v1, v2, v3⟩
        rw [hx] at v2
        injection v2 with v2
        rw [nI_eq (by omega) (by omega)] at v2
        rw [nI_ltI (by omega) (by omega)] at z
        have z2 : nI m1 ≤ nI (a1 + c1) := z2
        rw [nI_leI (by omega) (by omega)] at z2
        omega
      · have z2 : ¬ nI m1 ≤ nI (a1 + c1) := z2
        rw [nI_leI (by omega) (by omega)] at z2
        exact Or.inr (by omega)
theorem bsN_256 {p1 : Nat → Prop} {n : Nat} (hn : n ≤ 8) : bsN p1 n < 256 := Nat.lt_of_lt_of_le bsN_lt (Nat.pow_le_pow_right (by decide) hn : 2 ^ n ≤ 2 ^ 8)
theorem lsC_256 {f1 : Nat → Option Int32} {N c1 j b1 : Nat} (hN : N ≤ 8) (hr : rg f1 N) (hj : j ≤ N) (h : lsB (ouS f1 N c1) j = some b1) : b1 < 256 := by
  obtain ⟨⟨i, i1, i2⟩, _⟩ := lsB_some h
  cases hx : f1 i with
  | none =>
    rw [ouS_n hx] at i2
    cases i2
  | some x =>
    obtain ⟨m1, rfl, w1, w2⟩ := hr i (by omega) x hx
    rw [ouS_s w2 hx] at i2
    cases i2
    exact bsN_256 hN
theorem s_fewest (σ : Sg) (N r1 c1 : Nat) (P : Nat → Int32) (d : Nat → Nat → Int32) (hN : N ≤ 8) (hc1 : c1 < 100) (e3 : σ 26 3 = nI c1) (hc : clIs σ 5 N P d) (f1 : Nat → Option Int32) (hf : f1 = NT P d N (σ 26 0) (σ 26 1) (σ 26 2) r1) (hr : rg f1 N) (K : Int32 → Prop) (h : K (nI ((lsB (ouS f1 N c1) N).getD 0))) : w_X6_fewestToHush (nI r1) σ K := by
  unfold w_X6_fewestToHush
  refine up2 (fun j y2 y3 => y2 = enc (lsB (ouS f1 N c1) j) ∧ y3 = nI j) N ?_ 0 _ _ (Nat.zero_le _) ⟨rfl, rfl⟩
  rintro j rc _ _ hj ⟨rfl, rfl⟩ hrc
  unfold F_X6_fewestToHush_4 E_X6_fewestToHush_4
  rw [hc.1.1]
  by_cases hjN : N ≤ j
  · refine it_p (nI_le hjN (by omega)) ?_
    have ej : j = N := by omega
    subst ej
    cases hq : lsB (ouS f1 j c1) j with
    | none =>
      rw [hq] at h
      exact it_p rfl h
    | some b1 =>
      have := lsC_256 hN hr (Nat.le_refl _) hq
      rw [hq] at h
      exact it_n (nI_m1 (by omega)) h
  · refine it_n (fun z => hjN ((nI_leI (by omega) (by omega)).mp z)) ?_
    refine s_noteBehind σ 5 26 N j _ P d hN (by omega) hc _ ?_
    rw [← hf, nI_1]
    cases hx : f1 j with
    | none =>
      refine it_p rfl (hrc _ _ (by omega) ⟨?_, rfl⟩)
      rw [lsB_n (ouS_n hx)]
    | some x =>
      obtain ⟨a1, rfl, w1, w2⟩ := hr j (by omega) x hx
      refine it_n (nm_ne (by omega)) ?_
      show w_X6_outside (nI a1) (nI a1 + σ 26 3) (nI r1) σ _
      rw [e3, nI_add]
      refine s_outside σ N r1 c1 a1 P d hN hc1 w2 hc f1 hf hr _ ?_
      have eo : ouS f1 N c1 j = some (bsN (ouP f1 c1 a1) N) := ouS_s w2 hx
      cases hq : lsB (ouS f1 N c1) j with
      | none =>
        refine it_p rfl (hrc _ _ (by omega) ⟨?_, rfl⟩)
        rw [lsB_0 eo hq]
        rfl
      | some b1 =>
        have hb := lsC_256 hN hr hj hq
        refine it_n (nI_m1 (by omega)) (les_s (bsN_256 hN) hb _ (fun z => it_n (by decide) (hrc _ _ (by omega) ⟨?_, rfl⟩)) (fun z => it_p rfl (hrc _ _ (by omega) ⟨?_, rfl⟩)))
        · rw [lsB_y eo hq z]
          rfl
        · rw [lsB_k eo hq z]
theorem s_hushM (τ1 : Sg) (N B b1 k1 c1 : Nat) (P : Nat → Int32) (d : Nat → Nat → Int32) (kd : Nat → Int32) (hN : N ≤ 8) (hB : B ≤ 24) (hb : b1 < B) (hc : c1 < 100) (e3 : τ1 9 3 = nI c1) (hf : fdIs τ1 N P d B kd) (f1 : Nat → Option Int32) (hf1 : f1 = NT P d N (τ1 9 0) (τ1 9 1) (τ1 9 2) (rb kd b1)) (m1 : Nat) (hm : m1 < 256) (em : lsB (feS f1 N (nI c1)) (2 ^ N) = some m1) (K : Int32 → Prop) (h : if nI k1 = 0 then K (nI (pop m1)) else K (nI m1)) : w_X7_hushOf (nI b1) (nI k1) τ1 K := by
  have p2 : 2 ^ N ≤ 256 := (Nat.pow_le_pow_right (by decide) hN : 2 ^ N ≤ 2 ^ 8)
  unfold w_X7_hushOf
  refine up2 (fun j y3 y4 => y3 = enc (lsB (feS f1 N (nI c1)) j) ∧ y4 = nI j) (2 ^ N) ?_ 0 _ _ (Nat.zero_le _) ⟨rfl, rfl⟩
  rintro j rc _ _ hj ⟨rfl, rfl⟩ hrc
  unfold F_X7_hushOf_5 E_X7_hushOf_5
  rw [hf.1.1, shl_9 hN]
  by_cases hjN : 2 ^ N ≤ j
  · refine it_p (nI_le hjN (by omega)) ?_
    have ej : j = 2 ^ N := by omega
    subst ej
    rw [em]
    by_cases c2 : nI k1 = 0
    · rw [if_pos c2] at h
      exact it_p c2 (s_ones hm _ h)
    · rw [if_neg c2] at h
      exact it_n c2 h
  · refine it_n (fun z => hjN ((nI_leI (by omega) (by omega)).mp z)) ?_
    have key : (∀ b2, lsB (feS f1 N (nI c1)) j = some b2 → pop j < pop b2) → J_X7_hushOf_33 (nI b1) (nI j) τ1 rc (enc (lsB (feS f1 N (nI c1)) j)) := by
      intro hlt
      unfold J_X7_hushOf_33
      refine s_mspread τ1 N B b1 P d kd (nI j) (fun k => j.testBit k) hN hB hb hf (fun k hk => bit_s (by omega) (by omega)) _ ⟨i34, ?_⟩
      rw [z3, e3, nI_1, ← hf1]
      show (if nI c1 < spv (mkf f1 j) N then _ else _)
      refine it_c (fun z => hrc _ _ (by omega) ⟨?_, rfl⟩) (fun z => hrc _ _ (by omega) ⟨?_, rfl⟩)
      · rw [lsB_n (feS_n (fun y => y z))]
      · have ef : feS f1 N (nI c1) j = some j := feS_y z
        cases hq : lsB (feS f1 N (nI c1)) j with
        | none =>
          rw [lsB_0 ef hq]
          rfl
        | some b2 =>
          rw [lsB_y ef hq (Or.inl (hlt b2 hq))]
          rfl
    cases hq : lsB (feS f1 N (nI c1)) j with
    | none =>
      rw [hq] at key
      exact it_p rfl (key (fun b2 z => by cases z))
    | some b2 =>
      obtain ⟨⟨i, i1, i2⟩, _⟩ := lsB_some hq
      have ei := (feS_s i2).1
      subst ei
      rw [hq] at key
      have p1 := pop_le j
      have p3 := pop_le i
      refine it_n (nI_m1 (by omega)) (s_ones (by omega) _ (s_ones (by omega) _ ?_))
      refine it_c (fun z => ?_) (fun z => key (fun b2 z2 => ?_))
      · rw [nI_1]
        refine hrc _ _ (by omega) ⟨?_, rfl⟩
        rw [nI_leI (by omega) (by omega)] at z
        by_cases c2 : fe f1 N (nI c1) j
        · rw [lsB_k (feS_y c2) hq]
          unfold lss
          omega
        · rw [lsB_n (feS_n c2), hq]
      · cases z2
        rw [nI_leI (by omega) (by omega)] at z
        omega
/-- both sides of a call that changes nothing of the class -/
def two0 {A : Type} (C : (A → Prop) → Prop) (M : Sg → (A → Sg → Prop) → Prop) (σ : Sg) : Prop := ∀ K : A → Prop, (∀ r, (∀ τ, Rel σ τ → ∀ K' : A → Sg → Prop, (∀ τ', Rel σ τ' → K' r τ') → M τ K') → K r) → C K
theorem two0.op {A : Type} {C : (A → Prop) → Prop} {M : Sg → (A → Sg → Prop) → Prop} {σ τ : Sg} (h2 : two0 C M σ) (h : Rel σ τ) : C (fun r1 => M τ (fun r2 τ1 => r1 = r2 ∧ Rel σ τ1)) := h2 _ (fun _ hM => hM τ h _ (fun _ hR => ⟨rfl, hR⟩))
theorem tw_hush {σ τ0 : Sg} (h : Rel σ τ0) (x1 x2 : Int32) : two0 (w_X6_hush x1 x2 σ) (w_X7_hush x1 x2) σ := by
  obtain ⟨N, P, d, B, kd, ok, hP, hB, hc, hn, hs, hT, _, _, fnd⟩ := vc h
  have hN := ok.1
  obtain ⟨c1, hc1, e3⟩ := h.2.1.2.2
  intro K hK
  unfold w_X6_hush
  rcases ix_c x1 (n1 := B) (by omega) with hx | ⟨b1, hb, rfl⟩
  · refine cbrN hs.1 hx _ (it_n (by decide) (hK _ ?_))
    exact fun τ hR K' hK' => fnd τ hR _ (fun τ' a1 a2 a3 a4 a5 => barN hB a3.2.2.2.1 hx _ (it_p rfl (hK' τ' a4)))
  · refine cbrY hB hs.1 hb _ (it_p rfl ?_)
    rcases two_c (x := x2) with hx | hx
    · refine nchN hx _ (it_n (by decide) (hK _ ?_))
      exact fun τ hR K' hK' => fnd τ hR _ (fun τ' a1 a2 a3 a4 a5 => barY hB a3.2.2.2.1 hb _ (it_n (by decide) (twoN hx _ (it_p rfl (hK' τ' a4)))))
    · obtain ⟨k1, hk1, rfl⟩ : ∃ k1 : Nat, k1 ≤ 1 ∧ x2 = nI k1 := by
        rcases hx with rfl | rfl
        · exact ⟨0, by omega, rfl⟩
        · exact ⟨1, by omega, rfl⟩
      refine nchY hk1 _ (it_p rfl ⟨vp_in_nI (by omega) (by omega), ?_⟩)
      rw [nI_clamp (by omega), show σ (23 + 2) b1 = nI (rb kd b1) from (hs.2 b1 hb).2]
      obtain ⟨f1, hf1⟩ : ∃ f1, f1 = NT P d N (σ 26 0) (σ 26 1) (σ 26 2) (rb kd b1) := ⟨_, rfl⟩
      have hr : rg f1 N := by rw [hf1]; exact NT_rg ok hP hT (by have := rb_le kd b1; omega)
      obtain ⟨m1, hm1⟩ : ∃ m1, m1 = (lsB (ouS f1 N c1) N).getD 0 := ⟨_, rfl⟩
      have hm : m1 < 256 := by
        rw [hm1]
        cases hq : lsB (ouS f1 N c1) N with
        | none => exact (by decide : 0 < 256)
        | some b2 => exact lsC_256 hN hr (Nat.le_refl _) hq
      have em := hush_eq hr hc1
      rw [← hm1] at em
      refine s_fewest σ N (rb kd b1) c1 P d hN hc1 e3 hc f1 hf1 hr _ ?_
      rw [← hm1]
      have M : ∀ τ, Rel σ τ → ∀ K' : Int32 → Sg → Prop, (∀ τ', Rel σ τ' → if nI k1 = 0 then K' (nI (pop m1)) τ' else K' (nI m1) τ') → w_X7_hush (nI b1) (nI k1) τ K' := fun τ hR K' hK' =>
        fnd τ hR _ (fun τ' a1 a2 a3 a4 a5 => barY hB a3.2.2.2.1 hb _ (it_n (by decide) (twoY hk1 _ (it_n (by decide) (s_hushM τ' N B b1 k1 c1 P d kd hN hB hb hc1 (by rw [a5 3 (by omega)]; exact e3) a3 f1 (by rw [a5 0 (by omega), a5 1 (by omega), a5 2 (by omega)]; exact hf1) m1 hm em _ (hK' τ' a4))))))
      by_cases c3 : nI k1 = 0
      · exact it_p c3 (s_bitC hm _ (hK _ (fun τ hR K' hK' => M τ hR K' (fun τ' hR' => it_p c3 (hK' τ' hR')))))
      · exact it_n c3 (hK _ (fun τ hR K' hK' => M τ hR K' (fun τ' hR' => it_n c3 (hK' τ' hR'))))
theorem op_hush {σ τ : Sg} (h : Rel σ τ) (x1 x2 : Int32) : w_X6_hush x1 x2 σ (fun r1 => w_X7_hush x1 x2 τ (fun r2 τ1 => r1 = r2 ∧ Rel σ τ1)) := (tw_hush h x1 x2).op h
