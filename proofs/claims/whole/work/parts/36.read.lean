def gdH (it : Nat → Int32) (m1 nh i : Nat) : Prop := 3 * i + 3 ≤ m1 ∧ nh + i < 8 ∧ okH (it (3 * i)) (it (3 * i + 1)) (it (3 * i + 2))
def itC (σ : Sg) (it : Nat → Int32) (nh : Nat) : Nat → Sg
  | 0 => σ
  | i + 1 => kpC (itC σ it nh i) (nh + i) (it (3 * i)) (it (3 * i + 1)) (it (3 * i + 2))
def itH (τ : Sg) (it : Nat → Int32) (nh : Nat) : Nat → Sg
  | 0 => τ
  | i + 1 => kpH (itH τ it nh i) (nh + i) (it (3 * i)) (it (3 * i + 1)) (it (3 * i + 2))
theorem itC_same {σ : Sg} {it : Nat → Int32} {nh : Nat} : ∀ i, same [28, 29, 30, 31] σ (itC σ it nh i)
  | 0 => same.rf
  | i + 1 => (itC_same i).tr kpC_s
theorem itH_same {τ : Sg} {it : Nat → Int32} {nh : Nat} : ∀ i, same [0, 16] τ (itH τ it nh i)
  | 0 => same.rf
  | i + 1 => (itH_same i).tr kpH_s
theorem itC_n {σ : Sg} {it : Nat → Int32} {nh : Nat} (e : σ 28 0 = nI nh) : ∀ i, itC σ it nh i 28 0 = nI (nh + i)
  | 0 => e
  | i + 1 => by
    show kpC _ _ _ _ _ 28 0 = _
    unfold kpC
    exact pt_s _ _ _ _
theorem itH_n {τ : Sg} {it : Nat → Int32} {nh : Nat} (e : τ 0 18 = nI nh) : ∀ i, itH τ it nh i 0 18 = nI (nh + i)
  | 0 => e
  | i + 1 => by
    show kpH _ _ _ _ _ 0 18 = _
    unfold kpH
    exact pt_s _ _ _ _
theorem it_rel {σ τ : Sg} {it : Nat → Int32} {nh m1 : Nat} (h : Rel σ τ) (e : σ 28 0 = nI nh) : ∀ j, (∀ i, i < j → gdH it m1 nh i) → Rel (itC σ it nh j) (itH τ it nh j)
  | 0, _ => h
  | j + 1, g1 => (it_rel h e j (fun i hi => g1 i (by omega))).kept (g1 j (by omega)).2.1 (itC_n e j) (g1 j (by omega)).2.2
theorem s_readC (σ : Sg) (s nh m1 : Nat) (hs : s < 4) (hn : nh ≤ 8) (hm : m1 ≤ 60) (e : σ 28 0 = nI nh) (e2 : σ (33 + 2 * s) 2 = nI m1) (K : Int32 → Sg → Prop) (h : ∀ j, j ≤ 20 → (∀ i, i < j → gdH (σ (34 + 2 * s)) m1 nh i) → ¬ gdH (σ (34 + 2 * s)) m1 nh j → K (nI j) (itC σ (σ (34 + 2 * s)) nh j)) : ∃ n35, lq3 (F_X6_read_35 (nI s) (E_X6_read_35 K)) n35 (0 : Int32) (0 : Int32) σ := by
  refine up3 (fun j y3 y4 ρ => y3 = nI j ∧ y4 = nI (3 * j) ∧ ρ = itC σ (σ (34 + 2 * s)) nh j ∧ ∀ i, i < j → gdH (σ (34 + 2 * s)) m1 nh i) 21 ?_ 0 _ _ _ (Nat.zero_le _) ⟨rfl, rfl, rfl, fun i hi => by omega⟩
  rintro j rc _ _ _ hj ⟨rfl, rfl, rfl, g1⟩ hrc
  have hj2 : j ≤ 20 := by
    cases j with
    | zero => omega
    | succ j => have := (g1 j (by omega)).1; omega
  have cs : (nI s).toNatClampNeg = s := nI_clamp (by omega)
  have e3 : itC σ (σ (34 + 2 * s)) nh j (33 + 2 * s) = σ (33 + 2 * s) := itC_same j _ (by simp; omega)
  have e4 : itC σ (σ (34 + 2 * s)) nh j (33 + 2 * s + 1) = σ (34 + 2 * s) := (itC_same j _ (by simp; omega)).trans (by rw [show 33 + 2 * s + 1 = 34 + 2 * s by omega])
  have e5 := itC_n (it := σ (34 + 2 * s)) e j
  have n2 : nI (3 * j) + 2 = nI (3 * j + 2) := nI_add _ _
  have n1 : nI (3 * j) + 1 = nI (3 * j + 1) := nI_add _ _
  have n3 : nI (3 * j) + 3 = nI (3 * (j + 1)) := nI_add _ _
  unfold F_X6_read_35 E_X6_read_35
  rw [cs, e3, e4, e2, n2, n1, n3, nI_1]
  by_cases c1 : 3 * j + 3 ≤ m1
  · refine it_n (fun z => by rw [nI_leI (by omega) (by omega)] at z; omega) ?_
    unfold w_X1_isFull
    rw [e5]
    by_cases c2 : nh + j < 8
    · refine it_p (nI_lt (b := 8) c2 (by omega)) (it_p rfl ⟨vp_in_nI (by omega) (by omega), vp_in_nI (by omega) (by omega), vp_in_nI (by omega) (by omega), ?_⟩)
      rw [nI_clamp (by omega), nI_clamp (by omega), nI_clamp (by omega)]
      refine s_may _ _ _ _ (fun z => it_n (by decide) ⟨vp_in_nI (by omega) (by omega), vp_in_nI (by omega) (by omega), vp_in_nI (by omega) (by omega), ?_⟩) (fun z => it_p rfl (h j hj2 g1 (fun y => z y.2.2)))
      refine s_keep _ (nh + j) c2 e5 _ _ _ _ (hrc _ _ _ (by omega) ⟨rfl, rfl, rfl, fun i hi => ?_⟩)
      by_cases c3 : i = j
      · subst c3
        exact ⟨c1, c2, z⟩
      · exact g1 i (by omega)
    · refine it_n (fun z => c2 ((nI_ltI (b := 8) (by omega) (by omega)).mp z)) (it_n (by decide) (h j hj2 g1 (fun y => c2 y.2.1)))
  · exact it_p (nI_le (by omega) (by omega)) (h j hj2 g1 (fun y => c1 y.1))
theorem s_readM (τ : Sg) (it : Nat → Int32) (s nh m1 : Nat) (hs : s < 4) (hn : nh ≤ 8) (hm : m1 ≤ 60) (e : τ 0 18 = nI nh) (e2 : τ 2 s = nI m1) (ei : ∀ i, i < m1 → τ 3 (60 * s + i) = it i) (K : Int32 → Sg → Prop) (h : ∀ j, (∀ i, i < j → gdH it m1 nh i) → ¬ gdH it m1 nh j → K (nI j) (itH τ it nh j)) : ∃ n29, lq3 (F_X7_read_29 (nI s) (E_X7_read_29 K)) n29 (0 : Int32) (1 : Int32) τ := by
  refine up3 (fun j y2 y3 ρ => (y3 = 1 ∧ j ≤ 20 ∧ y2 = nI j ∧ ρ = itH τ it nh j ∧ ∀ i, i < j → gdH it m1 nh i) ∨ (y3 = 0 ∧ ∃ q : Nat, y2 = nI q ∧ ρ = itH τ it nh q ∧ (∀ i, i < q → gdH it m1 nh i) ∧ ¬ gdH it m1 nh q)) 21 ?_ 0 _ _ _ (Nat.zero_le _) (Or.inl ⟨rfl, by omega, rfl, rfl, fun i hi => by omega⟩)
  rintro j rc _ _ _ hj hI hrc
  rcases hI with ⟨rfl, hj2, rfl, rfl, g1⟩ | ⟨rfl, q, rfl, rfl, g1, g2⟩
  · have cs : (nI s).toNatClampNeg = s := nI_clamp (by omega)
    have e3 : itH τ it nh j 2 = τ 2 := itH_same j _ (by decide)
    have e4 : itH τ it nh j 3 = τ 3 := itH_same j _ (by decide)
    have e5 := itH_n (it := it) e j
    unfold F_X7_read_29 E_X7_read_29
    refine it_n (by decide) ⟨vp_in_nI (by omega) (by omega), ?_⟩
    rw [cs, e3, e2]
    have n3 : (3 : Int32) * nI j + 3 = nI (3 * j + 3) := by simp (disch := omega) only [Nat.reduceAdd, fa_lit, nI_leI, nI_ltI, nI_eq, nI_add, pk_mul, pk_sub, pk_div, nI_clamp, c_vin, c_em1, c_m1e]
    rw [n3]
    by_cases c1 : 3 * j + 3 ≤ m1
    · refine it_n (fun z => by rw [nI_ltI (by omega) (by omega)] at z; omega) ?_
      rintro _ rfl
      have n4 : (60 : Int32) * nI s + 3 * nI j = nI (60 * s + 3 * j) := by simp (disch := omega) only [Nat.reduceAdd, fa_lit, nI_leI, nI_ltI, nI_eq, nI_add, pk_mul, pk_sub, pk_div, nI_clamp, c_vin, c_em1, c_m1e]
      have n5 : nI (60 * s + 3 * j) + 1 = nI (60 * s + (3 * j + 1)) := nI_add _ _
      have n6 : nI (60 * s + 3 * j) + 2 = nI (60 * s + (3 * j + 2)) := nI_add _ _
      rw [n4, n5, n6, e4, nI_clamp (by omega), nI_clamp (by omega), nI_clamp (by omega), ei _ (by omega), ei _ (by omega), ei _ (by omega)]
      refine ⟨vp_in_nI (by omega) (by omega), vp_in_nI (by omega) (by omega), vp_in_nI (by omega) (by omega), ?_⟩
      have hle : nh + j ≤ 8 := by
        cases j with
        | zero => omega
        | succ j => have := (g1 j (by omega)).2.1; omega
      unfold J_X7_read_94
      have stop : ¬ gdH it m1 nh j → rc (nI j + 0) 0 (itH τ it nh j) := fun z => hrc _ _ _ (by omega) (Or.inr ⟨rfl, j, Int32.add_zero _, rfl, g1, z⟩)
      refine s_heardM _ (nh + j) hle e5 _ _ _ _ (fun z => it_p (by decide) (it_p rfl (stop (fun y => z y.2.2)))) (fun _ z => it_p (by decide) (it_p rfl (stop (fun y => by have := y.2.1; omega)))) (fun z z2 => it_n (nI_pos (by omega)) (it_n (by decide) (hrc _ _ _ (by omega) (Or.inl ⟨rfl, by omega, nI_1 _, rfl, fun i hi => ?_⟩))))
      by_cases c3 : i = j
      · subst c3
        exact ⟨c1, z2, z⟩
      · exact g1 i (by omega)
    · exact it_p (nI_lt (by omega) (by omega)) (h j g1 (fun y => c1 y.1))
  · unfold F_X7_read_29 E_X7_read_29
    exact it_p rfl (h q g1 g2)
theorem cshY {k1 : Nat} (h : k1 < 4) (K : Int32 → Prop) (hK : K 0) : w_X6_isNoSheet (nI k1) K := it_n (nI_pos (by omega)) (it_p (nI_lt (b := 4) h (by omega)) hK)
theorem cshN {x : Int32} (h : x < 0 ∨ nI 4 ≤ x) (K : Int32 → Prop) (hK : K 1) : w_X6_isNoSheet x K := by
  unfold w_X6_isNoSheet
  refine it_c (fun _ => hK) (fun c1 => it_n (fun c2 => ?_) hK)
  rcases h with h | h
  · exact c1 h
  · exact i_nle c2 h
theorem op_read {σ τ : Sg} (h : Rel σ τ) (x1 : Int32) : w_X6_read x1 σ (fun r1 σ1 => w_X7_read x1 τ (fun r2 τ1 => r1 = r2 ∧ Rel σ1 τ1)) := by
  unfold w_X6_read w_X7_read
  rcases ix_c x1 (n1 := 4) (by omega) with hx | ⟨s, hs, rfl⟩
  · exact cshN hx _ (it_n (by decide) (shtN hx _ (it_p rfl ⟨rfl, h⟩)))
  · have cs : (nI s).toNatClampNeg = s := nI_clamp (by omega)
    refine cshY hs _ (it_p rfl ⟨vp_in_nI (by omega) (by omega), ?_⟩)
    obtain ⟨s1, s2⟩ := h.2.2.2.1 s hs
    unfold w_X2_isLost
    rw [cs]
    rcases s2 with s2 | ⟨f1, m1, q1, q2, q3, q4, q5, q6⟩
    · refine it_p s2 (it_n (by decide) ?_)
      rintro _ rfl
      refine shtY (by omega) _ (it_n (by decide) ⟨vp_in_nI (by omega) (by omega), it_n (by rw [s1, s2]; decide) ?_⟩)
      exact finds_ h 1 _ (fun τ' r => ⟨rfl, r⟩)
    · obtain ⟨nh, h1, h2, h3, h4⟩ := h.2.2.1
      refine it_n (by rw [q3]; exact nI_m1 (by omega)) (it_p rfl ?_)
      refine s_readC σ s nh m1 hs h1 q2 h2 q4 _ (fun j hj g1 g2 => ?_)
      refine shtY (by omega) _ (it_n (by decide) ⟨vp_in_nI (by omega) (by omega), it_p (by rw [s1, q3]; exact nI_pos' (by omega)) ?_⟩)
      refine s_readM τ (σ (34 + 2 * s)) s nh m1 hs h1 q2 h3 q5 q6 _ (fun j2 k1 k2 => ?_)
      have : j2 = j := by
        rcases Nat.lt_trichotomy j j2 with z | z | z
        · exact absurd (k1 j z) g2
        · exact z.symm
        · exact absurd (g1 j2 z) k2
      subst this
      exact ⟨rfl, it_rel h h2 j2 g1⟩
