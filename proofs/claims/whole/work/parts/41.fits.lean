/-- a thing heard comes out -/
def cmO (a1 a2 a3 : Nat → Int32) (N B : Nat) (P : Nat → Int32) (d : Nat → Nat → Int32) (kd : Nat → Int32) (v e w : Int32) (i : Nat) : Prop := ∃ b1 k1 : Nat, b1 < B ∧ k1 < N ∧ a1 i = nI b1 ∧ a2 i = nI k1 ∧ NT P d N v e w (rb kd b1) k1 = some (a3 i)
def hO (a1 a2 a3 : Nat → Int32) (nh N B : Nat) (P : Nat → Int32) (d : Nat → Nat → Int32) (kd : Nat → Int32) (v e w : Int32) : Prop := ∀ i, i < nh → cmO a1 a2 a3 N B P d kd v e w i
theorem og_eq {o : Option Int32} {m1 : Nat} (hm : m1 < 2 ^ 31) : og o = nI m1 ↔ o = some (nI m1) := by
  cases o with
  | none => exact ⟨fun z => absurd z.symm (nm_ne hm), fun z => by cases z⟩
  | some x => exact ⟨fun z => congrArg some z, fun z => Option.some.inj z⟩
theorem s_all (σ : Sg) (a1 a2 a3 : Nat → Int32) (nh N B : Nat) (P : Nat → Int32) (d : Nat → Nat → Int32) (kd : Nat → Int32) (hN : N ≤ 8) (hB : B ≤ 24) (hc : clIs σ 5 N P d) (hs : soIs σ B kd) (hn : nh ≤ 8) (e : σ 28 0 = nI nh) (ha : ∀ i, i < nh → σ 29 i = a1 i ∧ σ 30 i = a2 i ∧ σ 31 i = a3 i ∧ okH (a1 i) (a2 i) (a3 i)) (K : Int32 → Prop) (h1 : hO a1 a2 a3 nh N B P d kd (σ 27 0) (σ 27 1) (σ 27 2) → K 1) (h0 : ¬ hO a1 a2 a3 nh N B P d kd (σ 27 0) (σ 27 1) (σ 27 2) → K 0) : w_X6_allComesOut 27 σ K := by
  refine up1 (fun j y => y = nI j ∧ ∀ i, i < j → cmO a1 a2 a3 N B P d kd (σ 27 0) (σ 27 1) (σ 27 2) i) nh ?_ 0 _ (Nat.zero_le _) ⟨rfl, fun i hi => by omega⟩
  rintro j rc _ hj ⟨rfl, g1⟩ hrc
  unfold F_X6_allComesOut_2 E_X6_allComesOut_2
  rw [e]
  by_cases c1 : nh ≤ j
  · exact it_p (nI_le c1 (by omega)) (h1 (fun i hi => g1 i (by omega)))
  · have vi : vp_in (nI j) 8 := vp_in_nI (by omega) (by omega)
    refine it_n (fun z => c1 ((nI_leI (by omega) (by omega)).mp z)) ⟨vi, ?_⟩
    rw [nI_clamp (by omega)]
    obtain ⟨q1, q2, q3, ⟨b1, hb, e1⟩, ⟨k1, hk, e2⟩, y1, hy, e3⟩ := ha j (by omega)
    have bad : ¬ cmO a1 a2 a3 N B P d kd (σ 27 0) (σ 27 1) (σ 27 2) j → K 0 := fun z => h0 (fun y => z (y j (by omega)))
    rintro _ rfl
    refine ⟨vi, ?_⟩
    rintro _ rfl
    rw [show σ (28 + 2) j = nI k1 from q2.trans e2, show σ (28 + 1) j = nI b1 from q1.trans e1, show σ (28 + 3) j = nI y1 from q3.trans e3]
    have inj : cmO a1 a2 a3 N B P d kd (σ 27 0) (σ 27 1) (σ 27 2) j → b1 < B ∧ k1 < N ∧ NT P d N (σ 27 0) (σ 27 1) (σ 27 2) (rb kd b1) k1 = some (nI y1) := by
      rintro ⟨b2, k2, w1, w2, w3, w4, w5⟩
      rw [e1, nI_eq (by omega) (by omega)] at w3
      rw [e2, nI_eq (by omega) (by omega)] at w4
      subst w3
      subst w4
      rw [e3] at w5
      exact ⟨w1, w2, w5⟩
    by_cases c2 : k1 < N
    · refine csgY hN hc.1.1 c2 _ (it_p rfl ?_)
      by_cases c3 : b1 < B
      · refine cbrY hB hs.1 c3 _ (it_p rfl ⟨vp_in_nI (by omega) (by omega), ?_⟩)
        rw [nI_clamp (by omega), show σ (23 + 2) b1 = nI (rb kd b1) from (hs.2 b1 c3).2]
        refine s_noteBehind σ 5 27 N k1 _ P d hN c2 hc _ ⟨vi, it_c (fun c4 => ?_) (fun c4 => bad (fun z => c4 ((og_eq (by omega)).mpr (inj z).2.2)))⟩
        rw [nI_1]
        refine hrc _ (by omega) ⟨rfl, fun i hi => ?_⟩
        by_cases c5 : i = j
        · subst c5
          exact ⟨b1, k1, c3, c2, e1, e2, by rw [e3]; exact (og_eq (by omega)).mp c4⟩
        · exact g1 i (by omega)
      · exact cbrN hs.1 (Or.inr (nI_le (by omega) (by omega))) _ (it_n (by decide) (bad (fun z => c3 (inj z).1)))
    · exact csgN hc.1.1 (Or.inr (nI_le (by omega) (by omega))) _ (it_n (by decide) (bad (fun z => c2 (inj z).2.1)))
theorem s_isHeard (τ : Sg) (a1 a2 a3 : Nat → Int32) (nh N B : Nat) (P : Nat → Int32) (d : Nat → Nat → Int32) (kd : Nat → Int32) (hN : N ≤ 8) (hB : B ≤ 24) (hf : ∃ τ0, fdIs τ0 N P d B kd ∧ same [0, 9] τ0 τ ∧ τ 0 7 = τ0 0 7 ∧ τ 0 9 = τ0 0 9) (hn : nh ≤ 8) (e : τ 0 18 = nI nh) (ha : ∀ i, i < nh → τ 16 (3 * i) = a1 i ∧ τ 16 (3 * i + 1) = a2 i ∧ τ 16 (3 * i + 2) = a3 i ∧ okH (a1 i) (a2 i) (a3 i)) (K : Int32 → Sg → Prop) (h1 : ∀ τ', same [11, 12, 13] τ τ' → fdIs τ' N P d B kd → hO a1 a2 a3 nh N B P d kd (τ 9 0) (τ 9 1) (τ 9 2) → K 1 τ') (h0 : ∀ τ', same [11, 12, 13] τ τ' → fdIs τ' N P d B kd → ¬ hO a1 a2 a3 nh N B P d kd (τ 9 0) (τ 9 1) (τ 9 2) → K 0 τ') : w_X7_isHeard τ K := by
  unfold w_X7_isHeard
  refine s_notes τ N B P d kd hN hf _ (fun τ1 u1 u2 => ?_)
  have e9 : τ1 9 = τ 9 := u1 9 (by decide)
  have e16 : τ1 16 = τ 16 := u1 16 (by decide)
  have e18 : τ1 0 18 = nI nh := by rw [u1 0 (by decide)]; exact e
  refine up2 (fun j y1 y2 => y2 = nI j ∧ ((y1 = 1 ∧ ∀ i, i < j → cmO a1 a2 a3 N B P d kd (τ 9 0) (τ 9 1) (τ 9 2) i) ∨ (y1 = 0 ∧ ¬ hO a1 a2 a3 nh N B P d kd (τ 9 0) (τ 9 1) (τ 9 2)))) nh ?_ 0 _ _ (Nat.zero_le _) ⟨rfl, Or.inl ⟨rfl, fun i hi => by omega⟩⟩
  rintro j rc y0 _ hj ⟨rfl, g1⟩ hrc
  unfold F_X7_isHeard_8 E_X7_isHeard_8
  rw [e18]
  rcases g1 with ⟨rfl, g1⟩ | ⟨rfl, g1⟩
  · by_cases c1 : nh ≤ j
    · exact it_p (nI_le c1 (by omega)) ⟨Or.inr rfl, h1 τ1 u1 u2 (fun i hi => g1 i (by omega))⟩
    · refine it_n (fun z => c1 ((nI_leI (by omega) (by omega)).mp z)) (it_n (by decide) ?_)
      obtain ⟨q1, q2, q3, ⟨b1, hb, e1⟩, ⟨k1, hk, e2⟩, y1, hy, e3⟩ := ha j (by omega)
      have n0 : (3 : Int32) * nI j = nI (3 * j) := pk_mul 3 j
      have n1 : nI (3 * j) + 1 = nI (3 * j + 1) := nI_add _ _
      have n2 : nI (3 * j) + 2 = nI (3 * j + 2) := nI_add _ _
      rw [n0, n1, n2, nI_clamp (by omega), nI_clamp (by omega), nI_clamp (by omega), nI_1]
      refine ⟨vp_in_nI (by omega) (by omega), ?_⟩
      rintro _ rfl
      refine ⟨vp_in_nI (by omega) (by omega), ?_⟩
      rintro _ rfl
      rw [e16, q1.trans e1, q2.trans e2, q3.trans e3]
      have bad : ¬ cmO a1 a2 a3 N B P d kd (τ 9 0) (τ 9 1) (τ 9 2) j → rc 0 (nI (j + 1)) := fun z => hrc _ _ (by omega) ⟨rfl, Or.inr ⟨rfl, fun y => z (y j (by omega))⟩⟩
      have inj : cmO a1 a2 a3 N B P d kd (τ 9 0) (τ 9 1) (τ 9 2) j → b1 < B ∧ k1 < N ∧ NT P d N (τ 9 0) (τ 9 1) (τ 9 2) (rb kd b1) k1 = some (nI y1) := by
        rintro ⟨b2, k2, w1, w2, w3, w4, w5⟩
        rw [e1, nI_eq (by omega) (by omega)] at w3
        rw [e2, nI_eq (by omega) (by omega)] at w4
        subst w3
        subst w4
        rw [e3] at w5
        exact ⟨w1, w2, w5⟩
      by_cases c3 : b1 < B
      · refine barY hB u2.2.2.2.1 c3 _ (it_n (by decide) ?_)
        by_cases c2 : k1 < N
        · refine sngY hN u2.1.1 c2 _ (it_n (by decide) ⟨vp_in_nI (by omega) (by omega), ?_⟩)
          rw [nI_clamp (by omega), (u2.2.2.1 k1 c2).2.1]
          refine it_c (fun c4 => bad (fun z => ?_)) (fun c4 => ?_)
          · have w1 := (inj z).2.2
            rw [NT_n.mpr ((stpv_n hN c2).mp c4)] at w1
            cases w1
          · cases en : NT P d N (τ 9 0) (τ 9 1) (τ 9 2) (rb kd b1) k1 with
            | none => exact absurd ((stpv_n hN c2).mpr (NT_n.mp en)) c4
            | some x =>
              refine s_noteIn τ1 N B k1 b1 P d kd hN hB c2 c3 u2 x (by rw [e9]; exact en) _ ⟨vp_in_nI (by omega) (by omega), it_c (fun c5 => ?_) (fun c5 => bad (fun z => ?_))⟩
              · refine hrc _ _ (by omega) ⟨rfl, Or.inl ⟨rfl, fun i hi => ?_⟩⟩
                by_cases c6 : i = j
                · subst c6
                  exact ⟨b1, k1, c3, c2, e1, e2, by rw [e3, ← c5]; exact en⟩
                · exact g1 i (by omega)
              · have w1 := (inj z).2.2
                rw [en] at w1
                exact c5 (Option.some.inj w1)
        · exact sngN hN u2.1.1 (Or.inr (nI_le (by omega) (by omega))) _ (it_p rfl (bad (fun z => c2 (inj z).2.1)))
      · exact barN hB u2.2.2.2.1 (Or.inr (nI_le (by omega) (by omega))) _ (it_p rfl (bad (fun z => c3 (inj z).1)))
  · refine it_c (fun _ => ⟨Or.inl rfl, h0 τ1 u1 u2 g1⟩) (fun _ => it_p rfl ⟨Or.inl rfl, h0 τ1 u1 u2 g1⟩)
noncomputable def sel (p1 : Nat → Prop) (k1 : Nat) : Nat → Option Nat
  | 0 => none
  | n + 1 => by classical exact if p1 n ∧ ctP p1 n = k1 then some n else sel p1 k1 n
theorem sel_y {p1 : Nat → Prop} {k1 n : Nat} (h : p1 n) (h2 : ctP p1 n = k1) : sel p1 k1 (n + 1) = some n := if_pos ⟨h, h2⟩
theorem sel_n {p1 : Nat → Prop} {k1 n : Nat} (h : ¬ (p1 n ∧ ctP p1 n = k1)) : sel p1 k1 (n + 1) = sel p1 k1 n := if_neg h
theorem sel_none {p1 : Nat → Prop} {k1 : Nat} : ∀ {n : Nat}, ctP p1 n ≤ k1 → sel p1 k1 n = none
  | 0, _ => rfl
  | n + 1, h => by
    by_cases c1 : p1 n
    · rw [ctP_y c1] at h
      rw [sel_n (fun z => by omega)]
      exact sel_none (by omega)
    · rw [ctP_n c1] at h
      rw [sel_n (fun z => c1 z.1)]
      exact sel_none h
theorem sel_some {p1 : Nat → Prop} {k1 : Nat} : ∀ {n : Nat}, k1 < ctP p1 n → ∃ v1, v1 < n ∧ sel p1 k1 n = some v1 ∧ p1 v1 ∧ ctP p1 v1 = k1
  | 0, h => by exact absurd h (Nat.not_lt_zero _)
  | n + 1, h => by
    by_cases c1 : p1 n
    · rw [ctP_y c1] at h
      by_cases c2 : ctP p1 n = k1
      · exact ⟨n, by omega, sel_y c1 c2, c1, c2⟩
      · obtain ⟨v1, w1, w2, w3⟩ := sel_some (p1 := p1) (k1 := k1) (n := n) (by omega)
        exact ⟨v1, by omega, by rw [sel_n (fun z => c2 z.2)]; exact w2, w3⟩
    · rw [ctP_n c1] at h
      obtain ⟨v1, w1, w2, w3⟩ := sel_some (p1 := p1) (k1 := k1) (n := n) h
      exact ⟨v1, by omega, by rw [sel_n (fun z => c1 z.1)]; exact w2, w3⟩
