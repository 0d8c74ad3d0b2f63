/-- the class's other choir: as the choir, but for the places of the first ones and for what is found -/
def mvC (σ ρ : Sg) (N n5 : Nat) (P : Nat → Int32) (d : Nat → Nat → Int32) : Prop := same [14, 15, 16, 17, 18, 19, 20, 21, 22, 41] σ ρ ∧ ρ 14 0 = nI N ∧ ∀ i, i < N → (n5 ≤ i → ρ 15 i = P i) ∧ ρ 16 i = d 1 i ∧ ρ 17 i = d 2 i ∧ ρ 18 i = d 3 i
theorem s_becomeC (σ : Sg) (N n5 : Nat) (P : Nat → Int32) (d : Nat → Nat → Int32) (ok : okC N d) (hc : chIs σ 5 N P d) (K : Sg → Prop) (h : ∀ σ', mvC σ σ' N n5 P d → K σ') : w_X0_become 14 5 σ K := by
  have hN := ok.1
  unfold w_X0_become
  rintro _ rfl
  rw [hc.1]
  refine up2 (fun j y2 ρ => y2 = nI j ∧ same [14, 15, 16, 17, 18] σ ρ ∧ ρ 14 0 = nI N ∧ ∀ i, i < j → ρ 15 i = P i ∧ ρ 16 i = d 1 i ∧ ρ 17 i = d 2 i ∧ ρ 18 i = d 3 i) N ?_ 0 _ _ (Nat.zero_le _) ⟨rfl, same.rf.pt (by decide), pt_s _ _ _ _, fun i hi => by omega⟩
  rintro j rc _ ρ hj ⟨rfl, g1, g2, g3⟩ hrc
  unfold F_X0_become_10 E_X0_become_10
  simp only [Nat.reduceAdd]
  rw [g2]
  by_cases c1 : N ≤ j
  · refine it_p (nI_le c1 (by omega)) (h ρ ⟨g1.mono (by decide), g2, fun i hi => ?_⟩)
    obtain ⟨a1, a2⟩ := g3 i (by omega)
    exact ⟨fun _ => a1, a2⟩
  · have hjN : j < N := by omega
    have vi : vp_in (nI j) 8 := vp_in_nI (by omega) (by omega)
    obtain ⟨c2, c3, c4, c5⟩ := hc.2 j hjN
    refine it_n (fun z => c1 ((nI_leI (by omega) (by omega)).mp z)) ?_
    rw [nI_clamp (by omega)]
    refine ⟨vi, vi, ?_⟩
    rintro _ rfl
    refine ⟨vi, vi, ?_⟩
    rintro _ rfl
    refine ⟨vi, vi, ?_⟩
    rintro _ rfl
    refine ⟨vi, vi, ?_⟩
    rintro _ rfl
    have e6 : ρ 6 j = P j := by rw [g1 6 (by decide)]; exact c2
    have e7 : ρ 7 j = d 1 j := by rw [g1 7 (by decide)]; exact c3
    have e8 : ρ 8 j = d 2 j := by rw [g1 8 (by decide)]; exact c4
    have e9 : vp_nar .boolean (ρ 9 j) = d 3 j := by
      rw [g1 9 (by decide), show σ 9 j = d 3 j from c5]
      rcases (ok.2 j hjN).2.2.2 with z | z
      · rw [z]; exact nar_0
      · rw [z]; exact nar_1
    simp only [pt_ne _ _ _ (show 7 ≠ 15 by decide), pt_ne _ _ _ (show 8 ≠ 16 by decide), pt_ne _ _ _ (show 8 ≠ 15 by decide), pt_ne _ _ _ (show 9 ≠ 17 by decide), pt_ne _ _ _ (show 9 ≠ 16 by decide), pt_ne _ _ _ (show 9 ≠ 15 by decide), e6, e7, e8, e9]
    rw [nI_1]
    refine hrc _ _ (by omega) ⟨rfl, (((g1.pt (by decide)).pt (by decide)).pt (by decide)).pt (by decide), ?_, fun i hi => ?_⟩
    · rw [pt_ne _ _ _ (by decide), pt_ne _ _ _ (by decide), pt_ne _ _ _ (by decide), pt_ne _ _ _ (by decide)]
      exact g2
    · by_cases c6 : i = j
      · subst c6
        refine ⟨?_, ?_, ?_, pt_s _ _ _ _⟩
        · rw [pt_ne _ _ _ (by decide), pt_ne _ _ _ (by decide), pt_ne _ _ _ (by decide), pt_s]
        · rw [pt_ne _ _ _ (by decide), pt_ne _ _ _ (by decide), pt_s]
        · rw [pt_ne _ _ _ (by decide), pt_s]
      · obtain ⟨a1, a2, a3, a4⟩ := g3 i (by omega)
        refine ⟨?_, ?_, ?_, ?_⟩
        · rw [pt_ne _ _ _ (by decide), pt_ne _ _ _ (by decide), pt_ne _ _ _ (by decide), pt_o _ _ c6]
          exact a1
        · rw [pt_ne _ _ _ (by decide), pt_ne _ _ _ (by decide), pt_o _ _ c6, pt_ne _ _ _ (by decide)]
          exact a2
        · rw [pt_ne _ _ _ (by decide), pt_o _ _ c6, pt_ne _ _ _ (by decide), pt_ne _ _ _ (by decide)]
          exact a3
        · rw [pt_o _ _ c6, pt_ne _ _ _ (by decide), pt_ne _ _ _ (by decide), pt_ne _ _ _ (by decide)]
          exact a4
/-- the places when the row of that number stands -/
def PR (n5 code : Nat) (P : Nat → Int32) (i : Nat) : Int32 := if i < n5 then P (rwN n5 code i) else P i
theorem PR_ok {N n5 code : Nat} {P : Nat → Int32} (h5 : n5 ≤ 5) (hn : n5 ≤ N) (hc : code < facN n5) (hP : okP N P) : okP N (PR n5 code P) := by
  intro k hk
  unfold PR
  split
  · rename_i c1
    exact hP _ (by have := (rw_eq (show n5 < 6 by omega) hc c1).2.2.1; omega)
  · exact hP k hk
def spR (n5 N : Nat) (P : Nat → Int32) (d : Nat → Nat → Int32) (v e w : Int32) (r1 code : Nat) : Int32 := spv (NT (PR n5 code P) d N v e w r1) N
theorem s_moved (σ ρ : Sg) (N n5 B b1 code : Nat) (P : Nat → Int32) (d : Nat → Nat → Int32) (kd : Nat → Int32) (ok : okC N d) (hP : okP N P) (hB : B ≤ 24) (hb : b1 < B) (h5 : n5 ≤ 5) (hn : n5 ≤ N) (hcd : code < facN n5) (hc : clIs σ 5 N P d) (hs : soIs σ B kd) (hT : okT (σ 26 0) (σ 26 1) (σ 26 2)) (hm : mvC σ ρ N n5 P d) (K : Int32 → Sg → Prop) (h : ∀ σ', mvC σ σ' N n5 P d → K (spR n5 N P d (σ 26 0) (σ 26 1) (σ 26 2) (rb kd b1) code) σ') : w_X6_spreadWhenMoved (nI code) (nI n5) (nI b1) ρ K := by
  have hN := ok.1
  have hrb : rb kd b1 ≤ 24 := by have := rb_le kd b1; omega
  unfold w_X6_spreadWhenMoved
  refine s_lay ρ n5 code h5 hcd _ (fun ρ1 u1 u2 => ?_)
  have m1 : mvC σ ρ1 N n5 P d := by
    obtain ⟨q1, q2, q3⟩ := hm
    refine ⟨q1.tr (u1.mono (by decide)), ?_, fun i hi => ?_⟩
    · rw [u1 14 (by decide)]
      exact q2
    · rw [u1 15 (by decide), u1 16 (by decide), u1 17 (by decide), u1 18 (by decide)]
      exact q3 i hi
  refine up2 (fun j y4 ρ2 => y4 = nI j ∧ mvC σ ρ2 N n5 P d ∧ ρ2 41 = ρ1 41 ∧ ∀ i, i < j → ρ2 15 i = P (rwN n5 code i)) n5 ?_ 0 _ _ (Nat.zero_le _) ⟨rfl, m1, rfl, fun i hi => by omega⟩
  rintro j rc _ ρ2 hj ⟨rfl, g1, g2, g3⟩ hrc
  unfold F_X6_spreadWhenMoved_9 E_X6_spreadWhenMoved_9
  by_cases c1 : n5 ≤ j
  · have ej : j = n5 := by omega
    subst ej
    refine it_p (nI_le c1 (by omega)) ?_
    obtain ⟨q1, q2, q3⟩ := g1
    have hPR := PR_ok h5 hn hcd hP
    have ch : chIs ρ2 14 N (PR j code P) d := by
      refine ⟨q2, fun i hi => ?_⟩
      obtain ⟨r1, r2⟩ := q3 i hi
      refine ⟨?_, r2⟩
      unfold PR
      by_cases c2 : i < j
      · rw [if_pos c2]
        exact g3 i c2
      · rw [if_neg c2]
        exact r1 (by omega)
    refine s_link ρ2 14 N (PR j code P) d hN ch hPR (fun i hi => (ok.2 i hi).2.2.2) _ (fun σ' w1 w2 w3 => ?_)
    have ws : same [19, 20, 21, 22] ρ2 σ' := w1
    have sm : same [14, 15, 16, 17, 18, 19, 20, 21, 22, 41] σ σ' := q1.tr (ws.mono (by decide))
    have ch2 : chIs σ' 14 N (PR j code P) d := by
      unfold chIs at ch ⊢
      simp only [Nat.reduceAdd] at ch ⊢
      rw [ws 14 (by decide), ws 15 (by decide), ws 16 (by decide), ws 17 (by decide), ws 18 (by decide)]
      exact ch
    have mv : mvC σ σ' N j P d := by
      refine ⟨sm, ?_, fun i hi => ?_⟩
      · rw [ws 14 (by decide)]
        exact q2
      · rw [ws 15 (by decide), ws 16 (by decide), ws 17 (by decide), ws 18 (by decide)]
        exact q3 i hi
    have e26 : σ' 26 = σ 26 := sm 26 (by decide)
    have hr : rg (NT (PR j code P) d N (σ' 26 0) (σ' 26 1) (σ' 26 2) (rb kd b1)) N := by
      rw [e26]
      exact NT_rg ok hPR hT hrb
    refine s_spread σ' 14 26 N B b1 (PR j code P) d kd hN hB hb ⟨ch2, w3⟩ (so_cg hs (fun q h1 h2 => sm q (by simp; omega))) hr _ ?_
    rw [e26]
    exact h σ' mv
  · refine it_n (fun z => c1 ((nI_leI (by omega) (by omega)).mp z)) ?_
    have hjn : j < n5 := by omega
    have rl := (rw_eq (show n5 < 6 by omega) hcd hjn).2.2.1
    rw [nI_clamp (by omega), g2, u2 j hjn, nI_clamp (by omega)]
    refine ⟨vp_in_nI (by omega) (by omega), vp_in_nI (by omega) (by omega), vp_in_nI (by omega) (by omega), ?_⟩
    rintro _ rfl
    obtain ⟨q1, q2, q3⟩ := g1
    have e6 : ρ2 (5 + 1) (rwN n5 code j) = P (rwN n5 code j) := by
      show ρ2 6 (rwN n5 code j) = _
      rw [q1 6 (by decide)]
      exact (hc.1.2 _ (by omega)).1
    rw [e6, nI_1]
    show rc (nI (j + 1)) (pt ρ2 15 j (P (rwN n5 code j)))
    refine hrc _ _ (by omega) ⟨rfl, ⟨q1.pt (by decide), ?_, fun i hi => ?_⟩, ?_, fun i hi => ?_⟩
    · rw [pt_ne _ _ _ (by decide)]
      exact q2
    · rw [pt_ne ρ2 _ _ (show 16 ≠ 15 by decide), pt_ne ρ2 _ _ (show 17 ≠ 15 by decide), pt_ne ρ2 _ _ (show 18 ≠ 15 by decide)]
      obtain ⟨r1, r2⟩ := q3 i hi
      refine ⟨fun z => ?_, r2⟩
      rw [pt_o _ _ (by omega)]
      exact r1 z
    · rw [pt_ne _ _ _ (by decide)]
      exact g2
    · by_cases c2 : i = j
      · subst c2
        exact pt_s _ _ _ _
      · rw [pt_o _ _ c2]
        exact g3 i (by omega)
theorem mnI_stop {f1 : Nat → Int32} {M1 j : Nat} (hf : ∀ i, i < M1 → ∃ m1 : Nat, m1 < 2 ^ 31 ∧ f1 i = nI m1) (h0 : 0 < j) (hz : f1 (mnI f1 j) = nI 0) : ∀ {m1 : Nat}, j + m1 ≤ M1 → mnI f1 (j + m1) = mnI f1 j
  | 0, _ => rfl
  | m1 + 1, h => by
    have ih := mnI_stop hf h0 hz (m1 := m1) (by omega)
    rw [← Nat.add_assoc, mnI_k (by omega)]
    · exact ih
    · rw [ih, hz]
      obtain ⟨y1, y2, y3⟩ := hf (j + m1) (by omega)
      rw [y3]
      exact nI_le (by omega) y2
theorem s_best (σ ρ : Sg) (N n5 B b1 : Nat) (P : Nat → Int32) (d : Nat → Nat → Int32) (kd : Nat → Int32) (ok : okC N d) (hP : okP N P) (hB : B ≤ 24) (hb : b1 < B) (h5 : n5 ≤ 5) (hn : n5 ≤ N) (hc : clIs σ 5 N P d) (hs : soIs σ B kd) (hT : okT (σ 26 0) (σ 26 1) (σ 26 2)) (hm : mvC σ ρ N n5 P d) (sp : Nat → Int32) (hsp : ∀ code, sp code = spR n5 N P d (σ 26 0) (σ 26 1) (σ 26 2) (rb kd b1) code) (K : Int32 → Sg → Prop) (h : ∀ σ', mvC σ σ' N n5 P d → K (nI (mnI sp (facN n5))) σ') : w_X6_bestOrder (nI b1) (nI n5) ρ K := by
  have hN := ok.1
  have hrb : rb kd b1 ≤ 24 := by have := rb_le kd b1; omega
  obtain ⟨f1, f2⟩ := fac_b (show n5 < 6 by omega)
  have spn : ∀ i, i < facN n5 → ∃ m1 : Nat, m1 < 2 ^ 31 ∧ sp i = nI m1 := fun i hi => by
    obtain ⟨m1, e1, e2⟩ := spv_rg (NT_rg (r := rb kd b1) ok (PR_ok h5 hn hi hP) hT hrb)
    exact ⟨m1, by omega, by rw [hsp]; exact e1⟩
  unfold w_X6_bestOrder
  show w_X6_spreadWhenMoved (nI 0) (nI n5) (nI b1) ρ _
  refine s_moved σ ρ N n5 B b1 0 P d kd ok hP hB hb h5 hn f1 hc hs hT hm _ (fun ρ1 u1 => ?_)
  rw [← hsp 0]
  refine up4 (fun j y3 y4 y5 ρ2 => 0 < j ∧ y3 = nI (mnI sp j) ∧ y4 = sp (mnI sp j) ∧ y5 = nI j ∧ mvC σ ρ2 N n5 P d) (facN n5) ?_ 1 _ _ _ _ f1 ⟨by omega, rfl, rfl, rfl, u1⟩
  rintro j rc _ _ _ ρ2 hj ⟨hj0, rfl, rfl, rfl, g1⟩ hrc
  have ml := mnI_lt (f := sp) hj0
  unfold F_X6_bestOrder_14 E_X6_bestOrder_14
  rw [nI_clamp (by omega), fac_I (by omega)]
  refine ⟨vp_in_nI (by omega) (by omega), ?_⟩
  by_cases c1 : facN n5 ≤ j
  · have ej : j = facN n5 := by omega
    rw [← ej] at h
    exact it_p (nI_le c1 (by omega)) (h ρ2 g1)
  · refine it_n (fun z => c1 ((nI_leI (by omega) (by omega)).mp z)) ?_
    obtain ⟨m1, e1, e2⟩ := spn (mnI sp j) (by omega)
    refine it_c (fun z => ?_) (fun z => ?_)
    · have ez : sp (mnI sp j) = nI 0 := by
        rw [e2] at z ⊢
        have z2 : nI m1 ≤ nI 0 := z
        rw [nI_leI (by omega) (by omega)] at z2
        rw [show m1 = 0 by omega]
      have es := mnI_stop spn hj0 ez (m1 := facN n5 - j) (by omega)
      rw [show j + (facN n5 - j) = facN n5 by omega] at es
      rw [← es]
      exact h ρ2 g1
    · refine s_moved σ ρ2 N n5 B b1 j P d kd ok hP hB hb h5 hn (by omega) hc hs hT g1 _ (fun ρ3 v1 => ?_)
      rw [← hsp j, nI_1]
      refine it_c (fun z2 => ?_) (fun z2 => ?_)
      · refine hrc _ _ _ _ (by omega) ⟨by omega, ?_, ?_, rfl, v1⟩
        · rw [mnI_k (by omega) z2]
        · rw [mnI_k (by omega) z2]
      · refine hrc _ _ _ _ (by omega) ⟨by omega, ?_, ?_, rfl, v1⟩
        · rw [mnI_n (Or.inr z2)]
        · rw [mnI_n (Or.inr z2)]
