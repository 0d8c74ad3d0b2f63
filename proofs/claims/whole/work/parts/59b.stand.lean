theorem s_find3 (τ : Sg) (b1 b2 : Nat → Int32) (n0 n1 : Nat) (h0 : n0 ≤ 39) (h1 : n1 ≤ 24) (e0 : τ 6 0 = nI n0) (e1 : τ 6 1 = nI n1) (hb1 : ∀ i, i < n0 → τ 5 i = b1 i) (hb2 : ∀ i, i < n1 → τ 5 (40 + i) = b2 i) (K : Sg → Prop) (h : ∀ τ', same [0, 7, 8, 10, 11, 12, 13] τ τ' → kpM τ τ' → K τ') : w_X7_find τ K := by
  have ok := okC_S (b := b1) h0
  unfold w_X7_find
  refine s_readsS2 τ b1 n0 h0 e0 hb1 _ (fun τ1 a1 a2 a3 => ?_)
  have c6 : τ1 6 = τ 6 := a1 6 (by decide)
  have c5 : τ1 5 = τ 5 := a1 5 (by decide)
  refine s_readsB2 τ1 b2 n1 h1 (by rw [c6]; exact e1) (fun i hi => by rw [c5]; exact hb2 i hi) _ (fun τ2 c1 c2 c3 => ?_)
  have m2 : mdIs τ2 (nS b1 n0) (dS b1) := by
    unfold mdIs
    rw [c2 7 (by decide), c1 7 (by decide)]
    exact a3
  refine up2 (fun j y ρ => y = nI j ∧ same [10] τ2 ρ ∧ ∀ i, i < j → ρ 10 i = dS b1 0 i) (nS b1 n0) ?_ 0 _ _ (Nat.zero_le _) ⟨rfl, same.rf, fun i hi => by omega⟩
  rintro j rc _ ρ hj ⟨rfl, g1, g2⟩ hrc
  have mρ : mdIs ρ (nS b1 n0) (dS b1) := by
    unfold mdIs
    rw [g1 0 (by decide), g1 7 (by decide)]
    exact m2
  have hN := ok.1
  unfold F_X7_find_12 E_X7_find_12
  rw [mρ.1]
  by_cases hjN : nS b1 n0 ≤ j
  · refine it_p ((nI_leI (by omega) (by omega)).mpr hjN) ?_
    have ej : j = nS b1 n0 := by omega
    refine s_findNotes ρ (nS b1 n0) (dS b1 0) (dS b1) hN mρ (fun i hi => g2 i (by omega)) _ (fun τ3 k1 k2 => ?_)
    have zz : ∀ q, q ≠ 7 → q ≠ 9 → τ3 0 q = τ 0 q := fun q q1 q2 => by rw [k1 0 (by decide), g1 0 (by decide), c2 q q2, a2 q q1]
    have sm : same [0, 7, 8, 10, 11, 12, 13] τ τ3 := (((a1.mono (by decide)).tr (c1.mono (by decide))).tr (g1.mono (by decide))).tr (k1.mono (by decide))
    exact h τ3 sm ⟨sm.mono (by decide), zz 4 (by decide) (by decide), zz 18 (by decide) (by decide), fun i _ => by rw [sm 9 (by decide)]⟩
  · refine it_n (fun z => hjN ((nI_leI (by omega) (by omega)).mp z)) ?_
    have m0 := mρ.2 j (by omega) 0 (by omega)
    simp (disch := omega) only [Nat.reduceAdd, fa_lit, nI_leI, nI_ltI, nI_eq, nI_add, pk_mul, pk_sub, pk_div, nI_clamp, c_vin, c_em1, c_m1e]
    refine ⟨by omega, by omega, ?_⟩
    rintro _ rfl
    rw [show 4 * j = 4 * j + 0 by omega, m0]
    refine hrc _ _ (by omega) ⟨rfl, g1.pt (by decide), fun i hi => ?_⟩
    by_cases e : i = j
    · subst e
      exact pt_s _ _ _ _
    · rw [pt_o _ _ e]
      exact g2 i (by omega)
theorem fnd3 {σ τ : Sg} (h : Rel σ τ) (K : Sg → Prop) (hK : ∀ τ', same [0, 7, 8, 10, 11, 12, 13] τ τ' → Rel σ τ' → K τ') : w_X7_find τ K := by
  have hR := h
  obtain ⟨⟨n0, n1, ht, hp⟩, ho⟩ := h
  obtain ⟨t1, t2, t3, t4, t5, t6, t7, t8, t9, t10⟩ := ht
  exact s_find3 τ (σ 2) (σ 4) n0 n1 t1 t2 t7 t8 t9 t10 K (fun τ' a1 a2 => hK τ' a1 (hR.kp a2))
/-- the model's state while others stand there -/
def msM (τ1 ρ : Sg) (N n5 : Nat) (P : Nat → Int32) : Prop := same [10, 11, 12, 13, 14, 15] τ1 ρ ∧ ∀ k, n5 ≤ k → k < N → ρ 10 k = P k
theorem s_standM (σ τ1 : Sg) (N n5 B b1 : Nat) (P : Nat → Int32) (d : Nat → Nat → Int32) (kd : Nat → Int32) (ok : okC N d) (hP : okP N P) (hPd : P = d 0) (hB : B ≤ 24) (hb : b1 < B) (h5 : n5 = if N < 5 then N else 5) (hf : fdIs τ1 N P d B kd) (h9 : ∀ j, j < 4 → τ1 9 j = σ 26 j) (hT : okT (σ 26 0) (σ 26 1) (σ 26 2)) (hR : Rel σ τ1) (sp : Nat → Int32) (hsp : ∀ code, sp code = spR n5 N P d (σ 26 0) (σ 26 1) (σ 26 2) (rb kd b1) code) (x2 : Int32) (hx2 : x2 = -1 ∨ ∃ i : Nat, i < 5 ∧ x2 = nI i) (K : Int32 → Sg → Prop) (h : ∀ τ', Rel σ τ' → if x2 = -1 then K (sp (mnI sp (facN n5))) τ' else if nI n5 ≤ x2 then K (-1) τ' else K (nI (rwN n5 (mnI sp (facN n5)) x2.toNatClampNeg)) τ') : w_X7_standOf (nI b1) x2 τ1 K := by
  have hN := ok.1
  have hrb : rb kd b1 ≤ 24 := by have := rb_le kd b1; omega
  have h55 : n5 ≤ 5 := by rw [h5]; split <;> omega
  have h5N : n5 ≤ N := by rw [h5]; split <;> omega
  obtain ⟨f1, f2⟩ := fac_b (show n5 < 6 by omega)
  have spn : ∀ i, i < facN n5 → ∃ m1 : Nat, m1 < 2 ^ 31 ∧ sp i = nI m1 := fun i hi => by
    obtain ⟨m1, e1, e2⟩ := spv_rg (NT_rg (r := rb kd b1) ok (PR_ok h55 h5N hi hP) hT hrb)
    exact ⟨m1, by omega, by rw [hsp]; exact e1⟩
  unfold w_X7_standOf
  have L : ∀ K : Int32 → Prop, K (nI n5) → w_X7_lesser (τ1 0 7) 5 K := fun K hK => by
    rw [hf.1.1]
    unfold w_X7_lesser
    by_cases c1 : N < 5
    · rw [if_pos c1] at h5
      subst h5
      exact it_n (fun z => by have z : nI 5 ≤ nI n5 := z; rw [nI_leI (by omega) (by omega)] at z; omega) hK
    · rw [if_neg c1] at h5
      subst h5
      exact it_p (nI_le (a := 5) (by omega) (by omega)) hK
  refine L _ ?_
  -- how many rows
  refine up2 (fun t y4 y5 => y5 = nI (t + 2) ∧ y4 = nI (facN (t + 1))) (n5 - 1) ?_ 0 _ _ (Nat.zero_le _) ⟨rfl, rfl⟩
  rintro t rc _ _ ht ⟨rfl, rfl⟩ hrc
  unfold F_X7_standOf_15
  by_cases c0 : ¬ n5 < t + 2
  · refine it_n (fun z => c0 ((nI_ltI (by omega) (by omega)).mp z)) ?_
    rw [pk_mul, nI_1]
    refine hrc _ _ (by omega) ⟨rfl, ?_⟩
    have key : ∀ t : Fin 4, facN (t.val + 1) * (t.val + 2) = facN (t.val + 2) := by decide
    rw [key ⟨t, by omega⟩]
  refine it_p (nI_lt (by omega) (by omega)) ?_
  have et : facN (t + 1) = facN n5 := by
    by_cases c1 : n5 = 0
    · rw [c1, show t = 0 by omega]
      rfl
    · rw [show t + 1 = n5 by omega]
  rw [et]
  clear hrc
  unfold E_X7_standOf_15
  refine up3 (fun j y5 y6 ρ => y6 = nI j ∧ msM τ1 ρ N n5 P ∧ (j = 0 → y5 = -1) ∧ (0 < j → y5 = sp (mnI sp j) ∧ ∀ i, i < n5 → ρ 15 i = nI (rwN n5 (mnI sp j) i))) (facN n5) ?_ 0 _ _ _ (Nat.zero_le _) ⟨rfl, ⟨same.rf, fun k k1 k2 => hf.2.1 k k2⟩, fun _ => rfl, fun z => by omega⟩
  rintro j rc y5 _ ρ hj ⟨rfl, g1, g2, g3⟩ hrc
  unfold F_X7_standOf_40 E_X7_standOf_40
  by_cases c1 : facN n5 ≤ j
  · have ej : j = facN n5 := by omega
    refine it_p (nI_le c1 (by omega)) ?_
    obtain ⟨e1, e2⟩ := g3 (by omega)
    subst e1
    have Rρ : Rel σ ρ := hR.kp (kpM.of (g1.1.mono (by decide)))
    refine fnd3 Rρ _ (fun τ' k1 k2 => ?_)
    have hh := h τ' k2
    rw [← ej] at hh
    rcases hx2 with rfl | ⟨i, hi, rfl⟩
    · rw [if_pos rfl] at hh
      exact it_p rfl hh
    · rw [if_neg (nI_m1 (by omega))] at hh
      refine it_n (nI_m1 (by omega)) ?_
      by_cases c2 : n5 ≤ i
      · rw [if_pos (nI_le c2 (by omega))] at hh
        exact it_p (nI_le c2 (by omega)) hh
      · have c3 : ¬ nI n5 ≤ nI i := fun z => c2 ((nI_leI (by omega) (by omega)).mp z)
        rw [if_neg c3, nI_clamp (by omega)] at hh
        refine it_n c3 ⟨vp_in_nI (by omega) (by omega), ?_⟩
        rw [nI_clamp (by omega), k1 15 (by decide), e2 i (by omega)]
        exact hh
  · refine it_n (fun z => c1 ((nI_leI (by omega) (by omega)).mp z)) ?_
    have hjc : j < facN n5 := by omega
    refine s_unfolds ρ n5 j h55 (by omega) _ (fun ρ1 u1 u2 => ?_)
    have u3 : ∀ i, i < n5 → ρ1 14 i = nI (rwN n5 j i) := fun i hi => by rw [u2 i hi, (rw_eq (show n5 < 6 by omega) hjc hi).2.2.2]
    refine up2 (fun q y7 ρ2 => y7 = nI q ∧ same [10, 14] ρ ρ2 ∧ ρ2 14 = ρ1 14 ∧ (∀ k, n5 ≤ k → k < N → ρ2 10 k = P k) ∧ ∀ k, k < q → ρ2 10 k = P (rwN n5 j k)) n5 ?_ 0 _ _ (Nat.zero_le _) ⟨rfl, u1.mono (by decide), rfl, fun k k1 k2 => by rw [u1 10 (by decide)]; exact g1.2 k k1 k2, fun k hk => by omega⟩
    rintro q rc2 _ ρ2 hq ⟨rfl, v1, v2, v3, v4⟩ hrc2
    unfold F_X7_standOf_57
    by_cases c2 : n5 ≤ q
    · have eq9 : q = n5 := by omega
      subst eq9
      refine it_p (nI_le c2 (by omega)) ?_
      unfold E_X7_standOf_57
      have t1s : same [10, 11, 12, 13, 14, 15] τ1 ρ2 := g1.1.tr (v1.mono (by decide))
      have md : mdIs ρ2 N d := by
        unfold mdIs
        rw [t1s 0 (by decide), t1s 7 (by decide)]
        exact hf.1
      have pl : plIs ρ2 N (PR q j P) := fun k hk => by
        unfold PR
        by_cases c3 : k < q
        · rw [if_pos c3]
          exact v4 k c3
        · rw [if_neg c3]
          exact v3 k (by omega) hk
      refine s_findNotes ρ2 N (PR q j P) d hN md pl _ (fun τ2 w1 w2 => ?_)
      have t2s : same [10, 11, 12, 13, 14, 15] τ1 τ2 := t1s.tr (w1.mono (by decide))
      have fd : fdIs τ2 N (PR q j P) d B kd := by
        refine ⟨?_, ?_, w2, ?_⟩
        · unfold mdIs
          rw [t2s 0 (by decide), t2s 7 (by decide)]
          exact hf.1
        · unfold plIs
          rw [w1 10 (by decide)]
          exact pl
        · unfold mbIs
          rw [t2s 0 (by decide), t2s 8 (by decide)]
          exact hf.2.2.2
      have e9 : τ2 9 = τ1 9 := t2s 9 (by decide)
      have ms2 : msM τ1 τ2 N q P := ⟨t2s, fun k k1 k2 => by rw [w1 10 (by decide)]; exact v3 k k1 k2⟩
      refine s_mspread0 τ2 N B b1 (PR q j P) d kd hN hB hb fd _ ?_
      rw [e9, h9 0 (by omega), h9 1 (by omega), h9 2 (by omega)]
      have es : spv (NT (PR q j P) d N (σ 26 0) (σ 26 1) (σ 26 2) (rb kd b1)) N = sp j := (hsp j).symm
      rw [es]
      have new : (j = 0 ∨ ¬ sp (mnI sp j) ≤ sp j) → J_X7_standOf_115 (nI q) rc (sp j) (nI j) τ2 := fun z => by
        unfold J_X7_standOf_115
        refine up2 (fun i y8 ρ3 => y8 = nI i ∧ same [15] τ2 ρ3 ∧ ∀ k, k < i → ρ3 15 k = nI (rwN q j k)) q ?_ 0 _ _ (Nat.zero_le _) ⟨rfl, same.rf, fun k hk => by omega⟩
        rintro i rc3 _ ρ3 hi ⟨rfl, y1, y2⟩ hrc3
        unfold F_X7_standOf_122 E_X7_standOf_122
        by_cases c4 : q ≤ i
        · have ei : i = q := by omega
          subst ei
          refine it_p (nI_le c4 (by omega)) ?_
          rw [nI_1]
          refine hrc _ _ _ (by omega) ⟨rfl, ⟨t2s.tr (y1.mono (by decide)), fun k k1 k2 => by rw [y1 10 (by decide)]; exact ms2.2 k k1 k2⟩, fun y => by omega, fun _ => ?_⟩
          rw [mnI_n z]
          exact ⟨rfl, y2⟩
        · refine it_n (fun z => c4 ((nI_leI (by omega) (by omega)).mp z)) ⟨vp_in_nI (by omega) (by omega), vp_in_nI (by omega) (by omega), ?_⟩
          rintro _ rfl
          rw [nI_clamp (by omega), nI_1, y1 14 (by decide), w1 14 (by decide), v2, u3 i (by omega)]
          refine hrc3 _ _ (by omega) ⟨rfl, y1.pt (by decide), fun k hk => ?_⟩
          by_cases c5 : k = i
          · subst c5
            exact pt_s _ _ _ _
          · rw [pt_o _ _ c5]
            exact y2 k (by omega)
      by_cases c3 : j = 0
      · exact it_p (g2 c3) (new (Or.inl c3))
      · obtain ⟨e1, e2⟩ := g3 (by omega)
        subst e1
        obtain ⟨m1, m2, m3⟩ := spn (mnI sp j) (by have := mnI_lt (f := sp) (show 0 < j by omega); omega)
        refine it_n (by rw [m3]; exact nI_m1 m2) (it_c (fun z => ?_) (fun z => new (Or.inr z)))
        rw [nI_1]
        refine hrc _ _ _ (by omega) ⟨rfl, ms2, fun y => by omega, fun _ => ?_⟩
        rw [mnI_k c3 z]
        refine ⟨rfl, fun i hi => ?_⟩
        rw [w1 15 (by decide), v1 15 (by decide)]
        exact e2 i hi
    · refine it_n (fun z => c2 ((nI_leI (by omega) (by omega)).mp z)) ?_
      have hqn : q < n5 := by omega
      have rl := (rw_eq (show n5 < 6 by omega) hjc hqn).2.2.1
      have e7 : ρ2 7 (4 * rwN n5 j q) = P (rwN n5 j q) := by
        rw [v1 7 (by decide), g1.1 7 (by decide), hPd]
        exact hf.1.2 (rwN n5 j q) (by omega) 0 (by omega)
      rw [nI_clamp (by omega), v2, u3 q hqn, show (4 : Int32) * nI (rwN n5 j q) = nI (4 * rwN n5 j q) from pk_mul 4 _, nI_clamp (by omega), e7, nI_1]
      refine ⟨vp_in_nI (by omega) (by omega), vp_in_nI (by omega) (by omega), vp_in_nI (by omega) (by omega), ?_⟩
      rintro _ rfl
      refine hrc2 _ _ (by omega) ⟨rfl, v1.pt (by decide), by rw [pt_ne _ _ _ (by decide)]; exact v2, fun k k1 k2 => ?_, fun k hk => ?_⟩
      · rw [pt_o _ _ (by omega)]
        exact v3 k k1 k2
      · by_cases c5 : k = q
        · subst c5
          exact pt_s _ _ _ _
        · rw [pt_o _ _ c5]
          exact v4 k (by omega)
theorem tw_stand {σ τ0 : Sg} (h : Rel σ τ0) (x1 x2 : Int32) : two1 (w_X6_stand x1 x2 σ) (w_X7_stand x1 x2) σ := by
  obtain ⟨N, P, d, B, kd, ok, hP, hB, hc, hn, hs, hT, hPd, _, fnd⟩ := vc h
  have hN := ok.1
  intro K hK
  unfold w_X6_stand
  rcases ix_c x1 (n1 := B) (by omega) with hx | ⟨b1, hb, rfl⟩
  · refine cbrN hs.1 hx _ (it_n (by decide) (hK _ _ same.rf ?_))
    exact fun τ hR K' hK' => fnd τ hR _ (fun τ' a1 a2 a3 a4 a5 => barN hB a3.2.2.2.1 hx _ (it_p rfl (hK' τ' a4)))
  · refine cbrY hB hs.1 hb _ (it_p rfl ?_)
    obtain ⟨n5, h5⟩ : ∃ n5, n5 = if N < 5 then N else 5 := ⟨_, rfl⟩
    have h55 : n5 ≤ 5 := by rw [h5]; split <;> omega
    have h5N : n5 ≤ N := by rw [h5]; split <;> omega
    have em : (if σ 5 0 < (5 : Int32) then σ 5 0 else 5) = nI n5 := by
      rw [hc.1.1, h5]
      show (if nI N < nI 5 then nI N else nI 5) = _
      by_cases c1 : N < 5
      · rw [if_pos c1, if_pos (nI_lt c1 (by omega))]
      · rw [if_neg c1, if_neg (i_nlt (nI_le (show 5 ≤ N by omega) (by omega)))]
    have e4 : (-1 : Int32).toInt = -1 := by decide
    have e5 : (nI 5).toInt = 5 := by decide
    have e6 : (4 : Int32).toInt = 4 := by decide
    have e7 : (5 : Int32).toInt = 5 := by decide
    have e0 : (0 : Int32).toInt = 0 := by decide
    by_cases cx : x2 = -1 ∨ ∃ i : Nat, i < 5 ∧ x2 = nI i
    · have I : ∀ K : Int32 → Prop, K 1 → w_X7_in x2.toInt64 (-1) 4 K := fun K hK => s_in (l := -1) (h := 4) (by decide) (by decide) _ (fun _ _ => hK) (fun z => absurd (by
        rcases cx with rfl | ⟨i, hi, rfl⟩
        · exact ⟨by decide, by decide⟩
        · refine ⟨?_, nI_le (b := 4) (by omega) (by omega)⟩
          rw [fa_le, nI_toInt (by omega)]
          omega) z)
      obtain ⟨sp, hsp⟩ : ∃ sp : Nat → Int32, ∀ code, sp code = spR n5 N P d (σ 26 0) (σ 26 1) (σ 26 2) (rb kd b1) code := ⟨_, fun _ => rfl⟩
      have M : ∀ τ, Rel σ τ → ∀ K' : Int32 → Sg → Prop, (∀ τ', Rel σ τ' → if x2 = -1 then K' (sp (mnI sp (facN n5))) τ' else if nI n5 ≤ x2 then K' (-1) τ' else K' (nI (rwN n5 (mnI sp (facN n5)) x2.toNatClampNeg)) τ') → w_X7_stand (nI b1) x2 τ K' := fun τ hR K' hK' =>
        fnd τ hR _ (fun τ' a1 a2 a3 a4 a5 => barY hB a3.2.2.2.1 hb _ (it_n (by decide) (I _ (it_n (by decide) (s_standM σ τ' N n5 B b1 P d kd ok hP hPd hB hb h5 a3 a5 hT a4 sp hsp x2 cx _ hK')))))
      have lo : ¬ x2 < -1 := by
        rcases cx with rfl | ⟨i, hi, rfl⟩
        · decide
        · rw [fa_lt, nI_toInt (by omega)]
          omega
      have hi5 : x2 < 5 := by
        rcases cx with rfl | ⟨i, hi, rfl⟩
        · decide
        · exact nI_lt (b := 5) hi (by omega)
      refine it_n lo (it_p hi5 ?_)
      rintro _ rfl
      rw [em]
      obtain ⟨f1, f2⟩ := fac_b (show n5 < 6 by omega)
      have ml := mnI_lt (f := sp) f1
      have gs : ∀ σ', mvC σ σ' N n5 P d → same scr σ σ' := fun σ' z => z.1.mono (by decide)
      rcases cx with rfl | ⟨i, hi, rfl⟩
      · refine it_p ?_ (s_becomeC σ N n5 P d ok hc.1 _ (fun σ1 u1 => s_best σ σ1 N n5 B b1 P d kd ok hP hB hb h55 h5N hc hs hT u1 sp hsp _ (fun σ2 u2 => it_p rfl (s_moved σ σ2 N n5 B b1 (mnI sp (facN n5)) P d kd ok hP hB hb h55 h5N ml hc hs hT u2 _ (fun σ3 u3 => ?_)))))
        · rw [fa_lt, nI_toInt (by omega)]
          omega
        · rw [← hsp]
          exact hK _ _ (gs σ3 u3) (fun τ hR K' hK' => M τ hR K' (fun τ' hR' => it_p rfl (hK' τ' hR')))
      · by_cases c1 : i < n5
        · refine it_p (nI_lt c1 (by omega)) (s_becomeC σ N n5 P d ok hc.1 _ (fun σ1 u1 => s_best σ σ1 N n5 B b1 P d kd ok hP hB hb h55 h5N hc hs hT u1 sp hsp _ (fun σ2 u2 => it_n (nI_m1 (by omega)) (s_lay σ2 n5 (mnI sp (facN n5)) h55 ml _ (fun σ3 u3 u4 => ⟨vp_in_nI (by omega) (by omega), ?_⟩)))))
          rw [nI_clamp (by omega), u4 i c1]
          refine hK _ _ ((gs σ2 u2).tr (u3.mono (by decide))) (fun τ hR K' hK' => M τ hR K' (fun τ' hR' => it_n (nI_m1 (by omega)) (it_n (fun z => ?_) ?_)))
          · rw [nI_leI (by omega) (by omega)] at z
            omega
          · rw [nI_clamp (by omega)]
            exact hK' τ' hR'
        · refine it_n (fun z => c1 ((nI_ltI (by omega) (by omega)).mp z)) (hK _ _ same.rf (fun τ hR K' hK' => M τ hR K' (fun τ' hR' => it_n (nI_m1 (by omega)) (it_p (nI_le (by omega) (by omega)) (hK' τ' hR')))))
    · have bad : K (-2) σ := hK _ _ same.rf (fun τ hR K' hK' => fnd τ hR _ (fun τ' a1 a2 a3 a4 a5 => barY hB a3.2.2.2.1 hb _ (it_n (by decide) (s_in (l := -1) (h := 4) (by decide) (by decide) _ (fun z1 z2 => absurd (by
        rcases ix_c x2 (n1 := 5) (by omega) with hx | hx
        · refine Or.inl ?_
          rw [fa_le] at z1 z2
          rw [fa_lt, fa_le] at hx
          rw [fa_eq]
          omega
        · exact Or.inr hx) cx) (fun z => it_p rfl (hK' τ' a4))))))
      refine it_c (fun _ => bad) (fun z1 => it_n (fun z2 => cx ?_) bad)
      rcases ix_c x2 (n1 := 5) (by omega) with hx | hx
      · refine Or.inl ?_
        rw [fa_lt] at z1 z2
        rw [fa_lt, fa_le] at hx
        rw [fa_eq]
        omega
      · exact Or.inr hx
theorem op_stand {σ τ : Sg} (h : Rel σ τ) (x1 x2 : Int32) : w_X6_stand x1 x2 σ (fun r1 σ1 => w_X7_stand x1 x2 τ (fun r2 τ1 => r1 = r2 ∧ Rel σ1 τ1)) := (tw_stand h x1 x2).op h
