theorem mvM.notes {τ1 ρ : Sg} {N : Nat} {P : Nat → Int32} {d : Nat → Nat → Int32} {B : Nat} {kd : Nat → Int32} {j : Nat} (hN : N ≤ 8) (h : mvM τ1 ρ N P d B kd j) (x : Int32) (K : Sg → Prop) (hK : ∀ τ', mvM τ1 τ' N P d B kd j → τ' 9 = pt ρ 9 j x 9 → K τ') : w_X7_findNotes (pt ρ 9 j x) K := by
  obtain ⟨g1, g2, g3⟩ := h
  refine s_notes _ N B P d kd hN ⟨ρ, g3, same.rf.pt (by decide), by rw [pt_ne _ _ _ (by decide)], by rw [pt_ne _ _ _ (by decide)]⟩ _ (fun τ' k2 k3 => hK τ' ⟨(g1.tr ((same.rf.pt (by decide) : same [9] ρ (pt ρ 9 j x)).mono (by decide))).tr (k2.mono (by decide)), fun q hq => ?_, k3⟩ (k2 9 (by decide)))
  rw [k2 9 (by decide), pt_o _ _ hq]
  exact g2 q hq
theorem s_herdM (σ τ1 : Sg) (N B b1 n1 c1 k1 : Nat) (P : Nat → Int32) (d : Nat → Nat → Int32) (kd : Nat → Int32) (hN : N ≤ 8) (hB : B ≤ 24) (hb : b1 < B) (hn : n1 ≤ 9) (hc1 : c1 ≤ 16) (hf : fdIs τ1 N P d B kd) (h9 : ∀ j, j < 4 → τ1 9 j = σ 26 j) (tp : Nat → Prop) (htp : ∀ j, tp j ↔ clz (NT P d N (σ 26 0) (nI j) (σ 26 2) (rb kd b1)) N kd b1 (σ 26 3)) (A1 : Nat) (hA : A1 = wyN tp n1 c1 (n1 + 1)) (K : Int64 → Sg → Prop) (h : ∀ τ', kpM τ1 τ' → if nI k1 = 0 then K (lN (A1 / Nat.gcd A1 (16 ^ n1))) τ' else K (lN (16 ^ n1 / Nat.gcd A1 (16 ^ n1))) τ') : w_X7_herdOf (nI n1) (nI c1) (nI b1) (nI k1) τ1 K := by
  have hA2 : A1 < 2 ^ 63 := by rw [hA]; exact wyN_63 hn hc1
  unfold w_X7_herdOf
  rw [z1]
  refine ⟨i14, ?_⟩
  rintro _ rfl
  refine up5 (fun j y6 y8 y10 y12 ρ => y6 = lN (wyN tp n1 c1 j) ∧ y8 = lN (16 ^ (min j n1)) ∧ y10 = lN (chN n1 j) ∧ y12 = nI j ∧ mvM τ1 ρ N P d B kd 1) (n1 + 1) ?_ 0 _ _ _ _ _ (Nat.zero_le _) ⟨rfl, by rw [Nat.zero_min, Nat.pow_zero]; rfl, rfl, rfl, mvM.rf hf⟩
  rintro j rc _ _ _ _ ρ hj ⟨rfl, rfl, rfl, rfl, g1⟩ hrc
  unfold F_X7_herdOf_20 E_X7_herdOf_20
  rw [z1]
  by_cases c2 : n1 < j
  · have ej : j = n1 + 1 := by omega
    subst ej
    refine it_p (nI_lt c2 (by omega)) ⟨i14, ?_⟩
    rintro _ rfl
    refine g1.back hN _ (fun τ' w1 w2 w3 w4 w5 => ?_)
    rw [Nat.min_eq_right (Nat.le_succ _), ← hA]
    have hp : (16 : Nat) ^ n1 ≤ 16 ^ 9 := Nat.pow_le_pow_right (by decide) hn
    exact s_part A1 (16 ^ n1) k1 hA2 (by omega) (Nat.pow_pos (by decide)) _ (h τ' w1)
  · refine it_n (fun z => c2 ((nI_ltI (by omega) (by omega)).mp z)) ?_
    have hjn : j ≤ n1 := by omega
    refine up2 (fun i y13 y15 => y13 = lN (chN n1 j * c1 ^ (min i j) * (16 - c1) ^ (i - j)) ∧ y15 = nI i) n1 ?_ 0 _ _ (Nat.zero_le _) ⟨by rw [Nat.zero_min, Nat.zero_sub, Nat.pow_zero, Nat.pow_zero, Nat.mul_one, Nat.mul_one], rfl⟩
    rintro i rc2 _ _ hi ⟨rfl, rfl⟩ hrc2
    unfold F_X7_herdOf_33
    by_cases c3 : n1 ≤ i
    · have ei : i = n1 := by omega
      subst ei
      refine it_p (nI_le c3 (by omega)) ?_
      rw [Nat.min_eq_right hjn]
      show E_X7_herdOf_33 ρ (nI j) (nI b1) (nI i) (lN (chN i j)) rc (lN (16 ^ (min j i))) (lN (wyN tp i c1 j)) (lN (wgN i c1 j))
      unfold E_X7_herdOf_33
      rw [z1]
      refine ⟨i14, ?_⟩
      rintro _ rfl
      refine g1.notes hN (nI j) _ (fun τ2 k1 k2 => ?_)
      have e0 : τ2 9 0 = σ 26 0 := by rw [k2, pt_o _ _ (by decide), g1.2.1 0 (by decide), h9 0 (by omega)]
      have e1 : τ2 9 1 = nI j := by rw [k2, pt_s]
      have e2 : τ2 9 2 = σ 26 2 := by rw [k2, pt_o _ _ (by decide), g1.2.1 2 (by decide), h9 2 (by omega)]
      have e3 : τ2 9 3 = σ 26 3 := by rw [k2, pt_o _ _ (by decide), g1.2.1 3 (by decide), h9 3 (by omega)]
      have tpj : tp j ↔ clz (NT P d N (τ2 9 0) (τ2 9 1) (τ2 9 2) (rb kd b1)) N kd b1 (τ2 9 3) := by
        rw [e0, e1, e2, e3]
        exact htp j
      obtain ⟨q1, q2⟩ := ch_nx hn hjn
      have key : ∀ v0 : Int64, lN (wyN tp i c1 j) + v0 = lN (wyN tp i c1 (j + 1)) → J_X7_herdOf_95 (nI i) (nI j) (lN (chN i j)) rc τ2 (lN (16 ^ (min j i))) v0 (lN (wyN tp i c1 j)) := by
        intro v0 ev
        unfold J_X7_herdOf_95 J_X7_herdOf_113
        by_cases c4 : i ≤ j
        · refine it_p (nI_le c4 (by omega)) ⟨q2, ?_⟩
          rintro _ rfl
          rw [q1, nI_1, ev, Int64.mul_one]
          refine hrc _ _ _ _ _ (by omega) ⟨rfl, ?_, rfl, rfl, k1⟩
          rw [Nat.min_eq_right c4, Nat.min_eq_right (by omega)]
        · refine it_n (fun z => c4 ((nI_leI (by omega) (by omega)).mp z)) ⟨q2, ?_⟩
          rintro _ rfl
          rw [q1, nI_1, ev, show lN (16 ^ (min j i)) * (16 : Int64) = lN (16 ^ (min j i) * 16) from lN_mul _ 16]
          refine hrc _ _ _ _ _ (by omega) ⟨rfl, ?_, rfl, rfl, k1⟩
          rw [Nat.min_eq_left (by omega), Nat.min_eq_left (by omega), Nat.pow_succ]
      refine s_mcloses τ2 N B b1 P d kd hN hB hb k1.2.2 _ (fun z => it_n (by decide) (key _ ?_)) (fun z => it_p rfl (key _ ?_))
      · rw [← tpj] at z
        rw [wyN_y z, lN_add]
      · rw [← tpj] at z
        rw [wyN_n z, Int64.add_zero]
    · refine it_n (fun z => c3 ((nI_leI (by omega) (by omega)).mp z)) ?_
      by_cases c4 : j ≤ i
      · refine it_p (nI_le c4 (by omega)) ?_
        rintro _ rfl
        rw [show (16 : Int32) - nI c1 = nI (16 - c1) from pk_sub (a := 16) hc1, L_i (by omega), lN_mul, nI_1]
        refine hrc2 _ _ (by omega) ⟨?_, rfl⟩
        rw [Nat.min_eq_right c4, Nat.min_eq_right (show j ≤ i + 1 by omega), show i + 1 - j = (i - j) + 1 by omega, Nat.pow_succ, Nat.mul_assoc _ _ (16 - c1)]
      · refine it_n (fun z => c4 ((nI_leI (by omega) (by omega)).mp z)) ?_
        rw [L_i (by omega), lN_mul, nI_1]
        refine hrc2 _ _ (by omega) ⟨?_, rfl⟩
        rw [Nat.min_eq_left (show i ≤ j by omega), Nat.min_eq_left (show i + 1 ≤ j by omega), show i + 1 - j = 0 by omega, show i - j = 0 by omega, Nat.pow_zero, Nat.mul_one, Nat.mul_one, Nat.pow_succ, Nat.mul_assoc]
/-- both sides of a call that only asks: the class's, and the model's from any like state -/
def two1 {A : Type} (C : (A → Sg → Prop) → Prop) (M : Sg → (A → Sg → Prop) → Prop) (σ : Sg) : Prop := ∀ K : A → Sg → Prop, (∀ r σ1, same scr σ σ1 → (∀ τ, Rel σ τ → ∀ K' : A → Sg → Prop, (∀ τ', Rel σ τ' → K' r τ') → M τ K') → K r σ1) → C K
theorem two1.op {A : Type} {C : (A → Sg → Prop) → Prop} {M : Sg → (A → Sg → Prop) → Prop} {σ τ : Sg} (h2 : two1 C M σ) (h : Rel σ τ) : C (fun r1 σ1 => M τ (fun r2 τ1 => r1 = r2 ∧ Rel σ1 τ1)) := h2 _ (fun _ _ hs hM => hM τ h _ (fun _ hR => ⟨rfl, hR.ks hs⟩))
theorem vw2 {σ τ0 : Sg} (h : Rel σ τ0) : ∃ N P d B kd, ∀ τ, Rel σ τ → Vw σ τ N P d B kd := by
  obtain ⟨⟨n0, n1, ht, _⟩, _⟩ := h
  obtain ⟨t1, t2, t3, t4, t5, t6, _⟩ := ht
  refine ⟨nS (σ 2) n0, dS (σ 2) 0, dS (σ 2), nB (σ 4) n1, fun i => kindv (σ 4 i), fun τ hR => ?_⟩
  obtain ⟨⟨m0, m1, hu, hp⟩, ho⟩ := id hR
  obtain ⟨u1, u2, u3, u4, u5, u6, u7, u8, u9, u10⟩ := hu
  have e0 : n0 = m0 := by rw [t5, nI_eq (by omega) (by omega)] at u5; exact u5
  have e1 : n1 = m1 := by rw [t6, nI_eq (by omega) (by omega)] at u6; exact u6
  subst e0
  subst e1
  have hb := nB_le (b := σ 4) (n := n1)
  have ok := okC_S (b := σ 2) t1
  refine ⟨ok, fun k hk => (ok.2 k hk).1, by omega, hp.1, hp.2.1, hp.2.2, hR.2.1.2.1, rfl, fun i hi => kindv_3 (nB_fit hi), fun K hK => ?_⟩
  refine s_find2 τ (σ 2) (σ 4) n0 n1 t1 t2 u7 u8 u9 u10 K (fun τ' a1 a2 a3 => ?_)
  have r2 := hR.kp a1
  exact hK τ' a1 a2 a3 r2 r2.2.1.1
/-- what the class has of it, and how the model finds it -/
def Vc (σ : Sg) (N : Nat) (P : Nat → Int32) (d : Nat → Nat → Int32) (B : Nat) (kd : Nat → Int32) : Prop := okC N d ∧ okP N P ∧ B ≤ 24 ∧ clIs σ 5 N P d ∧ nbIs σ 5 N P ∧ soIs σ B kd ∧ okT (σ 26 0) (σ 26 1) (σ 26 2) ∧ P = d 0 ∧ (∀ i, i < B → kd i = 0 ∨ kd i = 1 ∨ kd i = 2) ∧ ∀ τ, Rel σ τ → ∀ K : Sg → Prop, (∀ τ', kpM τ τ' → τ' 9 = τ 9 → fdIs τ' N P d B kd → Rel σ τ' → (∀ j, j < 4 → τ' 9 j = σ 26 j) → K τ') → w_X7_find τ K
theorem vc {σ τ0 : Sg} (h : Rel σ τ0) : ∃ N P d B kd, Vc σ N P d B kd := by
  obtain ⟨N, P, d, B, kd, hv⟩ := vw2 h
  obtain ⟨v1, v2, v3, v4, v5, v6, v7, v8, v9, _⟩ := hv τ0 h
  exact ⟨N, P, d, B, kd, v1, v2, v3, v4, v5, v6, v7, v8, v9, fun τ hR => (hv τ hR).2.2.2.2.2.2.2.2.2⟩
theorem tw_herd {σ τ0 : Sg} (h : Rel σ τ0) (x1 x2 x3 x4 : Int32) : two1 (w_X6_herd x1 x2 x3 x4 σ) (w_X7_herd x1 x2 x3 x4) σ := by
  obtain ⟨N, P, d, B, kd, ok, hP, hB, hc, hn, hs, hT, _, _, fnd⟩ := vc h
  have hN := ok.1
  intro K hK
  have bad : ((∀ τ, Rel σ τ → ∀ K' : Int64 → Sg → Prop, (∀ τ', Rel σ τ' → K' (-9223372036854775806) τ') → w_X7_herd x1 x2 x3 x4 τ K')) → K (-9223372036854775806 : Int64) σ := fun z => hK _ _ same.rf z
  unfold w_X6_herd
  rcases ix_c x1 (n1 := 10) (by omega) with hx | ⟨n1, hn1, rfl⟩
  · have M := bad (fun τ hR K' hK' => fnd τ hR _ (fun τ' a1 a2 a3 a4 a5 => inN (m1 := 9) hx (by omega) (by decide) _ (it_p rfl (hK' τ' a4))))
    refine it_c (fun _ => M) (fun c1 => it_p ?_ M)
    have e1 : (nI 10).toInt = 10 := by decide
    have e2 : (9 : Int32).toInt = 9 := by decide
    have e3 : (0 : Int32).toInt = 0 := by decide
    rw [fa_lt] at c1 ⊢
    rw [fa_lt, fa_le] at hx
    omega
  · refine it_n (nI_pos (by omega)) (it_n (i_nlt (nI_le (b := 9) (by omega) (by omega))) ?_)
    have I1 : ∀ K : Int32 → Prop, K 1 → w_X7_in (nI n1).toInt64 0 9 K := fun K hK => inY (m1 := 9) (by omega) (by omega) (by decide) _ hK
    rcases ix_c x2 (n1 := 17) (by omega) with hx | ⟨c1, hc1, rfl⟩
    · have M := bad (fun τ hR K' hK' => fnd τ hR _ (fun τ' a1 a2 a3 a4 a5 => I1 _ (it_n (by decide) (inN (m1 := 16) hx (by omega) (by decide) _ (it_p rfl (hK' τ' a4))))))
      refine it_c (fun _ => M) (fun c1 => it_p ?_ M)
      have e1 : (nI 17).toInt = 17 := by decide
      have e2 : (16 : Int32).toInt = 16 := by decide
      have e3 : (0 : Int32).toInt = 0 := by decide
      rw [fa_lt] at c1 ⊢
      rw [fa_lt, fa_le] at hx
      omega
    · refine it_n (nI_pos (by omega)) (it_n (i_nlt (nI_le (b := 16) (by omega) (by omega))) ?_)
      have I2 : ∀ K : Int32 → Prop, K 1 → w_X7_in (nI c1).toInt64 0 16 K := fun K hK => inY (m1 := 16) (by omega) (by omega) (by decide) _ hK
      unfold w_X6_isSung
      rcases ix_c x3 (n1 := B) (by omega) with hx | ⟨b1, hb, rfl⟩
      · refine cbrN hs.1 hx _ (it_n (by decide) (it_p rfl (bad ?_)))
        exact fun τ hR K' hK' => fnd τ hR _ (fun τ' a1 a2 a3 a4 a5 => I1 _ (it_n (by decide) (I2 _ (it_n (by decide) (barN hB a3.2.2.2.1 hx _ (it_p rfl (it_p rfl (hK' τ' a4))))))))
      · refine cbrY hB hs.1 hb _ (it_p rfl ⟨vp_in_nI (by omega) (by omega), ?_⟩)
        rw [nI_clamp (by omega), show σ (23 + 1) b1 = kd b1 from (hs.2 b1 hb).1]
        refine it_c (fun c2 => it_p rfl (bad ?_)) (fun c2 => it_n (by decide) ?_)
        · refine fun τ hR K' hK' => fnd τ hR _ (fun τ' a1 a2 a3 a4 a5 => I1 _ (it_n (by decide) (I2 _ (it_n (by decide) (barY hB a3.2.2.2.1 hb _ (it_n (by decide) ⟨vp_in_nI (by omega) (by omega), it_p ?_ (it_p rfl (hK' τ' a4))⟩))))))
          rw [nI_clamp (by omega), a3.2.2.2.2 b1 hb]
          exact c2
        · have I3 : ∀ τ', fdIs τ' N P d B kd → ∀ K : Int32 → Prop, K 1 → w_X7_isSung (nI b1) τ' K := fun τ' a3 K hK => by
            refine barY hB a3.2.2.2.1 hb _ (it_n (by decide) ⟨vp_in_nI (by omega) (by omega), it_n ?_ hK⟩)
            rw [nI_clamp (by omega), a3.2.2.2.2 b1 hb]
            exact c2
          rcases two_c (x := x4) with hx | hx
          · refine nchN hx _ (it_n (by decide) (bad ?_))
            exact fun τ hR K' hK' => fnd τ hR _ (fun τ' a1 a2 a3 a4 a5 => I1 _ (it_n (by decide) (I2 _ (it_n (by decide) (I3 τ' a3 _ (it_n (by decide) (twoN hx _ (it_p rfl (hK' τ' a4)))))))))
          · obtain ⟨k1, hk1, rfl⟩ : ∃ k1 : Nat, k1 ≤ 1 ∧ x4 = nI k1 := by
              rcases hx with rfl | rfl
              · exact ⟨0, by omega, rfl⟩
              · exact ⟨1, by omega, rfl⟩
            obtain ⟨tp, htp⟩ : ∃ tp : Nat → Prop, ∀ j, tp j ↔ clz (NT P d N (σ 26 0) (nI j) (σ 26 2) (rb kd b1)) N kd b1 (σ 26 3) := ⟨_, fun _ => Iff.rfl⟩
            refine nchY hk1 _ (it_p rfl (s_waysC σ N B b1 n1 c1 P d kd ok hP hB hb (by omega) (by omega) hc hs hT tp htp _ (fun σ' g1 => ?_)))
            obtain ⟨A1, hA⟩ : ∃ A1, A1 = wyN tp n1 c1 (n1 + 1) := ⟨_, rfl⟩
            have hA2 : A1 < 2 ^ 63 := by rw [hA]; exact wyN_63 (by omega) (by omega)
            rw [← hA]
            show w_X6_power (lN 16) (nI n1) _
            refine s_power 16 n1 (by omega) _ (s_halve A1 n1 hA2 (by omega) _ ?_)
            have gs : same scr σ σ' := g1.mono (by decide)
            have M : ∀ τ, Rel σ τ → ∀ K' : Int64 → Sg → Prop, (∀ τ', Rel σ τ' → if nI k1 = 0 then K' (lN (A1 / Nat.gcd A1 (16 ^ n1))) τ' else K' (lN (16 ^ n1 / Nat.gcd A1 (16 ^ n1))) τ') → w_X7_herd (nI n1) (nI c1) (nI b1) (nI k1) τ K' := fun τ hR K' hK' =>
              fnd τ hR _ (fun τ' a1 a2 a3 a4 a5 => I1 _ (it_n (by decide) (I2 _ (it_n (by decide) (I3 τ' a3 _ (it_n (by decide) (twoY hk1 _ (it_n (by decide) (s_herdM σ τ' N B b1 n1 c1 k1 P d kd hN hB hb (by omega) (by omega) a3 a5 tp htp A1 hA _ (fun τ2 k2 => hK' τ2 (a4.kp k2)))))))))))
            unfold E_X6_herd_61
            by_cases c3 : nI k1 = 0
            · exact it_p c3 (hK _ _ gs (fun τ hR K' hK' => M τ hR K' (fun τ' hR' => it_p c3 (hK' τ' hR'))))
            · exact it_n c3 (hK _ _ gs (fun τ hR K' hK' => M τ hR K' (fun τ' hR' => it_n c3 (hK' τ' hR'))))
theorem op_herd {σ τ : Sg} (h : Rel σ τ) (x1 x2 x3 x4 : Int32) : w_X6_herd x1 x2 x3 x4 σ (fun r1 σ1 => w_X7_herd x1 x2 x3 x4 τ (fun r2 τ1 => r1 = r2 ∧ Rel σ1 τ1)) := (tw_herd h x1 x2 x3 x4).op h
