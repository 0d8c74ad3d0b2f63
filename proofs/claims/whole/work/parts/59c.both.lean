theorem same.sy {L : List Nat} {σ τ : Sg} (h : same L σ τ) : same L τ σ := fun q hq => (h q hq).symm
theorem two1.at {A : Type} {C : (A → Sg → Prop) → Prop} {M : Sg → (A → Sg → Prop) → Prop} {σ σ1 : Sg} (h2 : two1 C M σ1) (hs : same scr σ σ1) (K : A → Sg → Prop) (hK : ∀ r σ2, same scr σ σ2 → (∀ τ, Rel σ τ → ∀ K' : A → Sg → Prop, (∀ τ', Rel σ τ' → K' r τ') → M τ K') → K r σ2) : C K := h2 K (fun r σ2 s2 M2 => hK r σ2 (hs.tr s2) (fun τ hR K' hK' => M2 τ (hR.ks hs) K' (fun τ' hR' => hK' τ' (hR'.ks hs.sy))))
theorem two0.at {A : Type} {C : (A → Prop) → Prop} {M : Sg → (A → Sg → Prop) → Prop} {σ σ1 : Sg} (h2 : two0 C M σ1) (hs : same scr σ σ1) (K : A → Prop) (hK : ∀ r, (∀ τ, Rel σ τ → ∀ K' : A → Sg → Prop, (∀ τ', Rel σ τ' → K' r τ') → M τ K') → K r) : C K := h2 K (fun r M2 => hK r (fun τ hR K' hK' => M2 τ (hR.ks hs) K' (fun τ' hR' => hK' τ' (hR'.ks hs.sy))))
theorem Vc.ks {σ σ' : Sg} {N : Nat} {P : Nat → Int32} {d : Nat → Nat → Int32} {B : Nat} {kd : Nat → Int32} (h : Vc σ N P d B kd) (hs : same scr σ σ') : Vc σ' N P d B kd := by
  obtain ⟨v1, v2, v3, v4, v5, v6, v7, v8, v9, v10⟩ := h
  have e26 : σ' 26 = σ 26 := hs 26 (by decide)
  refine ⟨v1, v2, v3, cl_cg v4 (fun q hq => hs q (by simp [scr]; omega)), ?_, so_cg v6 (fun q h1 h2 => hs q (by simp [scr]; omega)), by rw [e26]; exact v7, v8, v9, fun τ hR K hK => ?_⟩
  · unfold nbIs
    rw [hs (5 + 7) (by decide)]
    exact v5
  · refine v10 τ (hR.ks hs.sy) K (fun τ' a1 a2 a3 a4 a5 => hK τ' a1 a2 a3 (a4.ks hs) (fun j hj => ?_))
    rw [e26]
    exact a5 j hj
theorem tw_drive {σ τ0 : Sg} (h : Rel σ τ0) (x1 x2 : Int32) : two1 (w_X6_drive x1 x2 σ) (w_X7_drive x1 x2) σ := by
  obtain ⟨N, P, d, B, kd, ok, hP, hB, hc, hn, hs, hT, _, _, fnd⟩ := vc h
  have hN := ok.1
  intro K0 hK0
  unfold w_X6_drive
  rcases ix_c x1 (n1 := B) (by omega) with hx | ⟨b1, hb, rfl⟩
  · refine cbrN hs.1 hx _ (it_n (by decide) (hK0 _ _ same.rf ?_))
    exact fun τ hR K' hK' => fnd τ hR _ (fun τ' a1 a2 a3 a4 a5 => barN hB a3.2.2.2.1 hx _ (it_p rfl (hK' τ' a4)))
  · refine cbrY hB hs.1 hb _ (it_p rfl ?_)
    have hrb : rb kd b1 ≤ 24 := by have := rb_le kd b1; omega
    obtain ⟨sp, hsp⟩ : ∃ sp : Nat → Int32, sp = fun v1 => spv (NT P d N (nI v1) (σ 26 1) (σ 26 2) (rb kd b1)) N := ⟨_, rfl⟩
    have esp : ∀ v1, sp v1 = spv (NT P d N (nI v1) (σ 26 1) (σ 26 2) (rb kd b1)) N := fun v1 => by rw [hsp]
    rcases two_c (x := x2) with hx | hx
    · refine nchN hx _ (it_n (by decide) (hK0 _ _ same.rf ?_))
      exact fun τ hR K' hK' => fnd τ hR _ (fun τ' a1 a2 a3 a4 a5 => barY hB a3.2.2.2.1 hb _ (it_n (by decide) (twoN hx _ (it_p rfl (hK' τ' a4)))))
    · obtain ⟨k1, hk1, rfl⟩ : ∃ k1 : Nat, k1 ≤ 1 ∧ x2 = nI k1 := by
        rcases hx with rfl | rfl
        · exact ⟨0, by omega, rfl⟩
        · exact ⟨1, by omega, rfl⟩
      refine nchY hk1 _ (it_p rfl (s_become σ _ (fun σ1 u1 u2 => ?_)))
      have C : ∀ K : Int32 → Sg → Prop, (∀ σ', same [27] σ σ' → if nI k1 = 0 then K (nI (mnI sp 100)) σ' else K (sp (mnI sp 100)) σ') → ∃ n38, lq4 (F_X6_drive_38 (nI b1) (E_X6_drive_38 (nI k1) K)) n38 (0 : Int32) (-2147483648 : Int32) (0 : Int32) σ1 := by
        intro K hK
        refine up4 (fun j y3 y4 y5 ρ => y5 = nI j ∧ same [27] σ ρ ∧ ρ 27 1 = σ 26 1 ∧ ρ 27 2 = σ 26 2 ∧ (0 < j → y3 = nI (mnI sp j) ∧ y4 = sp (mnI sp j))) 100 ?_ 0 _ _ _ _ (Nat.zero_le _) ⟨rfl, u1, u2 1 (by omega), u2 2 (by omega), fun z => by omega⟩
        rintro j rc y3 y4 _ ρ hj ⟨rfl, g1, g2, g3, g4⟩ hrc
        unfold F_X6_drive_38 E_X6_drive_38 J_X6_drive_81
        by_cases c1 : 100 ≤ j
        · have ej : j = 100 := by omega
          subst ej
          refine it_p (nI_le (a := 100) c1 (by omega)) ?_
          obtain ⟨e1, e2⟩ := g4 (by omega)
          subst e1
          subst e2
          exact hK ρ g1
        · refine it_n (fun z => c1 ((nI_leI (a := 100) (by omega) (by omega)).mp z)) ?_
          rintro _ rfl
          have g5 : same [27] σ (pt ρ 27 0 (nI j)) := g1.pt (by decide)
          have e1 : pt ρ 27 0 (nI j) 27 1 = σ 26 1 := by rw [pt_o _ _ (by decide)]; exact g2
          have e2 : pt ρ 27 0 (nI j) 27 2 = σ 26 2 := by rw [pt_o _ _ (by decide)]; exact g3
          have e0 : pt ρ 27 0 (nI j) 27 0 = nI j := pt_s _ _ _ _
          have hr : rg (NT P d N (pt ρ 27 0 (nI j) 27 0) (pt ρ 27 0 (nI j) 27 1) (pt ρ 27 0 (nI j) 27 2) (rb kd b1)) N := by
            rw [e0, e1, e2]
            exact NT_rg ok hP (okT_v hT (by omega)) hrb
          refine s_spread _ 5 27 N B b1 P d kd hN hB hb (cl_cg hc (fun q hq => g5 q (by simp; omega))) (so_cg hs (fun q hq _ => g5 q (by simp; omega))) hr _ ?_
          rw [e0, e1, e2, ← esp j, nI_1]
          have new : (j = 0 ∨ ¬ sp (mnI sp j) ≤ sp j) → rc (nI j) (sp j) (nI (j + 1)) (pt ρ 27 0 (nI j)) := fun z =>
            hrc _ _ _ _ (by omega) ⟨rfl, g5, e1, e2, fun _ => by rw [mnI_n z]; exact ⟨rfl, rfl⟩⟩
          by_cases c2 : j = 0
          · subst c2
            exact it_p rfl (new (Or.inl rfl))
          · refine it_n (nI_ne0 (by omega) (by omega)) ?_
            obtain ⟨q1, q2⟩ := g4 (by omega)
            subst q1
            subst q2
            refine it_c (fun c3 => hrc _ _ _ _ (by omega) ⟨rfl, g5, e1, e2, fun _ => ?_⟩) (fun c3 => new (Or.inr c3))
            rw [mnI_k c2 c3]
            exact ⟨rfl, rfl⟩
      have M : ∀ (τ1 : Sg), fdIs τ1 N P d B kd → (∀ j, j < 4 → τ1 9 j = σ 26 j) → ∀ K : Int32 → Sg → Prop, (∀ τ', kpM τ1 τ' → if nI k1 = 0 then K (nI (mnI sp 100)) τ' else K (sp (mnI sp 100)) τ') → w_X7_driveOf (nI b1) (nI k1) τ1 K := by
        intro τ1 f1 v1 K hK
        unfold w_X7_driveOf
        rw [z0]
        refine ⟨i04, ?_⟩
        rintro _ rfl
        refine up4 (fun j y4 y5 y6 ρ => y6 = nI j ∧ same [9, 11, 12, 13] τ1 ρ ∧ (∀ q, q ≠ 0 → ρ 9 q = τ1 9 q) ∧ fdIs ρ N P d B kd ∧ (j = 0 → y4 = -1) ∧ (0 < j → y4 = nI (mnI sp j) ∧ y5 = sp (mnI sp j)) ∧ mnI sp j ≤ j) 100 ?_ 0 _ _ _ _ (Nat.zero_le _) ⟨rfl, same.rf, fun _ _ => rfl, f1, fun _ => rfl, fun z => by omega, Nat.le_refl 0⟩
        rintro j rc y4 y5 _ ρ hj ⟨rfl, g1, g2, g3, g0, g4, g6⟩ hrc
        unfold F_X7_driveOf_16 E_X7_driveOf_16
        rw [z0]
        by_cases c1 : 100 ≤ j
        · have ej : j = 100 := by omega
          subst ej
          refine it_p (nI_le (a := 100) c1 (by omega)) ⟨i04, ?_⟩
          rintro _ rfl
          refine s_notes _ N B P d kd hN ⟨ρ, g3, same.rf.pt (by decide), by rw [pt_ne _ _ _ (by decide)], by rw [pt_ne _ _ _ (by decide)]⟩ _ (fun τ2 k2 k3 => ?_)
          obtain ⟨e1, e2⟩ := g4 (by omega)
          subst e1
          subst e2
          refine hK τ2 ⟨?_, ?_, ?_, fun j1 hj1 => ?_⟩
          · exact ((g1.mono (by decide)).tr ((same.rf.pt (by decide) : same [9] ρ (pt ρ 9 0 (τ1 9 0))).mono (by decide))).tr (k2.mono (by decide))
          · rw [k2 0 (by decide), pt_ne _ _ _ (by decide), g1 0 (by decide)]
          · rw [k2 0 (by decide), pt_ne _ _ _ (by decide), g1 0 (by decide)]
          · rw [k2 9 (by decide)]
            by_cases c2 : j1 = 0
            · subst c2
              exact pt_s _ _ _ _
            · rw [pt_o _ _ c2]
              exact g2 j1 c2
        · refine it_n (fun z => c1 ((nI_leI (a := 100) (by omega) (by omega)).mp z)) ⟨i04, ?_⟩
          rintro _ rfl
          refine s_notes _ N B P d kd hN ⟨ρ, g3, same.rf.pt (by decide), by rw [pt_ne _ _ _ (by decide)], by rw [pt_ne _ _ _ (by decide)]⟩ _ (fun τ2 k2 k3 => ?_)
          have k9 : τ2 9 = pt ρ 9 0 (nI j) 9 := k2 9 (by decide)
          have e0 : τ2 9 0 = nI j := by rw [k9, pt_s]
          have e1 : τ2 9 1 = σ 26 1 := by rw [k9, pt_o _ _ (by decide), g2 1 (by decide), v1 1 (by omega)]
          have e2 : τ2 9 2 = σ 26 2 := by rw [k9, pt_o _ _ (by decide), g2 2 (by decide), v1 2 (by omega)]
          have g7 : same [9, 11, 12, 13] τ1 τ2 := (g1.tr ((same.rf.pt (by decide) : same [9] ρ (pt ρ 9 0 (nI j))).mono (by decide))).tr (k2.mono (by decide))
          have g8 : ∀ q, q ≠ 0 → τ2 9 q = τ1 9 q := fun q hq => by rw [k9, pt_o _ _ hq, g2 q hq]
          refine s_mspread0 τ2 N B b1 P d kd hN hB hb k3 _ ?_
          rw [e0, e1, e2, ← esp j]
          unfold J_X7_driveOf_56 J_X7_driveOf_61 J_X7_driveOf_75
          rw [nI_1]
          have new : (j = 0 ∨ ¬ sp (mnI sp j) ≤ sp j) → rc (nI j) (sp j) (nI (j + 1)) τ2 := fun z =>
            hrc _ _ _ _ (by omega) ⟨rfl, g7, g8, k3, fun y => by omega, fun _ => by rw [mnI_n z]; exact ⟨rfl, rfl⟩, by rw [mnI_n z]; omega⟩
          by_cases c2 : j = 0
          · refine it_p (g0 c2) (it_n (by decide) (it_n (by decide) (new (Or.inl c2))))
          · obtain ⟨q1, q2⟩ := g4 (by omega)
            subst q1
            subst q2
            refine it_n (nI_m1 (by omega)) (it_c (fun c3 => it_p rfl (it_p rfl (hrc _ _ _ _ (by omega) ⟨rfl, g7, g8, k3, fun y => by omega, fun _ => ?_, ?_⟩))) (fun c3 => it_n (by decide) (it_n (by decide) (new (Or.inr c3)))))
            · rw [mnI_k c2 c3]
              exact ⟨rfl, rfl⟩
            · rw [mnI_k c2 c3]
              omega
      refine C _ (fun σ' w1 => ?_)
      have gs : same scr σ σ' := w1.mono (by decide)
      by_cases c1 : nI k1 = 0
      · exact it_p c1 (hK0 _ _ gs (fun τ hR K' hK' => fnd τ hR _ (fun τ' a1 a2 a3 a4 a5 => barY hB a3.2.2.2.1 hb _ (it_n (by decide) (twoY hk1 _ (it_n (by decide) (M τ' a3 a5 _ (fun τ2 k2 => it_p c1 (hK' τ2 (a4.kp k2))))))))))
      · exact it_n c1 (hK0 _ _ gs (fun τ hR K' hK' => fnd τ hR _ (fun τ' a1 a2 a3 a4 a5 => barY hB a3.2.2.2.1 hb _ (it_n (by decide) (twoY hk1 _ (it_n (by decide) (M τ' a3 a5 _ (fun τ2 k2 => it_n c1 (hK' τ2 (a4.kp k2))))))))))
/-- of trains by a seed; the model then has found all -/
theorem tw_times {σ : Sg} {N : Nat} {P : Nat → Int32} {d : Nat → Nat → Int32} {B : Nat} {kd : Nat → Int32} (hv : Vc σ N P d B kd) (x1 : Int32) (m1 : Nat) (hm0 : 0 < m1) (hm : m1 < 100) (x3 : Int32) (K : Int32 → Sg → Prop) (hK : ∀ r σ1, same scr σ σ1 → (∀ τ, Rel σ τ → ∀ K' : Int32 → Sg → Prop, (∀ τ', Rel σ τ' → fdIs τ' N P d B kd → (∀ j, j < 4 → τ' 9 j = σ 26 j) → K' r τ') → w_X7_times x1 (nI m1) x3 τ K') → K r σ1) : w_X6_times x1 (nI m1) x3 σ K := by
  obtain ⟨ok, hP, hB, hc, hn, hs, hT, _, _, fnd⟩ := hv
  have hN := ok.1
  unfold w_X6_times
  refine it_n (i_nlt (nI_le (a := 1) (by omega) (by omega))) (it_n (i_nlt (nI_le (b := 99) (by omega) (by omega))) ?_)
  have I : ∀ K : Int32 → Prop, K 1 → w_X7_in (nI m1).toInt64 1 99 K := fun K hK => s_in (l := 1) (h := 99) (by decide) (by decide) _ (fun _ _ => hK) (fun z => absurd ⟨nI_le (a := 1) (by omega) (by omega), nI_le (b := 99) (by omega) (by omega)⟩ z)
  unfold w_X6_isSung
  rcases ix_c x3 (n1 := B) (by omega) with hx | ⟨b1, hb, rfl⟩
  · refine cbrN hs.1 hx _ (it_n (by decide) (it_p rfl (hK _ _ same.rf ?_)))
    exact fun τ hR K' hK' => fnd τ hR _ (fun τ' a1 a2 a3 a4 a5 => I _ (it_n (by decide) (barN hB a3.2.2.2.1 hx _ (it_p rfl (it_p rfl (hK' τ' a4 a3 a5))))))
  · refine cbrY hB hs.1 hb _ (it_p rfl ⟨vp_in_nI (by omega) (by omega), ?_⟩)
    rw [nI_clamp (by omega), show σ (23 + 1) b1 = kd b1 from (hs.2 b1 hb).1]
    refine it_c (fun c1 => it_p rfl (hK _ _ same.rf ?_)) (fun c1 => it_n (by decide) ?_)
    · refine fun τ hR K' hK' => fnd τ hR _ (fun τ' a1 a2 a3 a4 a5 => I _ (it_n (by decide) (barY hB a3.2.2.2.1 hb _ (it_n (by decide) ⟨vp_in_nI (by omega) (by omega), it_p ?_ (it_p rfl (hK' τ' a4 a3 a5))⟩))))
      rw [nI_clamp (by omega), a3.2.2.2.2 b1 hb]
      exact c1
    · refine s_timesC σ N B b1 m1 P d kd ok hP hB hb hm hc hs hT x1 _ (fun σ' g1 => hK _ _ (g1.mono (by decide)) ?_)
      refine fun τ hR K' hK' => fnd τ hR _ (fun τ' a1 a2 a3 a4 a5 => I _ (it_n (by decide) (barY hB a3.2.2.2.1 hb _ (it_n (by decide) ⟨vp_in_nI (by omega) (by omega), it_n ?_ (it_n (by decide) ?_)⟩))))
      · rw [nI_clamp (by omega), a3.2.2.2.2 b1 hb]
        exact c1
      · exact s_timesM σ τ' N B b1 m1 P d kd hN hB hb hm a3 a5 x1 _ (fun τ2 k1 k2 k3 => hK' τ2 (a4.kp k1) k3 (fun j hj => by rw [k2]; exact a5 j hj))
