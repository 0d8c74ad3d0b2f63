/-- what the model's notes are after the train was changed -/
theorem s_notes (τ : Sg) (N B : Nat) (P : Nat → Int32) (d : Nat → Nat → Int32) (kd : Nat → Int32) (hN : N ≤ 8) (hf : ∃ τ0, fdIs τ0 N P d B kd ∧ same [0, 9] τ0 τ ∧ τ 0 7 = τ0 0 7 ∧ τ 0 9 = τ0 0 9) (K : Sg → Prop) (h : ∀ τ', same [11, 12, 13] τ τ' → fdIs τ' N P d B kd → K τ') : w_X7_findNotes τ K := by
  obtain ⟨τ0, f1, hs, e7, e9⟩ := hf
  have m1 : mdIs τ N d := by
    unfold mdIs
    rw [e7, hs 7 (by decide)]
    exact f1.1
  have p1 : plIs τ N P := by
    unfold plIs
    rw [hs 10 (by decide)]
    exact f1.2.1
  refine s_findNotes τ N P d hN m1 p1 K (fun τ' g1 g2 => h τ' g1 ⟨?_, ?_, g2, ?_⟩)
  · unfold mdIs
    rw [g1 0 (by decide), g1 7 (by decide)]
    exact m1
  · unfold plIs
    rw [g1 10 (by decide)]
    exact p1
  · unfold mbIs
    rw [g1 0 (by decide), g1 8 (by decide), e9, hs 8 (by decide)]
    exact f1.2.2.2
/-- the class's other train: as the train but for what is set -/
theorem s_become (σ : Sg) (K : Sg → Prop) (h : ∀ σ', same [27] σ σ' → (∀ j, j < 4 → σ' 27 j = σ 26 j) → K σ') : w_X5_become 27 26 σ K := by
  unfold w_X5_become
  rintro _ rfl _ rfl _ rfl _ rfl
  refine h _ ((((same.rf.pt (by decide)).pt (by decide)).pt (by decide)).pt (by decide)) (fun j hj => ?_)
  rcases (show j = 0 ∨ j = 1 ∨ j = 2 ∨ j = 3 by omega) with rfl | rfl | rfl | rfl
  · rw [pt_o _ _ (by decide), pt_o _ _ (by decide), pt_o _ _ (by decide), pt_s]
  · rw [pt_o _ _ (by decide), pt_o _ _ (by decide), pt_s, pt_ne _ _ _ (by decide)]
  · rw [pt_o _ _ (by decide), pt_s, pt_ne _ _ _ (by decide), pt_ne _ _ _ (by decide)]
  · rw [pt_s, pt_ne _ _ _ (by decide), pt_ne _ _ _ (by decide), pt_ne _ _ _ (by decide)]
theorem so_cg {σ σ' : Sg} {B : Nat} {kd : Nat → Int32} (h : soIs σ B kd) (hs : ∀ q, q < 26 → 22 < q → σ' q = σ q) : soIs σ' B kd := by
  unfold soIs at h ⊢
  rw [hs 23 (by decide) (by decide), hs 24 (by decide) (by decide), hs 25 (by decide) (by decide)]
  exact h
theorem okT_v {v e w : Int32} (h : okT v e w) {v1 : Nat} (hv : v1 < 100) : okT (nI v1) e w := ⟨⟨v1, hv, rfl⟩, h.2⟩
theorem okT_e {v e w : Int32} (h : okT v e w) {e1 : Nat} (he : e1 < 10) : okT v (nI e1) w := ⟨h.1, ⟨e1, he, rfl⟩, h.2.2⟩
/-- the least of f below n, and the first place where it is -/
def mnI (f : Nat → Int32) : Nat → Nat
  | 0 => 0
  | n + 1 => if n = 0 then 0 else if f (mnI f n) ≤ f n then mnI f n else n
theorem mnI_0 (f : Nat → Int32) : mnI f 1 = 0 := rfl
theorem mnI_k {f : Nat → Int32} {n : Nat} (hn : ¬ n = 0) (h : f (mnI f n) ≤ f n) : mnI f (n + 1) = mnI f n := by
  show (if n = 0 then 0 else if f (mnI f n) ≤ f n then mnI f n else n) = _
  rw [if_neg hn, if_pos h]
theorem mnI_n {f : Nat → Int32} {n : Nat} (h : n = 0 ∨ ¬ f (mnI f n) ≤ f n) : mnI f (n + 1) = n := by
  show (if n = 0 then 0 else if f (mnI f n) ≤ f n then mnI f n else n) = _
  by_cases c1 : n = 0
  · rw [if_pos c1, c1]
  · rw [if_neg c1, if_neg (h.resolve_left c1)]
theorem op_drive {σ τ : Sg} (h : Rel σ τ) (x1 x2 : Int32) : w_X6_drive x1 x2 σ (fun r1 σ1 => w_X7_drive x1 x2 τ (fun r2 τ1 => r1 = r2 ∧ Rel σ1 τ1)) := by
  obtain ⟨N, P, d, B, kd, ok, hP, hB, hc, hn, hs, hT, _, _, fnd⟩ := vw h
  have hN := ok.1
  unfold w_X6_drive w_X7_drive
  rcases ix_c x1 (n1 := B) (by omega) with hx | ⟨b1, hb, rfl⟩
  · refine cbrN hs.1 hx _ (it_n (by decide) ?_)
    exact fnd _ (fun τ' a1 a2 a3 a4 a5 => barN hB a3.2.2.2.1 hx _ (it_p rfl ⟨rfl, a4⟩))
  · refine cbrY hB hs.1 hb _ (it_p rfl ?_)
    have hrb : rb kd b1 ≤ 24 := by have := rb_le kd b1; omega
    obtain ⟨sp, hsp⟩ : ∃ sp : Nat → Int32, sp = fun v1 => spv (NT P d N (nI v1) (σ 26 1) (σ 26 2) (rb kd b1)) N := ⟨_, rfl⟩
    have esp : ∀ v1, sp v1 = spv (NT P d N (nI v1) (σ 26 1) (σ 26 2) (rb kd b1)) N := fun v1 => by rw [hsp]
    rcases two_c (x := x2) with hx | hx
    · refine nchN hx _ (it_n (by decide) ?_)
      exact fnd _ (fun τ' a1 a2 a3 a4 a5 => barY hB a3.2.2.2.1 hb _ (it_n (by decide) (twoN hx _ (it_p rfl ⟨rfl, a4⟩))))
    · obtain ⟨k1, hk1, rfl⟩ : ∃ k1 : Nat, k1 ≤ 1 ∧ x2 = nI k1 := by
        rcases hx with rfl | rfl
        · exact ⟨0, by omega, rfl⟩
        · exact ⟨1, by omega, rfl⟩
      refine nchY hk1 _ (it_p rfl (s_become σ _ (fun σ1 u1 u2 => ?_)))
      -- the class
      have C : ∀ K : Int32 → Sg → Prop, (∀ σ', same [27] σ σ' → if nI k1 = 0 then K (nI (mnI sp 100)) σ' else K (sp (mnI sp 100)) σ') → ∃ n38, lq4 (F_X6_drive_38 (nI b1) (E_X6_drive_38 (nI k1) K)) n38 (0 : Int32) (-2147483648 : Int32) (0 : Int32) σ1 := by
        intro K hK
        refine up4 (fun j y3 y4 y5 ρ => y5 = nI j ∧ same [27] σ ρ ∧ ρ 27 1 = σ 26 1 ∧ ρ 27 2 = σ 26 2 ∧ (0 < j → y3 = nI (mnI sp j) ∧ y4 = sp (mnI sp j))) 100 ?_ 0 _ _ _ _ (Nat.zero_le _) ⟨rfl, u1, u2 1 (by omega), u2 2 (by omega), fun z => by omega⟩
        rintro j rc y3 y4 _ ρ hj ⟨rfl, g1, g2, g3, g4⟩ hrc
        unfold F_X6_drive_38 E_X6_drive_38 J_X6_drive_81
        by_cases c1 : 100 ≤ j
        · have ej : j = 100 := by omega
          subst ej
          refine it_p (nI_le (a := 100) c1 (by omega)) ?_
          obtain ⟨e1, e2⟩ := g4 (by omega)
          subst e1
          subst e2
          exact hK ρ g1
        · refine it_n (fun z => c1 ((nI_leI (a := 100) (by omega) (by omega)).mp z)) ?_
          rintro _ rfl
          have g5 : same [27] σ (pt ρ 27 0 (nI j)) := g1.pt (by decide)
          have e1 : pt ρ 27 0 (nI j) 27 1 = σ 26 1 := by rw [pt_o _ _ (by decide)]; exact g2
          have e2 : pt ρ 27 0 (nI j) 27 2 = σ 26 2 := by rw [pt_o _ _ (by decide)]; exact g3
          have e0 : pt ρ 27 0 (nI j) 27 0 = nI j := pt_s _ _ _ _
          have hr : rg (NT P d N (pt ρ 27 0 (nI j) 27 0) (pt ρ 27 0 (nI j) 27 1) (pt ρ 27 0 (nI j) 27 2) (rb kd b1)) N := by
            rw [e0, e1, e2]
            exact NT_rg ok hP (okT_v hT (by omega)) hrb
          refine s_spread _ 5 27 N B b1 P d kd hN hB hb (cl_cg hc (fun q hq => g5 q (by simp; omega))) (so_cg hs (fun q hq _ => g5 q (by simp; omega))) hr _ ?_
          rw [e0, e1, e2, ← esp j, nI_1]
          have new : (j = 0 ∨ ¬ sp (mnI sp j) ≤ sp j) → rc (nI j) (sp j) (nI (j + 1)) (pt ρ 27 0 (nI j)) := fun z =>
            hrc _ _ _ _ (by omega) ⟨rfl, g5, e1, e2, fun _ => by rw [mnI_n z]; exact ⟨rfl, rfl⟩⟩
          by_cases c2 : j = 0
          · subst c2
            exact it_p rfl (new (Or.inl rfl))
          · refine it_n (nI_ne0 (by omega) (by omega)) ?_
            obtain ⟨q1, q2⟩ := g4 (by omega)
            subst q1
            subst q2
            refine it_c (fun c3 => hrc _ _ _ _ (by omega) ⟨rfl, g5, e1, e2, fun _ => ?_⟩) (fun c3 => new (Or.inr c3))
            rw [mnI_k c2 c3]
            exact ⟨rfl, rfl⟩
      -- the model
      have M : ∀ (τ1 : Sg), fdIs τ1 N P d B kd → (∀ j, j < 4 → τ1 9 j = σ 26 j) → ∀ K : Int32 → Sg → Prop, (∀ τ', kpM τ1 τ' → if nI k1 = 0 then K (nI (mnI sp 100)) τ' else K (sp (mnI sp 100)) τ') → w_X7_driveOf (nI b1) (nI k1) τ1 K := by
        intro τ1 f1 v1 K hK
        unfold w_X7_driveOf
        rw [z0]
        refine ⟨i04, ?_⟩
        rintro _ rfl
        refine up4 (fun j y4 y5 y6 ρ => y6 = nI j ∧ same [9, 11, 12, 13] τ1 ρ ∧ (∀ q, q ≠ 0 → ρ 9 q = τ1 9 q) ∧ fdIs ρ N P d B kd ∧ (j = 0 → y4 = -1) ∧ (0 < j → y4 = nI (mnI sp j) ∧ y5 = sp (mnI sp j)) ∧ mnI sp j ≤ j) 100 ?_ 0 _ _ _ _ (Nat.zero_le _) ⟨rfl, same.rf, fun _ _ => rfl, f1, fun _ => rfl, fun z => by omega, Nat.le_refl 0⟩
        rintro j rc y4 y5 _ ρ hj ⟨rfl, g1, g2, g3, g0, g4, g6⟩ hrc
        unfold F_X7_driveOf_16 E_X7_driveOf_16
        rw [z0]
        by_cases c1 : 100 ≤ j
        · have ej : j = 100 := by omega
          subst ej
          refine it_p (nI_le (a := 100) c1 (by omega)) ⟨i04, ?_⟩
          rintro _ rfl
          refine s_notes _ N B P d kd hN ⟨ρ, g3, same.rf.pt (by decide), by rw [pt_ne _ _ _ (by decide)], by rw [pt_ne _ _ _ (by decide)]⟩ _ (fun τ2 k2 k3 => ?_)
          obtain ⟨e1, e2⟩ := g4 (by omega)
          subst e1
          subst e2
          refine hK τ2 ⟨?_, ?_, ?_, fun j1 hj1 => ?_⟩
          · exact ((g1.mono (by decide)).tr ((same.rf.pt (by decide) : same [9] ρ (pt ρ 9 0 (τ1 9 0))).mono (by decide))).tr (k2.mono (by decide))
          · rw [k2 0 (by decide), pt_ne _ _ _ (by decide), g1 0 (by decide)]
          · rw [k2 0 (by decide), pt_ne _ _ _ (by decide), g1 0 (by decide)]
          · rw [k2 9 (by decide)]
            by_cases c2 : j1 = 0
            · subst c2
              exact pt_s _ _ _ _
            · rw [pt_o _ _ c2]
              exact g2 j1 c2
        · refine it_n (fun z => c1 ((nI_leI (a := 100) (by omega) (by omega)).mp z)) ⟨i04, ?_⟩
          rintro _ rfl
          refine s_notes _ N B P d kd hN ⟨ρ, g3, same.rf.pt (by decide), by rw [pt_ne _ _ _ (by decide)], by rw [pt_ne _ _ _ (by decide)]⟩ _ (fun τ2 k2 k3 => ?_)
          have k9 : τ2 9 = pt ρ 9 0 (nI j) 9 := k2 9 (by decide)
          have e0 : τ2 9 0 = nI j := by rw [k9, pt_s]
          have e1 : τ2 9 1 = σ 26 1 := by rw [k9, pt_o _ _ (by decide), g2 1 (by decide), v1 1 (by omega)]
          have e2 : τ2 9 2 = σ 26 2 := by rw [k9, pt_o _ _ (by decide), g2 2 (by decide), v1 2 (by omega)]
          have g7 : same [9, 11, 12, 13] τ1 τ2 := (g1.tr ((same.rf.pt (by decide) : same [9] ρ (pt ρ 9 0 (nI j))).mono (by decide))).tr (k2.mono (by decide))
          have g8 : ∀ q, q ≠ 0 → τ2 9 q = τ1 9 q := fun q hq => by rw [k9, pt_o _ _ hq, g2 q hq]
          refine s_mspread0 τ2 N B b1 P d kd hN hB hb k3 _ ?_
          rw [e0, e1, e2, ← esp j]
          unfold J_X7_driveOf_56 J_X7_driveOf_61 J_X7_driveOf_75
          rw [nI_1]
          have new : (j = 0 ∨ ¬ sp (mnI sp j) ≤ sp j) → rc (nI j) (sp j) (nI (j + 1)) τ2 := fun z =>
            hrc _ _ _ _ (by omega) ⟨rfl, g7, g8, k3, fun y => by omega, fun _ => by rw [mnI_n z]; exact ⟨rfl, rfl⟩, by rw [mnI_n z]; omega⟩
          by_cases c2 : j = 0
          · refine it_p (g0 c2) (it_n (by decide) (it_n (by decide) (new (Or.inl c2))))
          · obtain ⟨q1, q2⟩ := g4 (by omega)
            subst q1
            subst q2
            refine it_n (nI_m1 (by omega)) (it_c (fun c3 => it_p rfl (it_p rfl (hrc _ _ _ _ (by omega) ⟨rfl, g7, g8, k3, fun y => by omega, fun _ => ?_, ?_⟩))) (fun c3 => it_n (by decide) (it_n (by decide) (new (Or.inr c3)))))
            · rw [mnI_k c2 c3]
              exact ⟨rfl, rfl⟩
            · rw [mnI_k c2 c3]
              omega
      refine C _ (fun σ' w1 => ?_)
      have fin : ∀ v1 : Int32, (∀ (τ1 : Sg), fdIs τ1 N P d B kd → (∀ j, j < 4 → τ1 9 j = σ 26 j) → ∀ K : Int32 → Sg → Prop, (∀ τ', kpM τ1 τ' → K v1 τ') → w_X7_driveOf (nI b1) (nI k1) τ1 K) → w_X7_find τ (fun τ1 => w_X7_isBar (nI b1) τ1 (fun r6 => (if r6 = 0 then (fun r2 τ1 => v1 = r2 ∧ Rel σ' τ1) (-2 : Int32) τ1 else w_X7_isTwo (nI k1) (fun r13 => (if r13 = 0 then (fun r2 τ1 => v1 = r2 ∧ Rel σ' τ1) (-2 : Int32) τ1 else w_X7_driveOf (nI b1) (nI k1) τ1 (fun r22 τ22 => (fun r2 τ1 => v1 = r2 ∧ Rel σ' τ1) r22 τ22)))))) := fun v1 hv =>
        fnd _ (fun τ' a1 a2 a3 a4 a5 => barY hB a3.2.2.2.1 hb _ (it_n (by decide) (twoY hk1 _ (it_n (by decide) (hv τ' a3 a5 _ (fun τ2 k2 => ⟨rfl, (a4.kp k2).ks (w1.mono (by decide))⟩))))))
      by_cases c1 : nI k1 = 0
      · refine it_p c1 (fin _ (fun τ1 f1 f2 K hK => M τ1 f1 f2 K (fun τ' hk => it_p c1 (hK τ' hk))))
      · refine it_n c1 (fin _ (fun τ1 f1 f2 K hK => M τ1 f1 f2 K (fun τ' hk => it_n c1 (hK τ' hk))))
