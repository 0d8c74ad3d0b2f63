theorem ctP_lt {p1 : Nat → Prop} {v1 : Nat} (h : p1 v1) : ∀ {j : Nat}, v1 < j → ctP p1 v1 < ctP p1 j
  | 0, z => by omega
  | j + 1, z => by
    by_cases c1 : v1 = j
    · subst c1
      rw [ctP_y h]
      omega
    · have := ctP_lt h (j := j) (by omega)
      by_cases c2 : p1 j
      · rw [ctP_y c2]
        omega
      · rw [ctP_n c2]
        exact this
/-- the class's memory, as the model has it -/
def mmC (σ : Sg) (nh : Nat) : Prop := nh ≤ 8 ∧ σ 28 0 = nI nh ∧ ∀ i, i < nh → okH (σ 29 i) (σ 30 i) (σ 31 i)
def mmM (σ τ : Sg) (nh : Nat) : Prop := τ 0 18 = nI nh ∧ ∀ i, i < nh → τ 16 (3 * i) = σ 29 i ∧ τ 16 (3 * i + 1) = σ 30 i ∧ τ 16 (3 * i + 2) = σ 31 i
theorem mm_of {σ τ : Sg} (h : Rel σ τ) : ∃ nh, mmC σ nh ∧ ∀ τ', Rel σ τ' → mmM σ τ' nh := by
  obtain ⟨nh, h1, h2, h3, h4⟩ := h.2.2.1
  refine ⟨nh, ⟨h1, h2, fun i hi => (h4 i hi).2.2.2⟩, fun τ' r => ?_⟩
  obtain ⟨nh2, k1, k2, k3, k4⟩ := r.2.2.1
  have : nh2 = nh := by rw [h2, nI_eq (by omega) (by omega)] at k2; exact k2.symm
  subst this
  exact ⟨k3, fun i hi => ⟨(k4 i hi).1, (k4 i hi).2.1, (k4 i hi).2.2.1⟩⟩
abbrev hT0 (σ : Sg) (nh N B : Nat) (P : Nat → Int32) (d : Nat → Nat → Int32) (kd : Nat → Int32) (v e : Int32) : Prop := hO (σ 29) (σ 30) (σ 31) nh N B P d kd v e (σ 26 2)
theorem s_all2 (σ ρ : Sg) (nh N B : Nat) (P : Nat → Int32) (d : Nat → Nat → Int32) (kd : Nat → Int32) (hN : N ≤ 8) (hB : B ≤ 24) (hc : clIs σ 5 N P d) (hs : soIs σ B kd) (hm : mmC σ nh) (g1 : same [27, 42] σ ρ) (v e : Int32) (e0 : ρ 27 0 = v) (e1 : ρ 27 1 = e) (e2 : ρ 27 2 = σ 26 2) (K : Int32 → Prop) (h1 : hT0 σ nh N B P d kd v e → K 1) (h0 : ¬ hT0 σ nh N B P d kd v e → K 0) : w_X6_allComesOut 27 ρ K := by
  subst e0
  subst e1
  unfold hT0 at h1 h0
  rw [← e2] at h1 h0
  refine s_all ρ (σ 29) (σ 30) (σ 31) nh N B P d kd hN hB (cl_cg hc (fun q hq => g1 q (by simp; omega))) (so_cg hs (fun q hq _ => g1 q (by simp; omega))) hm.1 (by rw [g1 28 (by decide)]; exact hm.2.1) (fun i hi => ⟨?_, ?_, ?_, hm.2.2 i hi⟩) K h1 h0
  · rw [g1 29 (by decide)]
  · rw [g1 30 (by decide)]
  · rw [g1 31 (by decide)]
theorem s_fitC (σ : Sg) (nh N B : Nat) (P : Nat → Int32) (d : Nat → Nat → Int32) (kd : Nat → Int32) (hN : N ≤ 8) (hB : B ≤ 24) (hc : clIs σ 5 N P d) (hs : soIs σ B kd) (hm : mmC σ nh) (fs : Nat → Prop) (hfs : ∀ v1, fs v1 ↔ hT0 σ nh N B P d kd (nI v1) (σ 26 1)) (K : Int32 → Sg → Prop) (h : ∀ σ', same [27, 42] σ σ' → (∀ v1, v1 < 100 → fs v1 → σ' 42 (ctP fs v1) = nI v1) → K (nI (ctP fs 100)) σ') : w_X6_findFittingSpeeds σ K := by
  refine s_become σ _ (fun σ1 u1 u2 => ?_)
  refine up3 (fun j y1 y2 ρ => y1 = nI (ctP fs j) ∧ y2 = nI j ∧ same [27, 42] σ ρ ∧ ρ 27 1 = σ 26 1 ∧ ρ 27 2 = σ 26 2 ∧ ∀ v1, v1 < j → fs v1 → ρ 42 (ctP fs v1) = nI v1) 100 ?_ 0 _ _ _ (Nat.zero_le _) ⟨rfl, rfl, u1.mono (by decide), u2 1 (by omega), u2 2 (by omega), fun v1 hv => by omega⟩
  rintro j rc _ _ ρ hj ⟨rfl, rfl, g1, g2, g3, g4⟩ hrc
  have cj := ctP_le (p1 := fs) j
  unfold F_X6_findFittingSpeeds_15 E_X6_findFittingSpeeds_15
  by_cases c1 : 100 ≤ j
  · have ej : j = 100 := by omega
    subst ej
    exact it_p (nI_le (a := 100) c1 (by omega)) (h ρ g1 g4)
  · refine it_n (fun z => c1 ((nI_leI (a := 100) (by omega) (by omega)).mp z)) ?_
    rintro _ rfl
    have e1 : pt ρ 27 0 (nI j) 27 1 = σ 26 1 := by rw [pt_o _ _ (by decide)]; exact g2
    have e2 : pt ρ 27 0 (nI j) 27 2 = σ 26 2 := by rw [pt_o _ _ (by decide)]; exact g3
    refine s_all2 σ _ nh N B P d kd hN hB hc hs hm (g1.pt (by decide)) (nI j) (σ 26 1) (pt_s _ _ _ _) e1 e2 _ (fun z => it_n (by decide) ?_) (fun z => it_p rfl ?_)
    · rw [← hfs j] at z
      refine ⟨vp_in_nI (by omega) (by omega), ?_⟩
      rintro _ rfl
      rw [nI_clamp (by omega), nI_1, nI_1]
      refine hrc _ _ _ (by omega) ⟨by rw [ctP_y z], rfl, (g1.pt (by decide)).pt (by decide), ?_, ?_, fun v1 hv hf => ?_⟩
      · rw [pt_ne _ _ _ (by decide)]; exact e1
      · rw [pt_ne _ _ _ (by decide)]; exact e2
      · by_cases c2 : v1 = j
        · subst c2
          exact pt_s _ _ _ _
        · have := ctP_lt hf (j := j) (by omega)
          rw [pt_o _ _ (by omega), pt_ne _ _ _ (by decide)]
          exact g4 v1 (by omega) hf
    · rw [← hfs j] at z
      rw [nI_1]
      refine hrc _ _ _ (by omega) ⟨by rw [ctP_n z], rfl, g1.pt (by decide), e1, e2, fun v1 hv hf => ?_⟩
      have c2 : v1 ≠ j := by
        rintro rfl
        exact z hf
      rw [pt_ne _ _ _ (by decide)]
      exact g4 v1 (by omega) hf
/-- the model's state while the train is another -/
def mvM (τ1 ρ : Sg) (N : Nat) (P : Nat → Int32) (d : Nat → Nat → Int32) (B : Nat) (kd : Nat → Int32) (j : Nat) : Prop := same [9, 11, 12, 13, 17] τ1 ρ ∧ (∀ q, q ≠ j → ρ 9 q = τ1 9 q) ∧ fdIs ρ N P d B kd
theorem mvM.rf {τ1 : Sg} {N : Nat} {P : Nat → Int32} {d : Nat → Nat → Int32} {B : Nat} {kd : Nat → Int32} {j : Nat} (h : fdIs τ1 N P d B kd) : mvM τ1 τ1 N P d B kd j := ⟨same.rf, fun _ _ => rfl, h⟩
theorem mvM.back {τ1 ρ : Sg} {N : Nat} {P : Nat → Int32} {d : Nat → Nat → Int32} {B : Nat} {kd : Nat → Int32} {j : Nat} (hN : N ≤ 8) (h : mvM τ1 ρ N P d B kd j) (K : Sg → Prop) (hK : ∀ τ', kpM τ1 τ' → τ' 9 = τ1 9 → same [9, 11, 12, 13, 17] τ1 τ' → τ' 17 = ρ 17 → fdIs τ' N P d B kd → K τ') : w_X7_findNotes (pt ρ 9 j (τ1 9 j)) K := by
  obtain ⟨g1, g2, g3⟩ := h
  refine s_notes _ N B P d kd hN ⟨ρ, g3, same.rf.pt (by decide), by rw [pt_ne _ _ _ (by decide)], by rw [pt_ne _ _ _ (by decide)]⟩ _ (fun τ2 k2 k3 => ?_)
  have e9 : τ2 9 = τ1 9 := by
    rw [k2 9 (by decide)]
    funext q
    by_cases c1 : q = j
    · subst c1
      exact pt_s _ _ _ _
    · rw [pt_o _ _ c1]
      exact g2 q c1
  have sm : same [9, 11, 12, 13, 17] τ1 τ2 := (g1.tr ((same.rf.pt (by decide) : same [9] ρ (pt ρ 9 j (τ1 9 j))).mono (by decide))).tr (k2.mono (by decide))
  refine hK τ2 ⟨sm.mono (by decide), ?_, ?_, fun j1 _ => by rw [e9]⟩ e9 sm ?_ k3
  · rw [sm 0 (by decide)]
  · rw [sm 0 (by decide)]
  · rw [k2 17 (by decide), pt_ne _ _ _ (by decide)]
theorem mvM.heard {σ τ1 ρ : Sg} {nh N : Nat} {P : Nat → Int32} {d : Nat → Nat → Int32} {B : Nat} {kd : Nat → Int32} {j : Nat} (hN : N ≤ 8) (hB : B ≤ 24) (hm : mmC σ nh) (hm2 : mmM σ τ1 nh) (h : mvM τ1 ρ N P d B kd j) (x : Int32) (v e w : Int32) (e0 : pt ρ 9 j x 9 0 = v) (e1 : pt ρ 9 j x 9 1 = e) (e2 : pt ρ 9 j x 9 2 = w) (K : Int32 → Sg → Prop) (h1 : ∀ τ', mvM τ1 τ' N P d B kd j → τ' 9 = pt ρ 9 j x 9 → τ' 17 = ρ 17 → hO (σ 29) (σ 30) (σ 31) nh N B P d kd v e w → K 1 τ') (h0 : ∀ τ', mvM τ1 τ' N P d B kd j → τ' 9 = pt ρ 9 j x 9 → τ' 17 = ρ 17 → ¬ hO (σ 29) (σ 30) (σ 31) nh N B P d kd v e w → K 0 τ') : w_X7_isHeard (pt ρ 9 j x) K := by
  subst e0
  subst e1
  subst e2
  obtain ⟨g1, g2, g3⟩ := h
  have key : ∀ τ', same [11, 12, 13] (pt ρ 9 j x) τ' → fdIs τ' N P d B kd → mvM τ1 τ' N P d B kd j ∧ τ' 9 = pt ρ 9 j x 9 ∧ τ' 17 = ρ 17 := fun τ' k2 k3 => by
    refine ⟨⟨(g1.tr ((same.rf.pt (by decide) : same [9] ρ (pt ρ 9 j x)).mono (by decide))).tr (k2.mono (by decide)), fun q hq => ?_, k3⟩, k2 9 (by decide), ?_⟩
    · rw [k2 9 (by decide), pt_o _ _ hq]
      exact g2 q hq
    · rw [k2 17 (by decide), pt_ne _ _ _ (by decide)]
  refine s_isHeard _ (σ 29) (σ 30) (σ 31) nh N B P d kd hN hB ⟨ρ, g3, same.rf.pt (by decide), by rw [pt_ne _ _ _ (by decide)], by rw [pt_ne _ _ _ (by decide)]⟩ hm.1 ?_ (fun i hi => ?_) _ (fun τ' k2 k3 z => ?_) (fun τ' k2 k3 z => ?_)
  · rw [pt_ne _ _ _ (by decide), g1 0 (by decide)]
    exact hm2.1
  · rw [pt_ne _ _ _ (by decide), g1 16 (by decide)]
    exact ⟨(hm2.2 i hi).1, (hm2.2 i hi).2.1, (hm2.2 i hi).2.2, hm.2.2 i hi⟩
  · obtain ⟨w1, w2, w3⟩ := key τ' k2 k3
    exact h1 τ' w1 w2 w3 z
  · obtain ⟨w1, w2, w3⟩ := key τ' k2 k3
    exact h0 τ' w1 w2 w3 z
theorem s_speedsM (σ τ1 : Sg) (nh N B : Nat) (P : Nat → Int32) (d : Nat → Nat → Int32) (kd : Nat → Int32) (hN : N ≤ 8) (hB : B ≤ 24) (hm : mmC σ nh) (hm2 : mmM σ τ1 nh) (hf : fdIs τ1 N P d B kd) (h9 : ∀ j, j < 4 → τ1 9 j = σ 26 j) (fs : Nat → Prop) (hfs : ∀ v1, fs v1 ↔ hT0 σ nh N B P d kd (nI v1) (σ 26 1)) (x1 : Int32) (so : Nat → Option Nat) (s0 : so 0 = none) (sy : ∀ n, n < 100 → fs n → nI (ctP fs n) = x1 → so (n + 1) = some n) (sn : ∀ n, ¬ (fs n ∧ nI (ctP fs n) = x1) → so (n + 1) = so n) (K : Int32 → Sg → Prop) (h : ∀ τ', kpM τ1 τ' → τ' 9 = τ1 9 → same [9, 11, 12, 13, 17] τ1 τ' → fdIs τ' N P d B kd → if x1 = -1 then K (nI (ctP fs 100)) τ' else K (enc (so 100)) τ') : w_X7_speedsOf x1 τ1 K := by
  unfold w_X7_speedsOf
  rw [z0]
  refine ⟨i04, ?_⟩
  rintro _ rfl
  refine up4 (fun j y3 y4 y5 ρ => y3 = nI (ctP fs j) ∧ y4 = enc (so j) ∧ y5 = nI j ∧ mvM τ1 ρ N P d B kd 0) 100 ?_ 0 _ _ _ _ (Nat.zero_le _) ⟨rfl, by rw [s0]; rfl, rfl, mvM.rf hf⟩
  rintro j rc _ _ _ ρ hj ⟨rfl, rfl, rfl, g1⟩ hrc
  have cj := ctP_le (p1 := fs) j
  unfold F_X7_speedsOf_15 E_X7_speedsOf_15
  rw [z0]
  by_cases c1 : 100 ≤ j
  · have ej : j = 100 := by omega
    subst ej
    refine it_p (nI_le (a := 100) c1 (by omega)) ⟨i04, ?_⟩
    rintro _ rfl
    exact g1.back hN _ (fun τ' k1 k2 k3 k4 k5 => h τ' k1 k2 k3 k5)
  · refine it_n (fun z => c1 ((nI_leI (a := 100) (by omega) (by omega)).mp z)) ⟨i04, ?_⟩
    rintro _ rfl
    have e1 : pt ρ 9 0 (nI j) 9 1 = σ 26 1 := by rw [pt_o _ _ (by decide), g1.2.1 1 (by decide)]; exact h9 1 (by omega)
    have e2 : pt ρ 9 0 (nI j) 9 2 = σ 26 2 := by rw [pt_o _ _ (by decide), g1.2.1 2 (by decide)]; exact h9 2 (by omega)
    refine g1.heard hN hB hm hm2 (nI j) (nI j) (σ 26 1) (σ 26 2) (pt_s _ _ _ _) e1 e2 _ (fun τ' k1 k2 k3 z => it_n (by decide) ?_) (fun τ' k1 k2 k3 z => it_p rfl ?_)
    · have z2 : fs j := (hfs j).mpr z
      unfold J_X7_speedsOf_51 J_X7_speedsOf_53
      rw [nI_1, nI_1]
      refine it_c (fun c2 => it_n (by decide) (hrc _ _ _ _ (by omega) ⟨by rw [ctP_y z2], ?_, rfl, k1⟩)) (fun c2 => it_n (by decide) (hrc _ _ _ _ (by omega) ⟨by rw [ctP_y z2], ?_, rfl, k1⟩))
      · rw [sy j (by omega) z2 c2]
        rfl
      · rw [sn j (fun y => c2 y.2)]
    · have z2 : ¬ fs j := fun y => z ((hfs j).mp y)
      unfold J_X7_speedsOf_51 J_X7_speedsOf_53
      rw [nI_1]
      refine it_p rfl (hrc _ _ _ _ (by omega) ⟨?_, ?_, rfl, k1⟩)
      · rw [ctP_n z2]
        exact Int32.add_zero _
      · rw [sn j (fun y => z2 y.1)]
theorem op_speeds {σ τ : Sg} (h : Rel σ τ) (x1 : Int32) : w_X6_speeds x1 σ (fun r1 σ1 => w_X7_speeds x1 τ (fun r2 τ1 => r1 = r2 ∧ Rel σ1 τ1)) := by
  obtain ⟨N, P, d, B, kd, ok, hP, hB, hc, hn, hs, hT, _, _, fnd⟩ := vw h
  obtain ⟨nh, hm, hm2⟩ := mm_of h
  have hN := ok.1
  obtain ⟨fs, hfs⟩ : ∃ fs : Nat → Prop, ∀ v1, fs v1 ↔ hT0 σ nh N B P d kd (nI v1) (σ 26 1) := ⟨_, fun _ => Iff.rfl⟩
  have c100 := ctP_le (p1 := fs) 100
  unfold w_X6_speeds w_X7_speeds
  by_cases cm : x1 = -1
  · subst cm
    refine it_n (by decide) (it_p (by decide) ?_)
    refine s_fitC σ nh N B P d kd hN hB hc hs hm fs hfs _ (fun σ' g1 g2 => it_p rfl ?_)
    refine fnd _ (fun τ' a1 a2 a3 a4 a5 => s_in (x := -1) (l := -1) (h := 99) (by decide) (by decide) _ (fun _ _ => it_n (by decide) ?_) (fun z => absurd (by decide) z))
    exact s_speedsM σ τ' nh N B P d kd hN hB hm (hm2 τ' a4) a3 a5 fs hfs (-1) (fun _ => none) rfl (fun n hn _ z => absurd z (nI_m1 (by have := ctP_le (p1 := fs) n; omega))) (fun _ _ => rfl) _ (fun τ2 k1 k2 k3 k4 => it_p rfl ⟨rfl, (a4.kp k1).ks (g1.mono (by decide))⟩)
  · rcases ix_c x1 (n1 := 100) (by omega) with hx | ⟨k1, hk, rfl⟩
    · have M : w_X7_find τ (fun τ1 => w_X7_in (x1).toInt64 (-1 : Int64) (99 : Int64) (fun r12 => (if r12 = 0 then (fun r2 τ1 => -2 = r2 ∧ Rel σ τ1) (-2 : Int32) τ1 else w_X7_speedsOf x1 τ1 (fun r20 τ20 => (fun r2 τ1 => -2 = r2 ∧ Rel σ τ1) r20 τ20)))) := by
        refine fnd _ (fun τ' a1 a2 a3 a4 a5 => s_in (l := -1) (h := 99) (by decide) (by decide) _ (fun z1 z2 => ?_) (fun z => it_p rfl ⟨rfl, a4⟩))
        exfalso
        have e1 : (nI 100).toInt = 100 := by decide
        have e2 : (99 : Int32).toInt = 99 := by decide
        have e3 : (0 : Int32).toInt = 0 := by decide
        have e4 : (-1 : Int32).toInt = -1 := by decide
        rw [fa_le] at z1 z2
        rw [fa_lt, fa_le] at hx
        rw [fa_eq] at cm
        omega
      refine it_c (fun _ => M) (fun c1 => it_n (fun c2 => ?_) M)
      have e1 : (nI 100).toInt = 100 := by decide
      have e2 : (100 : Int32).toInt = 100 := by decide
      have e3 : (0 : Int32).toInt = 0 := by decide
      have e4 : (-1 : Int32).toInt = -1 := by decide
      rw [fa_lt] at c1 c2
      rw [fa_lt, fa_le] at hx
      rw [fa_eq] at cm
      omega
    · refine it_n (fun z => ?_) (it_p (nI_lt (b := 100) hk (by omega)) ?_)
      · have e4 : (-1 : Int32).toInt = -1 := by decide
        rw [fa_lt, nI_toInt (by omega)] at z
        omega
      · refine s_fitC σ nh N B P d kd hN hB hc hs hm fs hfs _ (fun σ' g1 g2 => it_n (nI_m1 (by omega)) ?_)
        have M : ∀ v1 : Int32, v1 = enc (sel fs k1 100) → w_X7_find τ (fun τ1 => w_X7_in (nI k1).toInt64 (-1 : Int64) (99 : Int64) (fun r12 => (if r12 = 0 then (fun r2 τ1 => v1 = r2 ∧ Rel σ' τ1) (-2 : Int32) τ1 else w_X7_speedsOf (nI k1) τ1 (fun r20 τ20 => (fun r2 τ1 => v1 = r2 ∧ Rel σ' τ1) r20 τ20)))) := by
          rintro _ rfl
          refine fnd _ (fun τ' a1 a2 a3 a4 a5 => s_in (l := -1) (h := 99) (by decide) (by decide) _ (fun _ _ => it_n (by decide) ?_) (fun z => absurd ⟨?_, nI_le (b := 99) (by omega) (by omega)⟩ z))
          · refine s_speedsM σ τ' nh N B P d kd hN hB hm (hm2 τ' a4) a3 a5 fs hfs (nI k1) (sel fs k1) rfl (fun n hn z z2 => sel_y z ?_) (fun n z => sel_n (fun y => z ⟨y.1, by rw [y.2]⟩)) _ (fun τ2 k1 k2 k3 k4 => it_n (nI_m1 (by omega)) ⟨rfl, (a4.kp k1).ks (g1.mono (by decide))⟩)
            have := ctP_le (p1 := fs) n
            rw [nI_eq (by omega) (by omega)] at z2
            exact z2
          · have e4 : (-1 : Int32).toInt = -1 := by decide
            rw [fa_le, nI_toInt (by omega)]
            omega
        by_cases c1 : ctP fs 100 ≤ k1
        · refine it_p (nI_le c1 (by omega)) (M _ ?_)
          rw [sel_none c1]
          rfl
        · refine it_n (fun z => c1 ((nI_leI (by omega) (by omega)).mp z)) ⟨vp_in_nI (by omega) (by omega), M _ ?_⟩
          obtain ⟨v1, w1, w2, w3, w4⟩ := sel_some (p1 := fs) (k1 := k1) (n := 100) (by omega)
          rw [nI_clamp (by omega), w2, ← w4, g2 v1 w1 w3]
          rfl
