/-- whose note is least among the first k -/
def flf (f : Nat → Option Int32) : Nat → Option Nat
  | 0 => none
  | k + 1 => match f k with
    | none => flf f k
    | some x => match flf f k with
      | none => some k
      | some b => if x < og (f b) then some k else some b
theorem flf_n {f : Nat → Option Int32} {k : Nat} (h : f k = none) : flf f (k + 1) = flf f k := by
  show (match f k with | none => flf f k | some x => _) = _
  rw [h]
theorem flf_s0 {f : Nat → Option Int32} {k : Nat} {x : Int32} (h : f k = some x) (h2 : flf f k = none) : flf f (k + 1) = some k := by
  show (match f k with | none => flf f k | some x => (match flf f k with | none => some k | some b => if x < og (f b) then some k else some b)) = _
  rw [h, h2]
theorem flf_ss {f : Nat → Option Int32} {k b1 : Nat} {x : Int32} (h : f k = some x) (h2 : flf f k = some b1) : flf f (k + 1) = if x < og (f b1) then some k else some b1 := by
  show (match f k with | none => flf f k | some x => (match flf f k with | none => some k | some b => if x < og (f b) then some k else some b)) = _
  rw [h, h2]
theorem flf_at {f : Nat → Option Int32} : ∀ {k b1 : Nat}, flf f k = some b1 → b1 < k ∧ f b1 ≠ none
  | 0, b1, h => by cases h
  | k + 1, b1, h => by
    cases hx : f k with
    | none =>
      rw [flf_n hx] at h
      have := flf_at h
      exact ⟨by omega, this.2⟩
    | some x =>
      cases hq : flf f k with
      | none =>
        rw [flf_s0 hx hq] at h
        cases h
        exact ⟨by omega, by rw [hx]; exact fun z => by cases z⟩
      | some b2 =>
        rw [flf_ss hx hq] at h
        have := flf_at hq
        split at h
        · cases h
          exact ⟨by omega, by rw [hx]; exact fun z => by cases z⟩
        · cases h
          exact ⟨by omega, this.2⟩
def lsv (f : Nat → Option Int32) (o : Option Nat) : Int32 := match o with
  | none => -10000
  | some b => og (f b)
theorem s_flattest (σ : Sg) (N B b1 : Nat) (P : Nat → Int32) (d : Nat → Nat → Int32) (kd : Nat → Int32) (hN : N ≤ 8) (hB : B ≤ 24) (hb : b1 < B) (hc : clIs σ 5 N P d) (hs : soIs σ B kd) (hr : rg (NT P d N (σ 26 0) (σ 26 1) (σ 26 2) (rb kd b1)) N) (K : Int32 → Prop) (h : K (enc (flf (NT P d N (σ 26 0) (σ 26 1) (σ 26 2) (rb kd b1)) N))) : w_X6_flattestIn (nI b1) σ K := by
  unfold w_X6_flattestIn
  simp (disch := omega) only [nI_clamp]
  rw [show 23 + 2 = 25 from rfl, (hs.2 b1 hb).2]
  refine ⟨vp_in_nI (by omega) (by omega), ?_⟩
  rintro _ rfl
  generalize hf : NT P d N (σ 26 0) (σ 26 1) (σ 26 2) (rb kd b1) = f1 at hr h
  refine up3 (fun j a1 c1 i1 => i1 = nI j ∧ a1 = enc (flf f1 j) ∧ c1 = lsv f1 (flf f1 j)) N ?_ 0 _ _ _ (Nat.zero_le _) ⟨rfl, rfl, rfl⟩
  rintro j rc _ _ _ hj ⟨rfl, rfl, rfl⟩ hrc
  unfold F_X6_flattestIn_20 E_X6_flattestIn_20 J_X6_flattestIn_68
  rw [hc.1.1]
  by_cases hjN : N ≤ j
  · refine it_p ((nI_leI (by omega) (by omega)).mpr hjN) ?_
    have ej : j = N := by omega
    subst ej
    exact h
  · refine it_n (fun z => hjN ((nI_leI (by omega) (by omega)).mp z)) ?_
    refine s_noteBehind σ 5 26 N j _ P d hN (by omega) hc _ ?_
    rw [hf, nI_1]
    cases hx : f1 j with
    | none =>
      refine it_p rfl (hrc _ _ _ (by omega) ⟨rfl, ?_, ?_⟩)
      · rw [flf_n hx]
      · rw [flf_n hx]
    | some x =>
      obtain ⟨m1, rfl, g1, g2⟩ := hr j (by omega) x hx
      refine it_n (nm_ne (by omega)) ?_
      cases hq : flf f1 j with
      | none =>
        refine it_p rfl (hrc _ _ _ (by omega) ⟨rfl, ?_, ?_⟩)
        · rw [flf_s0 hx hq]
          rfl
        · rw [flf_s0 hx hq]
          show nI m1 = og (f1 j)
          rw [hx]
          rfl
      | some b2 =>
        have hb2 := (flf_at hq).1
        refine it_n (nI_m1 (by omega)) ?_
        by_cases cl : nI m1 < og (f1 b2)
        · refine it_n (i_nle cl) (hrc _ _ _ (by omega) ⟨rfl, ?_, ?_⟩)
          · rw [flf_ss hx hq, if_pos cl]
            rfl
          · rw [flf_ss hx hq, if_pos cl]
            show nI m1 = og (f1 j)
            rw [hx]
            rfl
        · refine it_p (fa_of_nlt cl) (hrc _ _ _ (by omega) ⟨rfl, ?_, ?_⟩)
          · rw [flf_ss hx hq, if_neg cl]
          · rw [flf_ss hx hq, if_neg cl]
theorem s_mflattest (τ : Sg) (N B b1 : Nat) (P : Nat → Int32) (d : Nat → Nat → Int32) (kd : Nat → Int32) (hN : N ≤ 8) (hB : B ≤ 24) (hb : b1 < B) (hf : fdIs τ N P d B kd) (K : Int32 → Prop) (h : K (enc (flf (NT P d N (τ 9 0) (τ 9 1) (τ 9 2) (rb kd b1)) N))) : w_X7_flattestIn (nI b1) τ K := by
  unfold w_X7_flattestIn
  generalize hg : NT P d N (τ 9 0) (τ 9 1) (τ 9 2) (rb kd b1) = f1 at h
  refine up2 (fun j a1 i1 => i1 = nI j ∧ a1 = enc (flf f1 j)) N ?_ 0 _ _ (Nat.zero_le _) ⟨rfl, rfl⟩
  rintro j rc _ _ hj ⟨rfl, rfl⟩ hrc
  unfold F_X7_flattestIn_4 E_X7_flattestIn_4
  rw [hf.1.1]
  by_cases hjN : N ≤ j
  · refine it_p ((nI_leI (by omega) (by omega)).mpr hjN) ?_
    have ej : j = N := by omega
    subst ej
    exact h
  · have hjN2 : j < N := by omega
    refine it_n (fun z => hjN ((nI_leI (by omega) (by omega)).mp z)) ⟨vp_in_nI (by omega) (by omega), ?_⟩
    simp (disch := omega) only [nI_clamp]
    rw [(hf.2.2.1 j hjN2).2.1, nI_1]
    cases hx : f1 j with
    | none =>
      have hx2 := hx
      rw [← hg] at hx2
      refine it_p ((stpv_n hN hjN2).mpr (NT_n.mp hx2)) (hrc _ _ hjN2 ⟨rfl, ?_⟩)
      rw [flf_n hx]
    | some x =>
      have hx2 := hx
      rw [← hg] at hx2
      refine it_n (fun z => by rw [NT_n.mpr ((stpv_n hN hjN2).mp z)] at hx2; cases hx2) ?_
      cases hq : flf f1 j with
      | none =>
        refine it_p rfl (hrc _ _ hjN2 ⟨rfl, ?_⟩)
        rw [flf_s0 hx hq]
        rfl
      | some b2 =>
        obtain ⟨hb2, hb3⟩ := flf_at hq
        cases hy : f1 b2 with
        | none => exact absurd hy hb3
        | some y1 =>
          have hy2 := hy
          rw [← hg] at hy2
          refine it_n (nI_m1 (by omega)) (s_noteIn τ N B j b1 P d kd hN hB hjN2 hb hf x hx2 _ (s_noteIn τ N B b2 b1 P d kd hN hB (by omega) hb hf y1 hy2 _ ?_))
          have eo : og (f1 b2) = y1 := by rw [hy]; rfl
          by_cases cl : x < y1
          · refine it_n (i_nle cl) (hrc _ _ hjN2 ⟨rfl, ?_⟩)
            rw [flf_ss hx hq, eo, if_pos cl]
            rfl
          · refine it_p (fa_of_nlt cl) (hrc _ _ hjN2 ⟨rfl, ?_⟩)
            rw [flf_ss hx hq, eo, if_neg cl]
/-- of those below j that are so: how many, and the first -/
noncomputable def ctP (p1 : Nat → Prop) : Nat → Nat
  | 0 => 0
  | j + 1 => by classical exact if p1 j then ctP p1 j + 1 else ctP p1 j
noncomputable def fsP (p1 : Nat → Prop) : Nat → Option Nat
  | 0 => none
  | j + 1 => by classical exact if p1 j ∧ ctP p1 j = 0 then some j else fsP p1 j
theorem ctP_y {p1 : Nat → Prop} {j : Nat} (h : p1 j) : ctP p1 (j + 1) = ctP p1 j + 1 := if_pos h
theorem ctP_n {p1 : Nat → Prop} {j : Nat} (h : ¬ p1 j) : ctP p1 (j + 1) = ctP p1 j := if_neg h
theorem fsP_y {p1 : Nat → Prop} {j : Nat} (h : p1 j) (h0 : ctP p1 j = 0) : fsP p1 (j + 1) = some j := if_pos ⟨h, h0⟩
theorem fsP_n {p1 : Nat → Prop} {j : Nat} (h : ¬ (p1 j ∧ ctP p1 j = 0)) : fsP p1 (j + 1) = fsP p1 j := if_neg h
theorem ctP_le {p1 : Nat → Prop} : ∀ j, ctP p1 j ≤ j
  | 0 => Nat.le_refl _
  | j + 1 => by
    have := ctP_le (p1 := p1) j
    by_cases c1 : p1 j
    · rw [ctP_y c1]; omega
    · rw [ctP_n c1]; omega
def opnP (P : Nat → Int32) (d : Nat → Nat → Int32) (N : Nat) (kd : Nat → Int32) (v e w cl : Int32) (b1 : Nat) : Prop := ¬ kd b1 = 1 ∧ ¬ clz (NT P d N v e w (rb kd b1)) N kd b1 cl
theorem s_openC (σ : Sg) (x1 : Int32) (N B : Nat) (P : Nat → Int32) (d : Nat → Nat → Int32) (kd : Nat → Int32) (hN : N ≤ 8) (hB : B ≤ 24) (hc : clIs σ 5 N P d) (hs : soIs σ B kd) (hr : ∀ b1, b1 < B → rg (NT P d N (σ 26 0) (σ 26 1) (σ 26 2) (rb kd b1)) N) (K : Int32 → Prop) (h : if x1 = 0 then K (enc (fsP (opnP P d N kd (σ 26 0) (σ 26 1) (σ 26 2) (σ 26 3)) B)) else K (nI (ctP (opnP P d N kd (σ 26 0) (σ 26 1) (σ 26 2) (σ 26 3)) B))) : ∃ n17, lq3 (F_X6_open_17 σ (E_X6_open_17 x1 K)) n17 (-1) 0 0 := by
  generalize hp : opnP P d N kd (σ 26 0) (σ 26 1) (σ 26 2) (σ 26 3) = p1 at h
  refine up3 (fun j a1 c1 i1 => i1 = nI j ∧ a1 = enc (fsP p1 j) ∧ c1 = nI (ctP p1 j)) B ?_ 0 _ _ _ (Nat.zero_le _) ⟨rfl, rfl, rfl⟩
  rintro j rc _ _ _ hj ⟨rfl, rfl, rfl⟩ hrc
  have hct := ctP_le (p1 := p1) j
  unfold F_X6_open_17 E_X6_open_17
  rw [hs.1]
  by_cases hjN : B ≤ j
  · refine it_p ((nI_leI (by omega) (by omega)).mpr hjN) ?_
    have ej : j = B := by omega
    subst ej
    exact h
  · have hj2 : j < B := by omega
    refine it_n (fun z => hjN ((nI_leI (by omega) (by omega)).mp z)) ⟨vp_in_nI (by omega) (by omega), ?_⟩
    simp (disch := omega) only [nI_clamp]
    rw [show 23 + 1 = 24 from rfl, (hs.2 j hj2).1, nI_1, nI_1]
    have np : ¬ p1 j → rc (enc (fsP p1 j)) (nI (ctP p1 j)) (nI (j + 1)) := fun c1 => hrc _ _ _ hj2 ⟨rfl, by rw [fsP_n (fun z => c1 z.1)], by rw [ctP_n c1]⟩
    refine it_c (fun q1 => np ?_) (fun q1 => ?_)
    · rw [← hp]
      exact fun z => z.1 q1
    · refine s_closes σ 26 N B j P d kd hN hB hj2 hc hs (hr j hj2) _ (fun c1 => it_n (by decide) (np ?_)) (fun c1 => it_p rfl ?_)
      · rw [← hp]
        exact fun z => z.2 c1
      · have cp : p1 j := by rw [← hp]; exact ⟨q1, c1⟩
        by_cases c0 : ctP p1 j = 0
        · refine it_p (by rw [c0]; rfl) (hrc _ _ _ hj2 ⟨rfl, ?_, ?_⟩)
          · rw [fsP_y cp c0]
            rfl
          · rw [ctP_y cp]
        · refine it_n (fun z => c0 ((nI_eq (b := 0) (by omega) (by omega)).mp z)) (hrc _ _ _ hj2 ⟨rfl, ?_, ?_⟩)
          · rw [fsP_n (fun z => c0 z.2)]
          · rw [ctP_y cp]
theorem s_openM (τ : Sg) (x1 : Int32) (N B : Nat) (P : Nat → Int32) (d : Nat → Nat → Int32) (kd : Nat → Int32) (hN : N ≤ 8) (hB : B ≤ 24) (hf : fdIs τ N P d B kd) (K : Int32 → Prop) (h : if x1 = 0 then K (enc (fsP (opnP P d N kd (τ 9 0) (τ 9 1) (τ 9 2) (τ 9 3)) B)) else K (nI (ctP (opnP P d N kd (τ 9 0) (τ 9 1) (τ 9 2) (τ 9 3)) B))) : w_X7_openBy x1 τ K := by
  unfold w_X7_openBy
  generalize hp : opnP P d N kd (τ 9 0) (τ 9 1) (τ 9 2) (τ 9 3) = p1 at h
  refine up3 (fun j a1 c1 i1 => i1 = nI j ∧ a1 = enc (fsP p1 j) ∧ c1 = nI (ctP p1 j)) B ?_ 0 _ _ _ (Nat.zero_le _) ⟨rfl, rfl, rfl⟩
  rintro j rc _ _ _ hj ⟨rfl, rfl, rfl⟩ hrc
  have hct := ctP_le (p1 := p1) j
  unfold F_X7_openBy_7 E_X7_openBy_7
  rw [hf.2.2.2.1]
  by_cases hjN : B ≤ j
  · refine it_p ((nI_leI (by omega) (by omega)).mpr hjN) ?_
    have ej : j = B := by omega
    subst ej
    exact h
  · have hj2 : j < B := by omega
    refine it_n (fun z => hjN ((nI_leI (by omega) (by omega)).mp z)) ⟨vp_in_nI (by omega) (by omega), ?_⟩
    simp (disch := omega) only [nI_clamp]
    rw [hf.2.2.2.2 j hj2, nI_1, nI_1]
    have np : ¬ p1 j → rc (enc (fsP p1 j)) (nI (ctP p1 j)) (nI (j + 1)) := fun c1 => hrc _ _ _ hj2 ⟨rfl, by rw [fsP_n (fun z => c1 z.1)], by rw [ctP_n c1]⟩
    refine it_c (fun q1 => np ?_) (fun q1 => ?_)
    · rw [← hp]
      exact fun z => z.1 q1
    · refine s_mcloses τ N B j P d kd hN hB hj2 hf _ (fun c1 => it_n (by decide) (np ?_)) (fun c1 => it_p rfl ?_)
      · rw [← hp]
        exact fun z => z.2 c1
      · have cp : p1 j := by rw [← hp]; exact ⟨q1, c1⟩
        by_cases c0 : ctP p1 j = 0
        · refine it_p (by rw [c0]; rfl) (hrc _ _ _ hj2 ⟨rfl, ?_, ?_⟩)
          · rw [fsP_y cp c0]
            rfl
          · rw [ctP_y cp]
        · refine it_n (fun z => c0 ((nI_eq (b := 0) (by omega) (by omega)).mp z)) (hrc _ _ _ hj2 ⟨rfl, ?_, ?_⟩)
          · rw [fsP_n (fun z => c0 z.2)]
          · rw [ctP_y cp]
