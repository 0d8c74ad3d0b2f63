/-- the least and the greatest of the notes of the first k -/
def spf (f : Nat → Option Int32) : Nat → Option (Int32 × Int32)
  | 0 => none
  | k + 1 => match f k with
    | none => spf f k
    | some x => match spf f k with
      | none => some (x, x)
      | some (l, h) => some (if x < l then x else l, if h < x then x else h)
def spv (f : Nat → Option Int32) (N : Nat) : Int32 := match spf f N with
  | none => 0
  | some (l, h) => h - l
theorem spf_n {f : Nat → Option Int32} {k : Nat} (h : f k = none) : spf f (k + 1) = spf f k := by
  show (match f k with | none => spf f k | some x => _) = _
  rw [h]
theorem spf_s0 {f : Nat → Option Int32} {k : Nat} {x : Int32} (h : f k = some x) (h2 : spf f k = none) : spf f (k + 1) = some (x, x) := by
  show (match f k with | none => spf f k | some x => (match spf f k with | none => some (x, x) | some (l, h) => some (if x < l then x else l, if h < x then x else h))) = _
  rw [h, h2]
theorem spf_ss {f : Nat → Option Int32} {k : Nat} {x l g : Int32} (h : f k = some x) (h2 : spf f k = some (l, g)) : spf f (k + 1) = some (if x < l then x else l, if g < x then x else g) := by
  show (match f k with | none => spf f k | some x => (match spf f k with | none => some (x, x) | some (l, h) => some (if x < l then x else l, if h < x then x else h))) = _
  rw [h, h2]
theorem spf_rg {f : Nat → Option Int32} {N : Nat} (hr : rg f N) : ∀ {k : Nat} {l g : Int32}, k ≤ N → spf f k = some (l, g) → ∃ a b : Nat, l = nI a ∧ g = nI b ∧ 300 ≤ a ∧ a ≤ b ∧ b ≤ 1200
  | 0, l, g, _, h => by cases h
  | k + 1, l, g, hk, h => by
    cases hf : f k with
    | none =>
      rw [spf_n hf] at h
      exact spf_rg hr (by omega) h
    | some x =>
      obtain ⟨m, rfl, h1, h2⟩ := hr k (by omega) x hf
      cases hs : spf f k with
      | none =>
        rw [spf_s0 hf hs] at h
        cases h
        exact ⟨m, m, rfl, rfl, h1, Nat.le_refl _, h2⟩
      | some t =>
        obtain ⟨l', g'⟩ := t
        rw [spf_ss hf hs] at h
        obtain ⟨a, b, rfl, rfl, h3, h4, h5⟩ := spf_rg hr (by omega) hs
        cases h
        refine ⟨if m < a then m else a, if b < m then m else b, ?_, ?_, ?_, ?_, ?_⟩
        · by_cases c : m < a
          · rw [if_pos c, if_pos ((nI_ltI (by omega) (by omega)).mpr c)]
          · rw [if_neg c, if_neg (fun z => c ((nI_ltI (by omega) (by omega)).mp z))]
        · by_cases c : b < m
          · rw [if_pos c, if_pos ((nI_ltI (by omega) (by omega)).mpr c)]
          · rw [if_neg c, if_neg (fun z => c ((nI_ltI (by omega) (by omega)).mp z))]
        · split <;> omega
        · split <;> split <;> omega
        · split <;> omega
theorem spv_rg {f : Nat → Option Int32} {N : Nat} (hr : rg f N) : ∃ m : Nat, spv f N = nI m ∧ m ≤ 900 := by
  unfold spv
  cases h : spf f N with
  | none => exact ⟨0, rfl, by omega⟩
  | some t =>
    obtain ⟨l, g⟩ := t
    obtain ⟨a, b, rfl, rfl, h1, h2, h3⟩ := spf_rg hr (Nat.le_refl _) h
    exact ⟨b - a, pk_sub h2, by omega⟩
def lov (o : Option (Int32 × Int32)) : Int32 := match o with
  | none => -10000
  | some (l, _) => l
def hiv (o : Option (Int32 × Int32)) : Int32 := match o with
  | none => -10000
  | some (_, h) => h
theorem s_spread (σ : Sg) (k1 k2 N B b : Nat) (P : Nat → Int32) (d : Nat → Nat → Int32) (kd : Nat → Int32) (hN : N ≤ 8) (hB : B ≤ 24) (hb : b < B) (hc : clIs σ k1 N P d) (hs : soIs σ B kd) (hr : rg (NT P d N (σ k2 0) (σ k2 1) (σ k2 2) (rb kd b)) N) (K : Int32 → Prop) (h : K (spv (NT P d N (σ k2 0) (σ k2 1) (σ k2 2) (rb kd b)) N)) : w_X6_spreadOf k1 k2 (nI b) σ K := by
  unfold w_X6_spreadOf
  simp (disch := omega) only [nI_clamp]
  rw [(hs.2 b hb).2]
  refine ⟨vp_in_nI (by omega) (by omega), ?_⟩
  rintro _ rfl
  generalize hf : NT P d N (σ k2 0) (σ k2 1) (σ k2 2) (rb kd b) = f at hr h
  refine up3 (fun j a c i => i = nI j ∧ a = lov (spf f j) ∧ c = hiv (spf f j)) N ?_ 0 _ _ _ (Nat.zero_le _) ⟨rfl, rfl, rfl⟩
  rintro j rc _ _ _ hj ⟨rfl, rfl, rfl⟩ hrc
  unfold F_X6_spreadOf_24 E_X6_spreadOf_24
  rw [hc.1.1]
  by_cases hjN : N ≤ j
  · refine it_p ((nI_leI (by omega) (by omega)).mpr hjN) ?_
    have ej : j = N := by omega
    subst ej
    unfold spv at h
    cases hq : spf f j with
    | none => rw [hq] at h; exact h
    | some t => rw [hq] at h; exact h
  · refine it_n (fun z => hjN ((nI_leI (by omega) (by omega)).mp z)) ?_
    refine s_noteBehind σ k1 k2 N j _ P d hN (by omega) hc _ ?_
    rw [hf, nI_1]
    cases hx : f j with
    | none =>
      refine it_p rfl (hrc _ _ _ (by omega) ⟨rfl, ?_, ?_⟩)
      · rw [spf_n hx]
      · rw [spf_n hx]
    | some x =>
      obtain ⟨m, rfl, g1, g2⟩ := hr j (by omega) x hx
      refine it_n (nm_ne (by omega)) ?_
      unfold J_X6_spreadOf_72
      rw [nI_1]
      cases hq : spf f j with
      | none =>
        refine it_p rfl ?_
        rintro _ rfl
        refine hrc _ _ _ (by omega) ⟨rfl, ?_, ?_⟩
        · rw [spf_s0 hx hq]
          rfl
        · rw [spf_s0 hx hq]
          exact if_pos (nm_lt (by omega))
      | some t =>
        obtain ⟨l, g⟩ := t
        obtain ⟨a, c, rfl, rfl, h3, h4, h5⟩ := spf_rg hr (by omega) hq
        refine it_n (nm_ne (by omega)) ?_
        rintro _ rfl _ rfl
        refine hrc _ _ _ (by omega) ⟨rfl, ?_, ?_⟩
        · rw [spf_ss hx hq]
          rfl
        · rw [spf_ss hx hq]
          rfl
def bitp (x : Int32) (k : Nat) : Prop := ((x >>> (nI k &&& 31)) &&& 1) = 1
def smv (o : Option (Int32 × Int32)) : Int32 × Int32 × Int32 := match o with
  | none => (0, 0, 0)
  | some (l, h) => (l, h, 1)
theorem s_mspread (τ : Sg) (N B b : Nat) (P : Nat → Int32) (d : Nat → Nat → Int32) (kd : Nat → Int32) (x2 : Int32) (hm : Nat → Bool) (hN : N ≤ 8) (hB : B ≤ 24) (hb : b < B) (hf : fdIs τ N P d B kd) (hh : ∀ k, k < N → (bitp x2 k ↔ hm k = true)) (K : Int32 → Prop) (h : K (spv (fun k => if hm k = true then none else NT P d N (τ 9 0) (τ 9 1) (τ 9 2) (rb kd b) k) N)) : w_X7_spreadOf (nI b) x2 τ K := by
  unfold w_X7_spreadOf
  generalize hg : (fun k => if hm k = true then none else NT P d N (τ 9 0) (τ 9 1) (τ 9 2) (rb kd b) k) = f at h
  refine up4 (fun j a c s i => i = nI j ∧ (a, c, s) = smv (spf f j)) N ?_ 0 _ _ _ _ (Nat.zero_le _) ⟨rfl, rfl⟩
  rintro j rc aa9 cc9 ss9 _ hj ⟨rfl, es⟩ hrc
  unfold F_X7_spreadOf_11 E_X7_spreadOf_11
  rw [hf.1.1]
  by_cases hjN : N ≤ j
  · refine it_p ((nI_leI (by omega) (by omega)).mpr hjN) ?_
    have ej : j = N := by omega
    subst ej
    unfold spv at h
    cases hq : spf f j with
    | none =>
      rw [hq] at h es
      cases es
      exact h
    | some t =>
      obtain ⟨lo9, hi9⟩ := t
      rw [hq] at h es
      have ea : aa9 = lo9 := congrArg (fun z => z.1) es
      have ec : cc9 = hi9 := congrArg (fun z => z.2.1) es
      rw [ea, ec]
      exact h
  · refine it_n (fun z => hjN ((nI_leI (by omega) (by omega)).mp z)) ⟨vp_in_nI (by omega) (by omega), ?_⟩
    have hjN2 : j < N := by omega
    simp (disch := omega) only [nI_clamp]
    rw [(hf.2.2.1 j hjN2).2.1, nI_1]
    have fj : f j = if hm j = true then none else NT P d N (τ 9 0) (τ 9 1) (τ 9 2) (rb kd b) j := by rw [← hg]
    by_cases c0 : flk P d N j = none
    · refine it_p ((stpv_n hN hjN2).mpr c0) (hrc _ _ _ _ hjN2 ⟨rfl, ?_⟩)
      rw [es, spf_n]
      rw [fj, NT_n.mpr c0]
      split <;> rfl
    · refine it_n (fun z => c0 ((stpv_n hN hjN2).mp z)) ?_
      unfold w_X7_isIn
      by_cases cb : hm j = true
      · refine it_p ((hh j hjN2).mpr cb) (it_n (by decide) (hrc _ _ _ _ hjN2 ⟨rfl, ?_⟩))
        rw [es, spf_n]
        rw [fj, if_pos cb]
      · refine it_n (fun z => cb ((hh j hjN2).mp z)) (it_p rfl ?_)
        rw [if_neg cb] at fj
        cases hx : NT P d N (τ 9 0) (τ 9 1) (τ 9 2) (rb kd b) j with
        | none => exact absurd (NT_n.mp hx) c0
        | some x =>
          rw [hx] at fj
          refine s_noteIn τ N B j b P d kd hN hB hjN2 hb hf x hx _ ?_
          unfold J_X7_spreadOf_65 w_X7_lesser w_X7_greater
          rw [nI_1]
          cases hq : spf f j with
          | none =>
            rw [hq] at es
            cases es
            refine it_p rfl (it_p rfl (hrc _ _ _ _ hjN2 ⟨rfl, ?_⟩))
            rw [spf_s0 fj hq]
            rfl
          | some t =>
            obtain ⟨lo9, hi9⟩ := t
            rw [hq] at es
            have ea : aa9 = lo9 := congrArg (fun z => z.1) es
            have ec : cc9 = hi9 := congrArg (fun z => z.2.1) es
            have ess : ss9 = 1 := congrArg (fun z => z.2.2) es
            rw [ea, ec, ess]
            have key : ∀ y, y = (if x < lo9 then x else lo9) → (if (1 : Int32) = 0 then rc y x 1 (nI (j + 1)) else if x ≤ hi9 then rc y hi9 1 (nI (j + 1)) else rc y x 1 (nI (j + 1))) := by
              rintro _ rfl
              refine it_n (by decide) (it_c (fun q => ?_) (fun q => ?_))
              · refine hrc _ _ _ _ hjN2 ⟨rfl, ?_⟩
                rw [spf_ss fj hq, if_neg (i_nlt q)]
                rfl
              · refine hrc _ _ _ _ hjN2 ⟨rfl, ?_⟩
                rw [spf_ss fj hq, if_pos (fa_of_nle q)]
                rfl
            refine it_n (by decide) (it_c (fun q => key _ ?_) (fun q => key _ ?_))
            · rw [if_neg (i_nlt q)]
            · rw [if_pos (fa_of_nle q)]
theorem bit_0 {N : Nat} (hN : N ≤ 8) : ∀ k, k < N → (bitp 0 k ↔ (fun _ : Nat => false) k = true) := by
  intro k hk
  have key : ∀ k : Fin 8, ¬ ((0 : Int32) >>> (nI k.val &&& 31)) &&& 1 = 1 := by decide
  exact ⟨fun z => absurd z (key ⟨k, by omega⟩), fun z => by cases z⟩
theorem s_mspread0 (τ : Sg) (N B b : Nat) (P : Nat → Int32) (d : Nat → Nat → Int32) (kd : Nat → Int32) (hN : N ≤ 8) (hB : B ≤ 24) (hb : b < B) (hf : fdIs τ N P d B kd) (K : Int32 → Prop) (h : K (spv (NT P d N (τ 9 0) (τ 9 1) (τ 9 2) (rb kd b)) N)) : w_X7_spreadOf (nI b) 0 τ K :=
  s_mspread τ N B b P d kd 0 (fun _ => false) hN hB hb hf (bit_0 hN) K h
/-- whether a bar closes -/
def clz (f : Nat → Option Int32) (N : Nat) (kd : Nat → Int32) (b : Nat) (cl : Int32) : Prop := ¬ kd b = 1 ∧ ¬ cl < spv f N
theorem s_isSung (σ : Sg) (B b : Nat) (kd : Nat → Int32) (hB : B ≤ 24) (hb : b < B) (hs : soIs σ B kd) (K : Int32 → Prop) (h1 : kd b = 1 → K 0) (h2 : ¬ kd b = 1 → K 1) : w_X6_isSung (nI b) σ K := by
  unfold w_X6_isSung w_X6_isNoBar
  rw [hs.1]
  simp (disch := omega) only [Nat.reduceAdd, fa_lit, nI_leI, nI_ltI, nI_eq, nI_add, pk_mul, pk_sub, pk_div, nI_clamp, c_vin, c_em1, c_m1e]
  rw [(hs.2 b hb).1]
  refine it_n (by omega) (it_p hb (it_p trivial ⟨by omega, it_c h1 h2⟩))
theorem s_closes (σ : Sg) (k2 N B b : Nat) (P : Nat → Int32) (d : Nat → Nat → Int32) (kd : Nat → Int32) (hN : N ≤ 8) (hB : B ≤ 24) (hb : b < B) (hc : clIs σ 5 N P d) (hs : soIs σ B kd) (hr : rg (NT P d N (σ k2 0) (σ k2 1) (σ k2 2) (rb kd b)) N) (K : Int32 → Prop) (h1 : clz (NT P d N (σ k2 0) (σ k2 1) (σ k2 2) (rb kd b)) N kd b (σ k2 3) → K 1) (h0 : ¬ clz (NT P d N (σ k2 0) (σ k2 1) (σ k2 2) (rb kd b)) N kd b (σ k2 3) → K 0) : w_X6_closes k2 (nI b) σ K := by
  unfold w_X6_closes
  refine s_isSung σ B b kd hB hb hs _ (fun c => ?_) (fun c => ?_)
  · exact it_p rfl (h0 (fun z => z.1 c))
  · refine it_n (by decide) (s_spread σ 5 k2 N B b P d kd hN hB hb hc hs hr _ ?_)
    exact it_c (fun q => h0 (fun z => z.2 q)) (fun q => h1 ⟨c, q⟩)
theorem s_mcloses (τ : Sg) (N B b : Nat) (P : Nat → Int32) (d : Nat → Nat → Int32) (kd : Nat → Int32) (hN : N ≤ 8) (hB : B ≤ 24) (hb : b < B) (hf : fdIs τ N P d B kd) (K : Int32 → Prop) (h1 : clz (NT P d N (τ 9 0) (τ 9 1) (τ 9 2) (rb kd b)) N kd b (τ 9 3) → K 1) (h0 : ¬ clz (NT P d N (τ 9 0) (τ 9 1) (τ 9 2) (rb kd b)) N kd b (τ 9 3) → K 0) : w_X7_closes (nI b) τ K := by
  unfold w_X7_closes
  simp (disch := omega) only [nI_clamp]
  rw [hf.2.2.2.2 b hb]
  refine ⟨vp_in_nI (by omega) (by omega), it_c (fun c => h0 (fun z => z.1 c)) (fun c => ?_)⟩
  refine s_mspread0 τ N B b P d kd hN hB hb hf _ ⟨i34, ?_⟩
  rw [z3]
  exact it_c (fun q => h0 (fun z => z.2 q)) (fun q => h1 ⟨c, q⟩)
