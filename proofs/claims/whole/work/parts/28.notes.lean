/-- the note of singer k behind r rests, by the train v e w; none: silent -/
def NT (P : Nat → Int32) (d : Nat → Nat → Int32) (N : Nat) (v e w : Int32) (r : Nat) (k : Nat) : Option Int32 := match flk P d N k with
  | none => none
  | some (q, sm, _) => some (wh v e w (P q) + (sm + wsg P (d 1) q) - d 2 k * nI r)
def og (o : Option Int32) : Int32 := match o with
  | none => -10000
  | some x => x
theorem fol_sum {P E Hr : Nat → Int32} {N : Nat} (hE : ∀ k, k < N → dig (E k)) : ∀ {n : Nat} {o : Option Nat} {s0 i q st : Nat} {sm : Int32}, (∀ q, o = some q → q < N) → fol P E Hr N n o (nI s0) i = some (q, sm, st) → ∃ s, sm = nI s ∧ s ≤ s0 + 4 * n
  | 0, o, s0, i, q, st, sm, ho, h => by cases h
  | n + 1, none, s0, i, q, st, sm, ho, h => by rw [fol_none] at h; cases h
  | n + 1, some q0, s0, i, q, st, sm, ho, h => by
    unfold fol at h
    split at h
    · cases h
      exact ⟨s0, rfl, by omega⟩
    · obtain ⟨x, hx, ex⟩ := hE q0 (ho q0 rfl)
      rw [ex, show nI s0 + nI x / 2 = nI (s0 + x / 2) by simp (disch := omega) only [Nat.reduceAdd, fa_lit, nI_leI, nI_ltI, nI_eq, nI_add, pk_mul, pk_sub, pk_div, nI_clamp, c_vin, c_em1, c_m1e]] at h
      obtain ⟨s, h1, h2⟩ := fol_sum hE (fun q' e => nr_lt e) h
      exact ⟨s, h1, by omega⟩
theorem wh_N {v e w p : Nat} (hv : v < 100) (he : e < 10) (hw : w < 19) (hp : p < 10) : wh (nI v) (nI e) (nI w) (nI p) = nI (1000 + v - v * (p + e) / 4 - 9 + w) ∧ v * (p + e) ≤ 1782 := by
  have ht : v * (p + e) ≤ 99 * 18 := Nat.mul_le_mul (by omega) (by omega)
  refine ⟨?_, by omega⟩
  unfold wh
  generalize hg : v * (p + e) = t at ht
  rw [nI_add p e, pk_mul, hg]
  simp (disch := omega) only [Nat.reduceAdd, fa_lit, nI_leI, nI_ltI, nI_eq, nI_add, pk_mul, pk_sub, pk_div, nI_clamp, c_vin, c_em1, c_m1e]
/-- a choir's and a train's numbers as they may be -/
def okP (N : Nat) (P : Nat → Int32) : Prop := ∀ k, k < N → dig (P k)
def okT (v e w : Int32) : Prop := (∃ n, n < 100 ∧ v = nI n) ∧ (∃ n, n < 10 ∧ e = nI n) ∧ ∃ n, n < 19 ∧ w = nI n
def rg (f : Nat → Option Int32) (N : Nat) : Prop := ∀ k, k < N → ∀ x, f k = some x → ∃ m : Nat, x = nI m ∧ 300 ≤ m ∧ m ≤ 1200
theorem NT_rg {P : Nat → Int32} {d : Nat → Nat → Int32} {N r : Nat} {v e w : Int32} (hc : okC N d) (hp : okP N P) (ht : okT v e w) (hr : r ≤ 24) : rg (NT P d N v e w r) N := by
  intro k hk x hx
  unfold NT at hx
  split at hx
  · cases hx
  · rename_i q sm st hf
    cases hx
    obtain ⟨⟨v, hv, rfl⟩, ⟨e, he, rfl⟩, w, hw, rfl⟩ := ht
    have hq := (fol_path hk hf).2.2.2.1
    obtain ⟨p, hp9, ep⟩ := hp q hq
    obtain ⟨s, es, hs⟩ := fol_sum (fun k hk => (hc.2 k hk).2.1) (s0 := 0) (fun q' e' => by cases e'; exact hk) hf
    obtain ⟨y, hy, ey⟩ := (hc.2 q hq).2.1
    obtain ⟨z, hz, ez⟩ := (hc.2 k hk).2.2.1
    obtain ⟨ew, hw2⟩ := wh_N hv he hw hp9
    have hzr : z * r ≤ 9 * 24 := Nat.mul_le_mul (by omega) hr
    rw [ep, ew, es, ez, pk_mul]
    generalize z * r = zr at hzr
    generalize v * (p + e) = t at hw2
    unfold wsg
    rw [ey]
    split
    · refine ⟨1000 + v - t / 4 - 9 + w + (s + y) - zr, ?_, by omega, by omega⟩
      simp (disch := omega) only [Nat.reduceAdd, fa_lit, nI_leI, nI_ltI, nI_eq, nI_add, pk_mul, pk_sub, pk_div, nI_clamp, c_vin, c_em1, c_m1e]
    · refine ⟨1000 + v - t / 4 - 9 + w + s - y - zr, ?_, by omega, by omega⟩
      have : ∀ a b c : Int32, a + (b + -c) = a + b - c := by intro a b c; grind
      rw [this]
      simp (disch := omega) only [Nat.reduceAdd, fa_lit, nI_leI, nI_ltI, nI_eq, nI_add, pk_mul, pk_sub, pk_div, nI_clamp, c_vin, c_em1, c_m1e]
theorem nm_ne {m : Nat} (h : m < 2 ^ 31) : ¬ nI m = -10000 := by
  intro e
  have h1 := congrArg Int32.toInt e
  rw [nI_toInt h] at h1
  have h2 : (-10000 : Int32).toInt = -10000 := by decide
  omega
theorem nm_lt {m : Nat} (h : m < 2 ^ 31) : (-10000 : Int32) < nI m := by
  rw [fa_lt, nI_toInt h]
  have h2 : (-10000 : Int32).toInt = -10000 := by decide
  omega
/-- the class: a choir at cell k1 with its chains -/
def clIs (σ : Sg) (k1 N : Nat) (P : Nat → Int32) (d : Nat → Nat → Int32) : Prop := chIs σ k1 N P d ∧ ∀ i, i < N → lkAt σ k1 N P d i
theorem s_noteBehind (σ : Sg) (k1 k2 N k r : Nat) (P : Nat → Int32) (d : Nat → Nat → Int32) (hN : N ≤ 8) (hk : k < N) (hc : clIs σ k1 N P d) (K : Int32 → Prop) (h : K (og (NT P d N (σ k2 0) (σ k2 1) (σ k2 2) r k))) : w_X6_noteBehind (nI r) k1 k2 (nI k) σ K := by
  obtain ⟨hc, hl⟩ := hc
  obtain ⟨l1, l2, l3⟩ := hl k hk
  obtain ⟨c1, c2, c3, c4⟩ := hc.2 k hk
  unfold w_X6_noteBehind
  rw [nI_clamp (by omega), l1, l2, c3]
  refine ⟨vp_in_nI (by omega) (by omega), ?_⟩
  rintro _ rfl
  unfold NT at h
  cases hf : flk P d N k with
  | none =>
    rw [hf] at h
    exact it_p rfl h
  | some t =>
    obtain ⟨q, sm, st⟩ := t
    rw [hf] at h
    have hq := (fol_path hk hf).2.2.2.1
    refine it_n (nI_m1 (by omega)) ⟨vp_in_nI (by omega) (by omega), s_pitchAt _ _ _ _ ⟨vp_in_nI (by omega) (by omega), vp_in_nI (by omega) (by omega), ?_⟩⟩
    rw [show (srcv (some (q, sm, st))).toNatClampNeg = q from nI_clamp (by omega), (hc.2 q hq).1]
    exact h
theorem stpv_n {N k : Nat} {P : Nat → Int32} {d : Nat → Nat → Int32} (hN : N ≤ 8) (hk : k < N) : stpv (flk P d N k) = -1 ↔ flk P d N k = none := by
  constructor
  · intro h
    cases hf : flk P d N k with
    | none => rfl
    | some t =>
      obtain ⟨q, sm, st⟩ := t
      rw [hf] at h
      have := fol_short hk hf
      exact absurd h (nI_m1 (by omega))
  · intro h
    rw [h]
    rfl
theorem NT_n {P : Nat → Int32} {d : Nat → Nat → Int32} {N r k : Nat} {v e w : Int32} : NT P d N v e w r k = none ↔ flk P d N k = none := by
  unfold NT
  split
  · rename_i h
    exact ⟨fun _ => h, fun _ => rfl⟩
  · rename_i h
    constructor
    · intro z
      cases z
    · intro z
      rw [h] at z
      cases z
theorem s_noteIn (τ : Sg) (N B k b : Nat) (P : Nat → Int32) (d : Nat → Nat → Int32) (kd : Nat → Int32) (hN : N ≤ 8) (hB : B ≤ 24) (hk : k < N) (hb : b < B) (hf : fdIs τ N P d B kd) (x : Int32) (hx : NT P d N (τ 9 0) (τ 9 1) (τ 9 2) (rb kd b) k = some x) (K : Int32 → Prop) (h : K x) : w_X7_noteIn (nI k) (nI b) τ K := by
  obtain ⟨hm, hp, hn, hbs⟩ := hf
  obtain ⟨-, n2, n3⟩ := hn k hk
  have m2 := hm.2 k hk 2 (by omega)
  unfold NT at hx
  split at hx
  · cases hx
  · rename_i q sm st hfl
    cases hx
    have n3 := n3 q sm st hfl
    obtain ⟨Fv, hF⟩ : ∃ Fv, Fv = sm + wh (τ 9 0) (τ 9 1) (τ 9 2) (P q) + wsg P (d 1) q := ⟨_, rfl⟩
    rw [← hF] at n3
    have hx : wh (τ 9 0) (τ 9 1) (τ 9 2) (P q) + (sm + wsg P (d 1) q) - d 2 k * nI (rb kd b) = Fv - d 2 k * nI (rb kd b) := by rw [hF]; grind
    rw [hx] at h
    unfold w_X7_noteIn
    rw [nI_clamp (by omega), n3]
    refine ⟨vp_in_nI (by omega) (by omega), ?_⟩
    intro x3 ex3
    rw [ex3]
    have hz : Fv = Fv - d 2 k * nI 0 := by
      rw [show nI 0 = (0 : Int32) from rfl]
      grind
    refine up2 (fun j y i => i = nI j ∧ y = Fv - d 2 k * nI (rcn kd j)) b ?_ 0 _ _ (Nat.zero_le _) ⟨rfl, hz⟩
    rintro j rc _ _ hj ⟨rfl, rfl⟩ hrc
    unfold F_X7_noteIn_10 E_X7_noteIn_10
    simp (disch := omega) only [nI_clamp]
    rw [n3]
    by_cases hjb : b ≤ j
    · have ej : j = b := by omega
      subst ej
      refine it_p ((nI_leI (by omega) (by omega)).mpr (Nat.le_refl _)) ⟨vp_in_nI (by omega) (by omega), ?_⟩
      rw [hbs.2 j hb]
      unfold rb at h
      refine it_c (fun c => ⟨vp_in_nI (by omega) (by omega), ?_⟩) (fun c => ?_)
      · rw [if_pos c, ← hz] at h
        exact h
      · rw [if_neg c] at h
        exact h
    · refine it_n (fun z => hjb ((nI_leI (by omega) (by omega)).mp z)) ⟨vp_in_nI (by omega) (by omega), ?_⟩
      rw [hbs.2 j (by omega)]
      have key : J_X7_noteIn_37 (nI j) τ (nI k) rc (Fv - d 2 k * nI (rb kd j)) := by
        unfold J_X7_noteIn_37
        simp (disch := omega) only [Nat.reduceAdd, fa_lit, nI_leI, nI_ltI, nI_eq, nI_add, pk_mul, pk_sub, pk_div, nI_clamp, c_vin, c_em1, c_m1e, m2]
        rw [hbs.2 j (by omega)]
        refine ⟨by omega, it_c (fun c => ⟨by omega, ?_⟩) (fun c => ?_)⟩
        · rintro _ rfl
          refine hrc _ _ (by omega) ⟨rfl, ?_⟩
          rw [rcn_s, if_pos (show kd j = 1 from c), ← nI_add, show nI 1 = (1 : Int32) from rfl]
          grind
        · refine hrc _ _ (by omega) ⟨rfl, ?_⟩
          rw [rcn_s, if_neg (show ¬ kd j = 1 from c), Nat.add_zero, show nI 0 = (0 : Int32) from rfl]
          grind
      unfold rb at key
      refine it_c (fun c => ⟨vp_in_nI (by omega) (by omega), ?_⟩) (fun c => ?_)
      · rw [if_pos c, ← hz] at key
        exact key
      · rw [if_neg c] at key
        exact key
theorem s_noteOr (τ : Sg) (N B k b : Nat) (P : Nat → Int32) (d : Nat → Nat → Int32) (kd : Nat → Int32) (hN : N ≤ 8) (hB : B ≤ 24) (hk : k < N) (hb : b < B) (hf : fdIs τ N P d B kd) (K : Int32 → Prop) (h : K (og (NT P d N (τ 9 0) (τ 9 1) (τ 9 2) (rb kd b) k))) : w_X7_noteOr (nI k) (nI b) τ K := by
  unfold w_X7_noteOr
  rw [nI_clamp (by omega), (hf.2.2.1 k hk).2.1]
  refine ⟨vp_in_nI (by omega) (by omega), ?_⟩
  cases hx : NT P d N (τ 9 0) (τ 9 1) (τ 9 2) (rb kd b) k with
  | none =>
    rw [hx] at h
    exact it_p ((stpv_n hN hk).mpr (NT_n.mp hx)) h
  | some x =>
    rw [hx] at h
    refine it_n (fun z => ?_) (s_noteIn τ N B k b P d kd hN hB hk hb hf x hx _ h)
    rw [NT_n.mpr ((stpv_n hN hk).mp z)] at hx
    cases hx
