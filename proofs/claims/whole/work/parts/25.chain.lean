/-- the chain's nodes -/
theorem fol_path {P E Hr : Nat → Int32} {N : Nat} : ∀ {n q0 : Nat} {s0 : Int32} {i : Nat} {q : Nat} {sm : Int32} {st : Nat}, q0 < N → fol P E Hr N n (some q0) s0 i = some (q, sm, st) → i ≤ st ∧ st < i + n ∧ Hr q = 1 ∧ q < N ∧ ∃ f : Nat → Nat, f 0 = q0 ∧ f (st - i) = q ∧ ∀ j, j < st - i → f j < N ∧ Hr (f j) ≠ 1 ∧ nr P (f j) N = some (f (j + 1))
  | 0, q0, s0, i, q, sm, st, hq, h => by cases h
  | n + 1, q0, s0, i, q, sm, st, hq, h => by
    unfold fol at h
    split at h
    · rename_i hh
      cases h
      exact ⟨Nat.le_refl _, by omega, hh, hq, fun _ => q0, rfl, rfl, fun j hj => by omega⟩
    · rename_i hh
      cases hb : nr P q0 N with
      | none => rw [hb, fol_none] at h; cases h
      | some q1 =>
        rw [hb] at h
        obtain ⟨h1, h2, h3, h4, f, f0, f1, f2⟩ := fol_path (nr_lt hb) h
        refine ⟨by omega, by omega, h3, h4, fun j => if j = 0 then q0 else f (j - 1), if_pos rfl, ?_, fun j hj => ?_⟩
        · show (if st - i = 0 then q0 else f (st - i - 1)) = q
          rw [if_neg (by omega), show st - i - 1 = st - (i + 1) by omega]
          exact f1
        · by_cases e : j = 0
          · subst e
            refine ⟨hq, hh, ?_⟩
            show nr P q0 N = some (f 0)
            rw [f0, hb]
          · obtain ⟨g1, g2, g3⟩ := f2 (j - 1) (by omega)
            show (if j = 0 then q0 else f (j - 1)) < N ∧ Hr (if j = 0 then q0 else f (j - 1)) ≠ 1 ∧ nr P (if j = 0 then q0 else f (j - 1)) N = some (f (j + 1 - 1))
            rw [if_neg e]
            refine ⟨g1, g2, ?_⟩
            rw [g3]
            congr 2
            omega
theorem fol_more {P E Hr : Nat → Int32} {N : Nat} : ∀ {n : Nat} {o : Option Nat} {s0 : Int32} {i : Nat} {q : Nat} {sm : Int32} {st : Nat} (m : Nat), fol P E Hr N n o s0 i = some (q, sm, st) → st < i + m → fol P E Hr N m o s0 i = some (q, sm, st)
  | 0, o, s0, i, q, sm, st, m, h, _ => by cases h
  | n + 1, none, s0, i, q, sm, st, m, h, _ => by rw [fol_none] at h; cases h
  | n + 1, some q0, s0, i, q, sm, st, m, h, hm => by
    unfold fol at h
    split at h
    · rename_i hh
      cases h
      obtain ⟨m, rfl⟩ : ∃ k, m = k + 1 := ⟨m - 1, by omega⟩
      unfold fol
      rw [if_pos hh]
    · rename_i hh
      have key : i + 1 ≤ st := by
        cases hb : nr P q0 N with
        | none => rw [hb, fol_none] at h; cases h
        | some q1 => rw [hb] at h; exact (fol_path (nr_lt hb) h).1
      obtain ⟨m, rfl⟩ : ∃ k, m = k + 1 := ⟨m - 1, by omega⟩
      unfold fol
      rw [if_neg hh]
      exact fol_more m h (by omega)
theorem fol_short {P E Hr : Nat → Int32} {N n k : Nat} {q : Nat} {sm : Int32} {st : Nat} (hk : k < N) (h : fol P E Hr N n (some k) 0 0 = some (q, sm, st)) : st < N := by
  obtain ⟨-, -, h3, h4, f, f0, f1, f2⟩ := fol_path hk h
  rw [Nat.sub_zero] at f1 f2
  have sh : ∀ a b t, a < b → b + t ≤ st → f a = f b → f (a + t) = f (b + t) := by
    intro a b t hab
    induction t with
    | zero => intro _ e; exact e
    | succ t ih =>
      intro hb e
      have e1 := ih (by omega) e
      have g1 := (f2 (a + t) (by omega)).2.2
      have g2 := (f2 (b + t) (by omega)).2.2
      rw [e1, g2] at g1
      exact (Option.some.inj g1).symm
  have := fb_holes N (st + 1) f (fun i hi => by
    by_cases e : i = st
    · subst e; rw [f1]; exact h4
    · exact (f2 i (by omega)).1) (fun a b hab hb e => by
    have e1 := sh a b (st - b) hab (by omega) e
    rw [show b + (st - b) = st by omega, f1] at e1
    have g := (f2 (a + (st - b)) (by omega)).2.1
    rw [e1] at g
    exact g h3)
  omega
theorem fol_stab {P E Hr : Nat → Int32} {N k : Nat} (hN : N ≤ 8) (hk : k < N) : fol P E Hr N (N + 1) (some k) 0 0 = fol P E Hr N 9 (some k) 0 0 := by
  cases h : fol P E Hr N 9 (some k) 0 0 with
  | some r =>
    obtain ⟨q, sm, st⟩ := r
    exact fol_more (N + 1) h (by have := fol_short hk h; omega)
  | none =>
    cases h2 : fol P E Hr N (N + 1) (some k) 0 0 with
    | none => rfl
    | some r =>
      obtain ⟨q, sm, st⟩ := r
      have := fol_more 9 h2 (by have := fol_short hk h2; omega)
      rw [h] at this
      cases this
/-- how far off the note is where it is heard -/
def wsg (P E : Nat → Int32) (q : Nat) : Int32 := if P q - P q / 2 * 2 = 0 then E q else -E q
abbrev FR : Type := Option (Nat × Int32 × Nat)
def srcv (r : FR) : Int32 := match r with
  | none => -1
  | some (q, _, _) => nI q
def stpv (r : FR) : Int32 := match r with
  | none => -1
  | some (_, _, st) => nI st
def errv (P E : Nat → Int32) (r : FR) : Int32 := match r with
  | none => 0
  | some (q, sm, _) => sm + wsg P E q
abbrev flk (P : Nat → Int32) (d : Nat → Nat → Int32) (N k : Nat) : FR := fol P (d 1) (d 3) N 9 (some k) 0 0
/-- a choir as the class holds it at cell k0 -/
def chIs (σ : Sg) (k0 N : Nat) (P : Nat → Int32) (d : Nat → Nat → Int32) : Prop := σ k0 0 = nI N ∧ ∀ i, i < N → σ (k0 + 1) i = P i ∧ σ (k0 + 2) i = d 1 i ∧ σ (k0 + 3) i = d 2 i ∧ σ (k0 + 4) i = d 3 i
def nbIs (σ : Sg) (k0 N : Nat) (P : Nat → Int32) : Prop := ∀ i, i < N → σ (k0 + 7) i = enc (nr P i N)
def lkAt (σ : Sg) (k0 N : Nat) (P : Nat → Int32) (d : Nat → Nat → Int32) (i : Nat) : Prop := σ (k0 + 5) i = srcv (flk P d N i) ∧ σ (k0 + 6) i = errv P (d 1) (flk P d N i) ∧ σ (k0 + 8) i = stpv (flk P d N i)
def fin3 (σ : Sg) (k0 k : Nat) (a b c : Int32) : Sg := pt (pt (pt σ (k0 + 5) k a) (k0 + 8) k b) (k0 + 6) k c
theorem s_follow (σ : Sg) (k0 N k : Nat) (P : Nat → Int32) (d : Nat → Nat → Int32) (hN : N ≤ 8) (hk : k < N) (hc : chIs σ k0 N P d) (hb : nbIs σ k0 N P) (hh : ∀ i, i < N → d 3 i = 0 ∨ d 3 i = 1) (K : Sg → Prop) (h : K (fin3 σ k0 k (srcv (flk P d N k)) (stpv (flk P d N k)) (errv P (d 1) (flk P d N k)))) : w_X0_follow k0 (nI k) σ K := by
  rw [flk, ← fol_stab hN hk] at h
  unfold w_X0_follow
  have sil : fol P (d 1) (d 3) N (N + 1) (some k) 0 0 = none → J_X0_follow_69 (nI k) σ k0 K := by
    intro e
    rw [e] at h
    unfold J_X0_follow_69
    simp (disch := omega) only [Nat.reduceAdd, fa_lit, nI_leI, nI_ltI, nI_eq, nI_add, pk_mul, pk_sub, pk_div, nI_clamp, c_vin, c_em1, c_m1e]
    refine ⟨by omega, ?_⟩
    rintro _ rfl
    refine ⟨by omega, ?_⟩
    rintro _ rfl
    refine ⟨by omega, ?_⟩
    rintro _ rfl
    exact h
  have ext : ∀ (o : Option Nat) (sm : Int32) (st : Nat), st ≤ N → (∀ q, o = some q → q < N) → (st = N ∨ o = none ∨ ∃ q, o = some q ∧ d 3 q = 1) → fol P (d 1) (d 3) N (N + 1 - st) o sm st = fol P (d 1) (d 3) N (N + 1) (some k) 0 0 → E_X0_follow_7 (nI k) σ k0 K (enc o) (nI st) sm := by
    intro o sm st hst ho hx hf
    unfold E_X0_follow_7
    cases o with
    | none =>
      rw [fol_none] at hf
      exact it_p rfl (sil hf.symm)
    | some q =>
      have hq := ho q rfl
      obtain ⟨c1, c2, c3, c4⟩ := hc.2 q hq
      rw [enc_some]
      refine it_n (nI_m1 (by omega)) ?_
      simp (disch := omega) only [Nat.reduceAdd, fa_lit, nI_leI, nI_ltI, nI_eq, nI_add, pk_mul, pk_sub, pk_div, nI_clamp, c_vin, c_em1, c_m1e, c4]
      refine ⟨by omega, ?_⟩
      rcases hh q hq with e | e
      · refine it_p e ?_
        rcases hx with hx | hx | ⟨q', hx, hx2⟩
        · subst hx
          rw [show st + 1 - st = 1 by omega] at hf
          unfold fol at hf
          rw [if_neg (by rw [e]; decide)] at hf
          exact sil hf.symm
        · cases hx
        · cases hx
          rw [e] at hx2
          exact absurd hx2 (by decide)
      · refine it_n (by rw [e]; decide) ⟨by omega, ?_⟩
        rintro _ rfl
        refine ⟨by omega, ?_⟩
        rintro _ rfl
        rw [pt_ne _ _ _ (by omega), pt_ne _ _ _ (by omega), pt_ne _ _ _ (by omega), pt_ne _ _ _ (by omega), c1, c2]
        have hf2 : some (q, sm, st) = fol P (d 1) (d 3) N (N + 1) (some k) 0 0 := by
          rw [← hf, show N + 1 - st = (N - st) + 1 by omega]
          unfold fol
          rw [if_pos e]
        rw [← hf2] at h
        unfold errv wsg at h
        dsimp only at h
        refine ⟨by omega, it_c (fun cc => ⟨by omega, by omega, ?_⟩) (fun cc => ⟨by omega, by omega, ?_⟩)⟩
        · rintro _ rfl
          rw [if_pos (show P q - P q / 2 * 2 = 0 from cc)] at h
          exact h
        · rintro _ rfl
          rw [if_neg (show ¬ P q - P q / 2 * 2 = 0 from cc)] at h
          exact h
  refine up3 (fun st a b sm => ∃ o : Option Nat, a = enc o ∧ b = nI st ∧ (∀ q, o = some q → q < N) ∧ fol P (d 1) (d 3) N (N + 1 - st) o sm st = fol P (d 1) (d 3) N (N + 1) (some k) 0 0) N ?_ 0 _ _ _ (Nat.zero_le _) ⟨some k, rfl, rfl, fun q e => by cases e; exact hk, rfl⟩
  rintro st rc _ _ sm hst ⟨o, rfl, rfl, ho, hf⟩ hrc
  unfold F_X0_follow_7
  rw [hc.1]
  by_cases hs : N ≤ st
  · refine it_p ((nI_leI (by omega) (by omega)).mpr hs) (ext o sm st hst ho (Or.inl (by omega)) hf)
  · refine it_n (fun z => hs ((nI_leI (by omega) (by omega)).mp z)) ?_
    cases o with
    | none => exact it_p rfl (ext none sm st hst ho (Or.inr (Or.inl rfl)) hf)
    | some q =>
      have hq := ho q rfl
      obtain ⟨c1, c2, c3, c4⟩ := hc.2 q hq
      have ee := ext (some q) sm st hst ho
      rw [enc_some] at ee ⊢
      refine it_n (nI_m1 (by omega)) ?_
      simp (disch := omega) only [Nat.reduceAdd, fa_lit, nI_leI, nI_ltI, nI_eq, nI_add, pk_mul, pk_sub, pk_div, nI_clamp, c_vin, c_em1, c_m1e, c4, c2]
      refine ⟨by omega, ?_⟩
      rcases hh q hq with e | e
      · refine it_p e ⟨by omega, ?_⟩
        rintro _ rfl
        refine ⟨by omega, ?_⟩
        rintro _ rfl
        rw [hb q hq]
        refine hrc _ _ _ (by omega) ⟨nr P q N, rfl, rfl, fun q' e' => nr_lt e', ?_⟩
        rw [← hf, show N + 1 - st = (N + 1 - (st + 1)) + 1 by omega]
        conv => rhs; unfold fol
        rw [if_neg (by rw [e]; decide)]
        rfl
      · exact it_n (by rw [e]; decide) (ee (Or.inr (Or.inr ⟨q, rfl, e⟩)) hf)
