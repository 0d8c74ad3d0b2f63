def ab (x : Int32) : Int32 := if x < 0 then -x else x
/-- whose place is nearest to k's, among the first j -/
def nr (P : Nat → Int32) (k : Nat) : Nat → Option Nat
  | 0 => none
  | j + 1 => if j = k then nr P k j else match nr P k j with
    | none => some j
    | some b => if ab (P j - P k) < ab (P b - P k) then some j else some b
theorem nr_lt {P : Nat → Int32} {k : Nat} : ∀ {j b : Nat}, nr P k j = some b → b < j
  | 0, b, h => by cases h
  | j + 1, b, h => by
    unfold nr at h
    split at h
    · have := nr_lt h; omega
    · split at h
      · cases h; omega
      · rename_i c hc
        have := nr_lt hc
        split at h <;> cases h <;> omega
/-- by the chain of ears: who hears at its end, what was lost on the way, how many steps -/
def fol (P E Hr : Nat → Int32) (N : Nat) : Nat → Option Nat → Int32 → Nat → Option (Nat × Int32 × Nat)
  | 0, _, _, _ => none
  | _ + 1, none, _, _ => none
  | n + 1, some q, sm, st => if Hr q = 1 then some (q, sm, st) else fol P E Hr N n (nr P q N) (sm + E q / 2) (st + 1)
theorem fol_none {P E Hr : Nat → Int32} {N n : Nat} {sm : Int32} {st : Nat} : fol P E Hr N n none sm st = none := by cases n <;> rfl
theorem ab_abs {x : Int32} : (if 0 ≤ x then x else 0 - x) = ab x := by
  unfold ab
  have h0 : (0 : Int32).toInt = 0 := by decide
  by_cases h : x < 0
  · have h1 : ¬ (0 ≤ x) := by
      rw [fa_lt] at h; rw [fa_le]; omega
    rw [if_pos h, if_neg h1]
    exact Int32.zero_sub x
  · have h1 : 0 ≤ x := fa_of_nlt h
    rw [if_neg h, if_pos h1]
theorem ab_abs' {x : Int32} : (if nI 0 ≤ x then x else nI 0 - x) = ab x := ab_abs
/-- small numbers -/
def dig (x : Int32) : Prop := ∃ n : Nat, n < 10 ∧ x = nI n
theorem ab_dig {x y : Int32} (hx : dig x) (hy : dig y) : ∃ n : Nat, n < 10 ∧ ab (x - y) = nI n := by
  obtain ⟨a, ha, rfl⟩ := hx
  obtain ⟨b, hb, rfl⟩ := hy
  have key : ∀ a : Fin 10, ∀ b : Fin 10, ∃ n : Fin 10, ab (nI a.val - nI b.val) = nI n.val := by decide
  obtain ⟨n, hn⟩ := key ⟨a, ha⟩ ⟨b, hb⟩
  exact ⟨n.val, n.isLt, hn⟩
def lstv (P : Nat → Int32) (k : Nat) (o : Option Nat) : Int32 := match o with
  | none => 10
  | some b => ab (P b - P k)
theorem s_near (σ : Sg) (k0 N k : Nat) (P : Nat → Int32) (hN : N ≤ 8) (hk : k < N) (hs : σ k0 0 = nI N) (hp : ∀ i, i < N → σ (k0 + 1) i = P i) (hd : ∀ i, i < N → dig (P i)) (K : Int32 → Prop) (h : K (enc (nr P k N))) : w_X0_nearestTo k0 (nI k) σ K := by
  unfold w_X0_nearestTo
  refine up3 (fun j a b c => a = enc (nr P k j) ∧ b = lstv P k (nr P k j) ∧ c = nI j) N ?_ 0 _ _ _ (Nat.zero_le _) ⟨rfl, rfl, rfl⟩
  rintro j rc _ _ _ hj ⟨rfl, rfl, rfl⟩ hrc
  unfold F_X0_nearestTo_8 E_X0_nearestTo_8
  simp (disch := omega) only [Nat.reduceAdd, fa_lit, nI_leI, nI_ltI, nI_eq, nI_add, pk_mul, pk_sub, pk_div, nI_clamp, c_vin, c_em1, c_m1e, hs]
  by_cases hjN : N ≤ j
  · have e : j = N := by omega
    subst e
    rw [if_pos hjN]
    exact h
  · rw [if_neg hjN]
    have hj2 : j < N := by omega
    refine ⟨by omega, by omega, ?_⟩
    rintro m rfl
    rw [hp j hj2, hp k hk, ab_abs']
    have nx := hrc (enc (nr P k (j + 1))) (lstv P k (nr P k (j + 1))) (nI (j + 1)) hj2 ⟨rfl, rfl, rfl⟩
    unfold nr at nx
    by_cases hjk : j = k
    · rw [if_pos hjk] at nx ⊢
      exact nx
    · rw [if_neg hjk] at nx ⊢
      cases hb : nr P k j with
      | none =>
        rw [hb] at nx
        dsimp only at nx
        obtain ⟨n, hn, en⟩ := ab_dig (hd j hj2) (hd k hk)
        rw [if_neg]
        · exact nx
        · show ¬ (10 : Int32) ≤ _
          rw [en]
          simp (disch := omega) only [Nat.reduceAdd, fa_lit, nI_leI, nI_ltI, nI_eq, nI_add, pk_mul, pk_sub, pk_div, nI_clamp, c_vin, c_em1, c_m1e]
          omega
      | some b =>
        rw [hb] at nx
        dsimp only at nx
        by_cases hl : ab (P j - P k) < ab (P b - P k)
        · rw [if_pos hl] at nx
          exact it_n (i_nle hl) nx
        · rw [if_neg hl] at nx
          exact it_p (fa_of_nlt hl) nx

theorem s_amount (x : Int32) (K : Int32 → Prop) (h : K (ab x)) : w_X7_amount x K := by
  unfold w_X7_amount
  unfold ab at h
  refine it_c (fun c => ?_) (fun c => ?_)
  · rw [if_neg (i_nlt c)] at h
    exact h
  · rw [if_pos (fa_of_nle c)] at h
    exact h
theorem s_nearest (τ : Sg) (N k : Nat) (P : Nat → Int32) (hN : N ≤ 8) (hk : k < N) (hs : τ 0 7 = nI N) (hp : ∀ i, i < N → τ 10 i = P i) (K : Int32 → Prop) (h : K (enc (nr P k N))) : w_X7_nearest (nI k) τ K := by
  unfold w_X7_nearest
  refine up2 (fun j a c => a = enc (nr P k j) ∧ c = nI j) N ?_ 0 _ _ (Nat.zero_le _) ⟨rfl, rfl⟩
  rintro j rc _ _ hj ⟨rfl, rfl⟩ hrc
  unfold F_X7_nearest_4 E_X7_nearest_4 J_X7_nearest_61 J_X7_nearest_57
  simp (disch := omega) only [Nat.reduceAdd, fa_lit, nI_leI, nI_ltI, nI_eq, nI_add, pk_mul, pk_sub, pk_div, nI_clamp, c_vin, c_em1, c_m1e, hs]
  by_cases hjN : N ≤ j
  · have e : j = N := by omega
    subst e
    exact it_p hjN h
  · refine it_n hjN ?_
    have hj2 : j < N := by omega
    have nx := hrc (enc (nr P k (j + 1))) (nI (j + 1)) hj2 ⟨rfl, rfl⟩
    unfold nr at nx
    by_cases hjk : j = k
    · rw [if_pos hjk] at nx
      refine it_p hjk ?_
      unfold J_X7_nearest_62
      simp (disch := omega) only [Nat.reduceAdd, fa_lit, nI_leI, nI_ltI, nI_eq, nI_add, pk_mul, pk_sub, pk_div, nI_clamp, c_vin, c_em1, c_m1e]
      exact it_p trivial nx
    · rw [if_neg hjk] at nx
      refine it_n hjk ?_
      cases hb : nr P k j with
      | none =>
        rw [hb] at nx
        refine it_p rfl ?_
        unfold J_X7_nearest_62
        simp (disch := omega) only [Nat.reduceAdd, fa_lit, nI_leI, nI_ltI, nI_eq, nI_add, pk_mul, pk_sub, pk_div, nI_clamp, c_vin, c_em1, c_m1e]
        exact it_n (by omega) nx
      | some q =>
        rw [hb] at nx
        dsimp only at nx
        have hq := nr_lt hb
        refine it_n (nI_m1 (by omega)) ⟨by omega, by omega, s_amount _ _ ⟨?_, by omega, s_amount _ _ ?_⟩⟩
        · rw [enc_some]
          simp (disch := omega) only [Nat.reduceAdd, fa_lit, nI_leI, nI_ltI, nI_eq, nI_add, pk_mul, pk_sub, pk_div, nI_clamp, c_vin, c_em1, c_m1e]
          omega
        · rw [enc_some]
          simp (disch := omega) only [Nat.reduceAdd, fa_lit, nI_leI, nI_ltI, nI_eq, nI_add, pk_mul, pk_sub, pk_div, nI_clamp, c_vin, c_em1, c_m1e]
          rw [hp j hj2, hp k hk, hp q (by omega)]
          unfold J_X7_nearest_62
          simp (disch := omega) only [Nat.reduceAdd, fa_lit, nI_leI, nI_ltI, nI_eq, nI_add, pk_mul, pk_sub, pk_div, nI_clamp, c_vin, c_em1, c_m1e]
          by_cases hl : ab (P j - P k) < ab (P q - P k)
          · rw [if_pos hl] at nx
            refine it_n (i_nle hl) (it_n (by omega) nx)
          · rw [if_neg hl] at nx
            exact it_p (fa_of_nlt hl) (it_p trivial nx)
