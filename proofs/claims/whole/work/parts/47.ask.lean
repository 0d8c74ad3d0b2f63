theorem mxr_s (x : Nat → Int32) (n : Nat) : mxr x (n + 1) = max (mxr x n) (ctP (fun i => x i = x n) (n + 1)) := rfl
theorem mxr_b {x : Nat → Int32} : ∀ n, mxr x n ≤ n
  | 0 => Nat.le_refl 0
  | n + 1 => by
    have := mxr_b (x := x) n
    have := ctP_le (p1 := fun i => x i = x n) (n + 1)
    rw [mxr_s]
    omega
theorem s_alikeC (σ ρ : Sg) (N B k1 m1 : Nat) (P : Nat → Int32) (d : Nat → Nat → Int32) (hN : N ≤ 8) (hk : k1 < N) (hm : m1 ≤ 100) (hc : clIs σ 5 N P d) (g0 : same [27, 42] σ ρ) (sv : Nat → Nat) (h42 : ∀ i, i < m1 → ρ 42 i = nI (sv i)) (x : Nat → Int32) (hx : ∀ i, i < m1 → x i = og (NT P d N (nI (sv i)) (σ 26 1) (σ 26 2) 0 k1)) (fl : ∀ n, n + 1 < m1 → ∀ i, i ≤ n → x i = x (n + 1) → x n = x (n + 1)) (K : Int32 → Sg → Prop) (h : ∀ σ', same [27] ρ σ' → K (nI (mxr x m1)) σ') : w_X6_mostAlike (nI k1) (nI m1) ρ K := by
  refine s_become ρ _ (fun σ1 u1 u2 => ?_)
  refine up5 (fun j y3 y4 y5 y6 ρ1 => y6 = nI j ∧ y3 = nI (mxr x j) ∧ (∀ n, j = n + 1 → y4 = nI (ctP (fun i => x i = x n) j) ∧ y5 = x n) ∧ same [27] ρ ρ1 ∧ ρ1 27 1 = σ 26 1 ∧ ρ1 27 2 = σ 26 2) m1 ?_ 0 _ _ _ _ _ (Nat.zero_le _) ⟨rfl, rfl, fun n z => by omega, u1, by rw [u2 1 (by omega), g0 26 (by decide)], by rw [u2 2 (by omega), g0 26 (by decide)]⟩
  rintro j rc _ y4 y5 _ ρ1 hj ⟨rfl, rfl, g1, g2, g3, g4⟩ hrc
  have bj := mxr_b (x := x) j
  unfold F_X6_mostAlike_22 E_X6_mostAlike_22
  by_cases c1 : m1 ≤ j
  · have ej : j = m1 := by omega
    subst ej
    exact it_p (nI_le c1 (by omega)) (h ρ1 g2)
  · refine it_n (fun z => c1 ((nI_leI (by omega) (by omega)).mp z)) ⟨vp_in_nI (by omega) (by omega), ?_⟩
    rw [nI_clamp (by omega), g2 42 (by decide), h42 j (by omega)]
    rintro _ rfl
    have g5 : same [27] ρ (pt ρ1 27 0 (nI (sv j))) := g2.pt (by decide)
    have e1 : pt ρ1 27 0 (nI (sv j)) 27 1 = σ 26 1 := by rw [pt_o _ _ (by decide)]; exact g3
    have e2 : pt ρ1 27 0 (nI (sv j)) 27 2 = σ 26 2 := by rw [pt_o _ _ (by decide)]; exact g4
    refine s_noteBehind _ 5 27 N k1 0 P d hN hk (cl_cg hc (fun q hq => by rw [g5 q (by simp; omega), g0 q (by simp; omega)])) _ ?_
    rw [pt_s, e1, e2, ← hx j (by omega)]
    unfold J_X6_mostAlike_76 J_X6_mostAlike_77
    rw [nI_1]
    have step : ∀ c2 : Nat, c2 = ctP (fun i => x i = x j) (j + 1) → ∀ m82, m82 = (if nI (mxr x j) < nI c2 then nI c2 else nI (mxr x j)) → rc m82 (nI c2) (x j) (nI (j + 1)) (pt ρ1 27 0 (nI (sv j))) := by
      rintro c2 e3 _ rfl
      have b2 := ctP_le (p1 := fun i => x i = x j) (j + 1)
      refine hrc _ _ _ _ _ (by omega) ⟨rfl, ?_, fun n z => ?_, g5, e1, e2⟩
      · rw [mxr_s, ← e3]
        by_cases c3 : mxr x j < c2
        · rw [if_pos (nI_lt c3 (by omega)), show max (mxr x j) c2 = c2 by omega]
        · rw [if_neg (fun z => c3 ((nI_ltI (by omega) (by omega)).mp z)), show max (mxr x j) c2 = mxr x j by omega]
      · have : n = j := by omega
        subst this
        exact ⟨by rw [e3], rfl⟩
    cases j with
    | zero => exact it_p (by decide) (step 1 (by rw [ctP_y (p1 := fun i => x i = x 0) rfl]; rfl))
    | succ n =>
      obtain ⟨q1, q2⟩ := g1 n rfl
      subst q1
      subst q2
      refine it_n (nI_nle (by omega) (by omega)) (it_c (fun c3 => ?_) (fun c3 => ?_))
      · rw [nI_1]
        exact step _ (run_k c3).symm
      · exact step 1 (run_n (fl n (by omega)) c3).symm
