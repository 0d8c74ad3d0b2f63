theorem mxt_s (x : Nat → Int32) (m1 n : Nat) : mxt x m1 (n + 1) = max (mxt x m1 n) (ctP (fun i => x i = x n) m1) := rfl
theorem mxt_b {x : Nat → Int32} {m1 : Nat} : ∀ n, mxt x m1 n ≤ m1
  | 0 => Nat.zero_le _
  | n + 1 => by
    have := mxt_b (x := x) (m1 := m1) n
    have := ctP_le (p1 := fun i => x i = x n) m1
    rw [mxt_s]
    omega
theorem s_alikeM (τ : Sg) (k1 m1 : Nat) (hk : k1 < 8) (hm : m1 ≤ 100) (x : Nat → Int32) (hx : ∀ i, i < m1 → τ 17 (100 * k1 + i) = x i) (K : Int32 → Prop) (h : K (nI (mxt x m1 m1))) : w_X7_mostAlike (nI (100 * k1)) (nI m1) τ K := by
  refine up2 (fun j y3 y4 => y4 = nI j ∧ y3 = nI (mxt x m1 j)) m1 ?_ 0 _ _ (Nat.zero_le _) ⟨rfl, rfl⟩
  rintro j rc _ _ hj ⟨rfl, rfl⟩ hrc
  have bj := mxt_b (x := x) (m1 := m1) j
  unfold F_X7_mostAlike_5 E_X7_mostAlike_5
  by_cases c1 : m1 ≤ j
  · have ej : j = m1 := by omega
    subst ej
    exact it_p (nI_le c1 (by omega)) h
  · refine it_n (fun z => c1 ((nI_leI (by omega) (by omega)).mp z)) ?_
    refine up2 (fun i y5 y6 => y6 = nI i ∧ y5 = nI (ctP (fun q => x q = x j) i)) m1 ?_ 0 _ _ (Nat.zero_le _) ⟨rfl, rfl⟩
    rintro i rc2 _ _ hi ⟨rfl, rfl⟩ hrc2
    have bi := ctP_le (p1 := fun q => x q = x j) i
    unfold F_X7_mostAlike_17 E_X7_mostAlike_17
    by_cases c2 : m1 ≤ i
    · have ei : i = m1 := by omega
      subst ei
      refine it_p (nI_le c2 (by omega)) ?_
      unfold w_X7_greater
      rw [nI_1]
      by_cases c3 : ctP (fun q => x q = x j) i ≤ mxt x i j
      · refine it_p (nI_le c3 (by omega)) (hrc _ _ (by omega) ⟨rfl, ?_⟩)
        rw [mxt_s, show max (mxt x i j) (ctP (fun q => x q = x j) i) = mxt x i j by omega]
      · refine it_n (fun z => c3 ((nI_leI (by omega) (by omega)).mp z)) (hrc _ _ (by omega) ⟨rfl, ?_⟩)
        rw [mxt_s, show max (mxt x i j) (ctP (fun q => x q = x j) i) = ctP (fun q => x q = x j) i by omega]
    · refine it_n (fun z => c2 ((nI_leI (by omega) (by omega)).mp z)) ?_
      rw [nI_add, nI_add, nI_clamp (by omega), nI_clamp (by omega), hx j (by omega), hx i (by omega), nI_1, nI_1]
      refine ⟨vp_in_nI (by omega) (by omega), vp_in_nI (by omega) (by omega), it_c (fun c3 => hrc2 _ _ (by omega) ⟨rfl, ?_⟩) (fun c3 => hrc2 _ _ (by omega) ⟨rfl, ?_⟩)⟩
      · rw [ctP_y (p1 := fun q => x q = x j) c3.symm]
      · rw [ctP_n (p1 := fun q => x q = x j) (fun z => c3 z.symm)]
        exact Int32.add_zero _
