theorem ctP_mono {p1 : Nat → Prop} {n : Nat} : ∀ {m1 : Nat}, n ≤ m1 → ctP p1 n ≤ ctP p1 m1
  | 0, h => by rw [show n = 0 by omega]; exact Nat.le_refl _
  | m1 + 1, h => by
    by_cases c1 : n = m1 + 1
    · rw [c1]; exact Nat.le_refl _
    · have := ctP_mono (p1 := p1) (n := n) (m1 := m1) (by omega)
      by_cases c2 : p1 m1
      · rw [ctP_y c2]
        omega
      · rw [ctP_n c2]
        exact this
/-- the longest so far: of those up to each place that are as it, and of all that are as it -/
noncomputable def mxr (x : Nat → Int32) : Nat → Nat
  | 0 => 0
  | n + 1 => max (mxr x n) (ctP (fun i => x i = x n) (n + 1))
noncomputable def mxt (x : Nat → Int32) (m1 : Nat) : Nat → Nat
  | 0 => 0
  | n + 1 => max (mxt x m1 n) (ctP (fun i => x i = x n) m1)
theorem mxr_ge {x : Nat → Int32} {v1 : Int32} : ∀ {n : Nat}, ctP (fun i => x i = v1) n ≤ mxr x n
  | 0 => Nat.le_refl 0
  | n + 1 => by
    have ih := mxr_ge (x := x) (v1 := v1) (n := n)
    show _ ≤ max (mxr x n) (ctP (fun i => x i = x n) (n + 1))
    by_cases c1 : x n = v1
    · subst c1
      exact Nat.le_max_right _ _
    · rw [ctP_n (p1 := fun i => x i = v1) c1]
      exact Nat.le_trans ih (Nat.le_max_left _ _)
theorem mxr_le {x : Nat → Int32} {m1 : Nat} : ∀ {n : Nat}, n ≤ m1 → mxr x n ≤ mxt x m1 n
  | 0, _ => Nat.le_refl 0
  | n + 1, h => by
    have ih := mxr_le (x := x) (m1 := m1) (n := n) (by omega)
    show max (mxr x n) (ctP (fun i => x i = x n) (n + 1)) ≤ max (mxt x m1 n) (ctP (fun i => x i = x n) m1)
    have := ctP_mono (p1 := fun i => x i = x n) h
    omega
theorem mxt_le {x : Nat → Int32} {m1 : Nat} : ∀ {n : Nat}, mxt x m1 n ≤ mxr x m1
  | 0 => Nat.zero_le _
  | n + 1 => by
    have ih := mxt_le (x := x) (m1 := m1) (n := n)
    show max (mxt x m1 n) (ctP (fun i => x i = x n) m1) ≤ mxr x m1
    have := mxr_ge (x := x) (v1 := x n) (n := m1)
    omega
theorem mx_eq (x : Nat → Int32) (m1 : Nat) : mxr x m1 = mxt x m1 m1 := Nat.le_antisymm (mxr_le (Nat.le_refl _)) mxt_le
/-- where equal ones stand together, a run's length is how many so far are as its last -/
theorem run_k {x : Nat → Int32} {n : Nat} (h : x (n + 1) = x n) : ctP (fun i => x i = x (n + 1)) (n + 2) = ctP (fun i => x i = x n) (n + 1) + 1 := by
  rw [ctP_y (p1 := fun i => x i = x (n + 1)) rfl, h]
theorem run_n {x : Nat → Int32} {n : Nat} (hm : ∀ i, i ≤ n → x i = x (n + 1) → x n = x (n + 1)) (h : ¬ x (n + 1) = x n) : ctP (fun i => x i = x (n + 1)) (n + 2) = 1 := by
  rw [ctP_y (p1 := fun i => x i = x (n + 1)) rfl]
  have : ∀ j, j ≤ n + 1 → ctP (fun i => x i = x (n + 1)) j = 0 := by
    intro j
    induction j with
    | zero => exact fun _ => rfl
    | succ j ih =>
      intro hj
      rw [ctP_n (p1 := fun i => x i = x (n + 1)) (fun z => h (hm j (by omega) z).symm)]
      exact ih (by omega)
  rw [this (n + 1) (Nat.le_refl _)]
/-- the whistle rises, stays or falls with the speed, throughout -/
theorem wh_flat {a1 b1 c1 q1 : Nat} (hq : q1 ≤ 18) (h1 : a1 ≤ b1) (h2 : b1 ≤ c1) (hc : c1 < 100) (e : 1000 + a1 - a1 * q1 / 4 = 1000 + c1 - c1 * q1 / 4) : 1000 + b1 - b1 * q1 / 4 = 1000 + a1 - a1 * q1 / 4 := by
  rcases (show q1 = 0 ∨ q1 = 1 ∨ q1 = 2 ∨ q1 = 3 ∨ q1 = 4 ∨ q1 = 5 ∨ q1 = 6 ∨ q1 = 7 ∨ q1 = 8 ∨ q1 = 9 ∨ q1 = 10 ∨ q1 = 11 ∨ q1 = 12 ∨ q1 = 13 ∨ q1 = 14 ∨ q1 = 15 ∨ q1 = 16 ∨ q1 = 17 ∨ q1 = 18 by omega) with rfl | rfl | rfl | rfl | rfl | rfl | rfl | rfl | rfl | rfl | rfl | rfl | rfl | rfl | rfl | rfl | rfl | rfl | rfl <;> omega
