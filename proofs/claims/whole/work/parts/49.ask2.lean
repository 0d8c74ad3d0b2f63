noncomputable def svn (fs : Nat → Prop) (i : Nat) : Nat := (sel fs i 100).getD 0
theorem svn_ok {fs : Nat → Prop} {i : Nat} (h : i < ctP fs 100) : svn fs i < 100 ∧ fs (svn fs i) ∧ ctP fs (svn fs i) = i := by
  obtain ⟨v1, w1, w2, w3, w4⟩ := sel_some h
  unfold svn
  rw [w2]
  exact ⟨w1, w3, w4⟩
theorem svn_lt {fs : Nat → Prop} {i j : Nat} (hi : i < j) (hj : j < ctP fs 100) : svn fs i < svn fs j := by
  obtain ⟨a1, a2, a3⟩ := svn_ok (fs := fs) (i := i) (by omega)
  obtain ⟨b1, b2, b3⟩ := svn_ok hj
  rcases Nat.lt_or_ge (svn fs i) (svn fs j) with z | z
  · exact z
  · have := ctP_mono (p1 := fs) z
    omega
theorem svn_at {fs : Nat → Prop} {v1 : Nat} (hv : v1 < 100) (h : fs v1) : svn fs (ctP fs v1) = v1 := by
  have hi := ctP_lt h hv
  obtain ⟨b1, b2, b3⟩ := svn_ok hi
  rcases Nat.lt_trichotomy (svn fs (ctP fs v1)) v1 with z | z | z
  · have := ctP_lt b2 z
    omega
  · exact z
  · have := ctP_lt h z
    omega
theorem ask_flat {σ : Sg} {P : Nat → Int32} {d : Nat → Nat → Int32} {N k1 : Nat} {fs : Nat → Prop} (hp : okP N P) (hT : okT (σ 26 0) (σ 26 1) (σ 26 2)) (hk : k1 < N) : ∀ n, n + 1 < ctP fs 100 → ∀ i, i ≤ n → og (NT P d N (nI (svn fs i)) (σ 26 1) (σ 26 2) 0 k1) = og (NT P d N (nI (svn fs (n + 1))) (σ 26 1) (σ 26 2) 0 k1) → og (NT P d N (nI (svn fs n)) (σ 26 1) (σ 26 2) 0 k1) = og (NT P d N (nI (svn fs (n + 1))) (σ 26 1) (σ 26 2) 0 k1) := by
  intro n hn i hi h
  have e1 : svn fs i ≤ svn fs n := by
    by_cases c1 : i = n
    · rw [c1]; exact Nat.le_refl _
    · have := svn_lt (fs := fs) (i := i) (j := n) (by omega) (by omega)
      omega
  have e2 := svn_lt (fs := fs) (i := n) (j := n + 1) (by omega) hn
  rw [NT_flat hp hT hk e1 (by omega) (svn_ok hn).1 h]
  exact h
