theorem mnI_lt {f : Nat → Int32} : ∀ {n : Nat}, 0 < n → mnI f n < n
  | 0, h => by omega
  | n + 1, _ => by
    by_cases c1 : n = 0
    · subst c1
      rw [mnI_0]
      omega
    · have := mnI_lt (f := f) (n := n) (by omega)
      by_cases c2 : f (mnI f n) ≤ f n
      · rw [mnI_k c1 c2]
        omega
      · rw [mnI_n (Or.inr c2)]
        omega
def askv (f : Nat → Int32) (N : Nat) : Int32 := if N = 0 then -1 else nI (mnI f N)
theorem s_askC (σ σ1 : Sg) (N : Nat) (P : Nat → Int32) (d : Nat → Nat → Int32) (hN : N ≤ 8) (hP : okP N P) (hT : okT (σ 26 0) (σ 26 1) (σ 26 2)) (hc : clIs σ 5 N P d) (fs : Nat → Prop) (g0 : same [27, 42] σ σ1) (h42 : ∀ i, i < ctP fs 100 → σ1 42 i = nI (svn fs i)) (x : Nat → Nat → Int32) (hx : ∀ k1 i, x k1 i = og (NT P d N (nI (svn fs i)) (σ 26 1) (σ 26 2) 0 k1)) (K : Int32 → Sg → Prop) (h : ∀ σ', same [27, 42] σ σ' → K (askv (fun k1 => nI (mxr (x k1) (ctP fs 100))) N) σ') : ∃ n12, lq4 (F_X6_ask_12 (nI (ctP fs 100)) (E_X6_ask_12 K)) n12 (-1 : Int32) (0 : Int32) (0 : Int32) σ1 := by
  have c100 := ctP_le (p1 := fs) 100
  obtain ⟨f1, hf1⟩ : ∃ f1 : Nat → Int32, f1 = fun k1 => nI (mxr (x k1) (ctP fs 100)) := ⟨_, rfl⟩
  rw [← hf1] at h
  refine up4 (fun j y2 y3 y4 ρ => y4 = nI j ∧ same [27, 42] σ ρ ∧ (∀ i, i < ctP fs 100 → ρ 42 i = nI (svn fs i)) ∧ (j = 0 → y2 = -1) ∧ (0 < j → y2 = nI (mnI f1 j) ∧ y3 = f1 (mnI f1 j))) N ?_ 0 _ _ _ _ (Nat.zero_le _) ⟨rfl, g0, h42, fun _ => rfl, fun z => by omega⟩
  rintro j rc y2 y3 _ ρ hj ⟨rfl, g1, g2, g3, g4⟩ hrc
  unfold F_X6_ask_12 E_X6_ask_12
  rw [g1 5 (by decide), hc.1.1]
  by_cases c1 : N ≤ j
  · have ej : j = N := by omega
    subst ej
    refine it_p (nI_le c1 (by omega)) ?_
    have := h ρ g1
    unfold askv at this
    by_cases c2 : j = 0
    · rw [if_pos c2] at this
      rw [g3 c2]
      exact this
    · rw [if_neg c2] at this
      rw [(g4 (by omega)).1]
      exact this
  · refine it_n (fun z => c1 ((nI_leI (by omega) (by omega)).mp z)) ?_
    refine s_alikeC σ ρ N 0 j (ctP fs 100) P d hN (by omega) c100 hc g1 (svn fs) g2 (x j) (fun i _ => hx j i) (fun n hn i hi z => ?_) _ (fun ρ1 k1 => ?_)
    · rw [hx j i, hx j (n + 1)] at z
      rw [hx j n, hx j (n + 1)]
      exact ask_flat hP hT (by omega) n hn i hi z
    · have m1 : same [27, 42] σ ρ1 := g1.tr (k1.mono (by decide))
      have m2 : ∀ i, i < ctP fs 100 → ρ1 42 i = nI (svn fs i) := fun i hi => by rw [k1 42 (by decide)]; exact g2 i hi
      have fj : nI (mxr (x j) (ctP fs 100)) = f1 j := by rw [hf1]
      unfold J_X6_ask_44
      rw [nI_1, fj]
      have new : (j = 0 ∨ ¬ f1 (mnI f1 j) ≤ f1 j) → rc (nI j) (f1 j) (nI (j + 1)) ρ1 := fun z =>
        hrc _ _ _ _ (by omega) ⟨rfl, m1, m2, fun y => by omega, fun _ => by rw [mnI_n z]; exact ⟨rfl, rfl⟩⟩
      by_cases c2 : j = 0
      · exact it_p (g3 c2) (new (Or.inl c2))
      · obtain ⟨q1, q2⟩ := g4 (by omega)
        have := mnI_lt (f := f1) (n := j) (by omega)
        subst q1
        subst q2
        refine it_n (nI_m1 (by omega)) (it_c (fun c3 => hrc _ _ _ _ (by omega) ⟨rfl, m1, m2, fun y => by omega, fun _ => ?_⟩) (fun c3 => new (Or.inr c3)))
        rw [mnI_k c2 c3]
        exact ⟨rfl, rfl⟩
