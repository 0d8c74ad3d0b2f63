/-- the notes of those that are not hushed -/
def mkf (f1 : Nat → Option Int32) (s k : Nat) : Option Int32 := if s.testBit k = true then none else f1 k
theorem mkf_s {f1 : Nat → Option Int32} {s k : Nat} {x : Int32} (h : mkf f1 s k = some x) : s.testBit k = false ∧ f1 k = some x := by
  unfold mkf at h
  cases hb : s.testBit k with
  | true =>
    rw [hb, if_pos rfl] at h
    cases h
  | false =>
    rw [hb, if_neg (by decide)] at h
    exact ⟨rfl, h⟩
theorem mkf_u {f1 : Nat → Option Int32} {s k : Nat} (h : s.testBit k = false) : mkf f1 s k = f1 k := by
  unfold mkf
  rw [h, if_neg (by decide)]
theorem mkf_rg {f1 : Nat → Option Int32} {s N : Nat} (h : rg f1 N) : rg (mkf f1 s) N := fun k hk x hx => h k hk x (mkf_s hx).2
theorem spf_at {f1 : Nat → Option Int32} : ∀ {k : Nat} {l1 g1 : Int32}, spf f1 k = some (l1, g1) → (∃ i, i < k ∧ f1 i = some l1) ∧ ∃ i, i < k ∧ f1 i = some g1
  | 0, l1, g1, h => by cases h
  | k + 1, l1, g1, h => by
    cases hx : f1 k with
    | none =>
      rw [spf_n hx] at h
      obtain ⟨⟨i1, a1, a2⟩, i2, b1, b2⟩ := spf_at h
      exact ⟨⟨i1, by omega, a2⟩, i2, by omega, b2⟩
    | some x =>
      cases hq : spf f1 k with
      | none =>
        rw [spf_s0 hx hq] at h
        cases h
        exact ⟨⟨k, by omega, hx⟩, k, by omega, hx⟩
      | some t =>
        obtain ⟨l2, g2⟩ := t
        rw [spf_ss hx hq] at h
        obtain ⟨⟨i1, a1, a2⟩, i2, b1, b2⟩ := spf_at hq
        cases h
        refine ⟨?_, ?_⟩
        · by_cases c1 : x < l2
          · rw [if_pos c1]
            exact ⟨k, by omega, hx⟩
          · rw [if_neg c1]
            exact ⟨i1, by omega, a2⟩
        · by_cases c1 : g2 < x
          · rw [if_pos c1]
            exact ⟨k, by omega, hx⟩
          · rw [if_neg c1]
            exact ⟨i2, by omega, b2⟩
theorem spf_in {f1 : Nat → Option Int32} : ∀ {k i : Nat} {x : Int32}, i < k → f1 i = some x → ∃ l1 g1, spf f1 k = some (l1, g1) ∧ l1 ≤ x ∧ x ≤ g1
  | 0, i, x, h, _ => by omega
  | k + 1, i, x, h, hx => by
    by_cases e : i = k
    · subst e
      cases hq : spf f1 i with
      | none => exact ⟨x, x, spf_s0 hx hq, (fa_le _ _).mpr (by omega), (fa_le _ _).mpr (by omega)⟩
      | some t =>
        obtain ⟨l2, g2⟩ := t
        refine ⟨_, _, spf_ss hx hq, ?_, ?_⟩
        · split
          · exact (fa_le _ _).mpr (by omega)
          · rename_i c1
            exact fa_of_nlt c1
        · split
          · exact (fa_le _ _).mpr (by omega)
          · rename_i c1
            exact fa_of_nlt c1
    · obtain ⟨l2, g2, q1, q2, q3⟩ := spf_in (k := k) (by omega) hx
      cases hy : f1 k with
      | none => exact ⟨l2, g2, by rw [spf_n hy]; exact q1, q2, q3⟩
      | some y =>
        refine ⟨_, _, spf_ss hy q1, ?_, ?_⟩
        · split
          · rename_i c1
            rw [fa_le] at q2 ⊢
            rw [fa_lt] at c1
            omega
          · exact q2
        · split
          · rename_i c1
            rw [fa_le] at q3 ⊢
            rw [fa_lt] at c1
            omega
          · exact q3
/-- closes when these are hushed -/
def fe (f1 : Nat → Option Int32) (N : Nat) (cl : Int32) (s : Nat) : Prop := ¬ cl < spv (mkf f1 s) N
theorem fe_i {f1 : Nat → Option Int32} {N c1 s : Nat} (hr : rg f1 N) (hc : c1 < 100) : fe f1 N (nI c1) s ↔ ∀ i j a1 b1 : Nat, i < N → j < N → a1 ≤ 1200 → b1 ≤ 1200 → mkf f1 s i = some (nI a1) → mkf f1 s j = some (nI b1) → b1 ≤ a1 + c1 := by
  unfold fe spv
  constructor
  · intro h i j a1 b1 hi hj ha hb e1 e2
    obtain ⟨l1, g1, q1, q2, q3⟩ := spf_in hi e1
    obtain ⟨l2, g2, r1, r2, r3⟩ := spf_in hj e2
    rw [q1] at r1
    cases r1
    obtain ⟨m1, m2, rfl, rfl, w1, w2, w3⟩ := spf_rg (mkf_rg hr) (Nat.le_refl _) q1
    rw [q1] at h
    dsimp only at h
    rw [pk_sub w2, nI_ltI (by omega) (by omega)] at h
    rw [nI_leI (by omega) (by omega)] at q2 r3
    omega
  · intro h z
    cases hq : spf (mkf f1 s) N with
    | none =>
      rw [hq] at z
      exact nI_pos (by omega) z
    | some t =>
      obtain ⟨l1, g1⟩ := t
      rw [hq] at z
      dsimp only at z
      obtain ⟨⟨i, i1, i2⟩, j, j1, j2⟩ := spf_at hq
      obtain ⟨m1, m2, rfl, rfl, w1, w2, w3⟩ := spf_rg (mkf_rg hr) (Nat.le_refl _) hq
      rw [pk_sub w2, nI_ltI (by omega) (by omega)] at z
      have := h i j m1 m2 i1 j1 (by omega) (by omega) i2 j2
      omega
/-- those outside of the notes from a on -/
def ouP (f1 : Nat → Option Int32) (c1 a1 k : Nat) : Prop := ∃ m1, m1 ≤ 1200 ∧ f1 k = some (nI m1) ∧ (m1 < a1 ∨ a1 + c1 < m1)
noncomputable def ouS (f1 : Nat → Option Int32) (N c1 i : Nat) : Option Nat := match f1 i with
  | none => none
  | some x => some (bsN (ouP f1 c1 x.toNatClampNeg) N)
theorem ouS_n {f1 : Nat → Option Int32} {N c1 i : Nat} (h : f1 i = none) : ouS f1 N c1 i = none := by
  unfold ouS
  rw [h]
theorem ouS_s {f1 : Nat → Option Int32} {N c1 i a1 : Nat} (ha : a1 ≤ 1200) (h : f1 i = some (nI a1)) : ouS f1 N c1 i = some (bsN (ouP f1 c1 a1) N) := by
  unfold ouS
  rw [h]
  dsimp only
  rw [nI_clamp (by omega)]
theorem ou_fe {f1 : Nat → Option Int32} {N c1 a1 : Nat} (hr : rg f1 N) (hc : c1 < 100) : fe f1 N (nI c1) (bsN (ouP f1 c1 a1) N) := by
  rw [fe_i hr hc]
  intro i j x1 y1 hi hj hx hy e1 e2
  obtain ⟨u1, u2⟩ := mkf_s e1
  obtain ⟨v1, v2⟩ := mkf_s e2
  have key : ∀ k m1, k < N → m1 ≤ 1200 → f1 k = some (nI m1) → (bsN (ouP f1 c1 a1) N).testBit k = false → a1 ≤ m1 ∧ m1 ≤ a1 + c1 := by
    intro k m1 hk hm e z
    refine Decidable.by_contra (fun y => ?_)
    have : (bsN (ouP f1 c1 a1) N).testBit k = true := bsN_bit.mpr ⟨hk, m1, hm, e, by omega⟩
    rw [z] at this
    cases this
  have k1 := key i x1 hi hx u2 u1
  have k2 := key j y1 hj hy v2 v1
  omega
theorem ou_sub {f1 : Nat → Option Int32} {N c1 s i0 a0 : Nat} (hr : rg f1 N) (hc : c1 < 100) (hf : fe f1 N (nI c1) s) (h0 : i0 < N) (ha : a0 ≤ 1200) (e0 : f1 i0 = some (nI a0)) : ∃ i a1, i < N ∧ a1 ≤ 1200 ∧ f1 i = some (nI a1) ∧ ∀ k, (bsN (ouP f1 c1 a1) N).testBit k = true → s.testBit k = true := by
  rw [fe_i hr hc] at hf
  cases hq : spf (mkf f1 s) N with
  | none =>
    refine ⟨i0, a0, h0, ha, e0, fun k hk => ?_⟩
    obtain ⟨k1, m1, k2, k3, k4⟩ := bsN_bit.mp hk
    cases hb : s.testBit k with
    | true => rfl
    | false =>
      have e : mkf f1 s k = some (nI m1) := by rw [mkf_u hb]; exact k3
      obtain ⟨l1, g1, q1, _⟩ := spf_in k1 e
      rw [hq] at q1
      cases q1
  | some t =>
    obtain ⟨l1, g1⟩ := t
    obtain ⟨⟨i, i1, i2⟩, _⟩ := spf_at hq
    obtain ⟨m1, m2, rfl, rfl, w1, w2, w3⟩ := spf_rg (mkf_rg hr) (Nat.le_refl _) hq
    refine ⟨i, m1, i1, by omega, (mkf_s i2).2, fun k hk => ?_⟩
    obtain ⟨k1, y1, k2, k3, k4⟩ := bsN_bit.mp hk
    cases hb : s.testBit k with
    | true => rfl
    | false =>
      exfalso
      have e : mkf f1 s k = some (nI y1) := by rw [mkf_u hb]; exact k3
      have z1 := hf i k m1 y1 i1 k1 (by omega) k2 i2 e
      obtain ⟨l2, g2, q1, q2, _⟩ := spf_in k1 e
      rw [hq] at q1
      cases q1
      rw [nI_leI (by omega) (by omega)] at q2
      omega
def lss (s t : Nat) : Prop := pop s < pop t ∨ pop s = pop t ∧ s < t
noncomputable def lsB (g1 : Nat → Option Nat) : Nat → Option Nat
  | 0 => none
  | j + 1 => match g1 j with
    | none => lsB g1 j
    | some s => match lsB g1 j with
      | none => some s
      | some b => by classical exact if lss s b then some s else some b
theorem lsB_n {g1 : Nat → Option Nat} {j : Nat} (h : g1 j = none) : lsB g1 (j + 1) = lsB g1 j := by
  show (match g1 j with | none => lsB g1 j | some s => _) = _
  rw [h]
theorem lsB_0 {g1 : Nat → Option Nat} {j s : Nat} (h : g1 j = some s) (h2 : lsB g1 j = none) : lsB g1 (j + 1) = some s := by
  unfold lsB
  rw [h, h2]
theorem lsB_y {g1 : Nat → Option Nat} {j s b1 : Nat} (h : g1 j = some s) (h2 : lsB g1 j = some b1) (h3 : lss s b1) : lsB g1 (j + 1) = some s := by
  unfold lsB
  rw [h, h2]
  exact if_pos h3
theorem lsB_k {g1 : Nat → Option Nat} {j s b1 : Nat} (h : g1 j = some s) (h2 : lsB g1 j = some b1) (h3 : ¬ lss s b1) : lsB g1 (j + 1) = some b1 := by
  unfold lsB
  rw [h, h2]
  exact if_neg h3
theorem lsB_none {g1 : Nat → Option Nat} : ∀ {j : Nat}, lsB g1 j = none → ∀ i, i < j → g1 i = none
  | 0, _, i, hi => by omega
  | j + 1, h, i, hi => by
    cases hg : g1 j with
    | none =>
      rw [lsB_n hg] at h
      by_cases e : i = j
      · rw [e]
        exact hg
      · exact lsB_none h i (by omega)
    | some s =>
      exfalso
      cases hq : lsB g1 j with
      | none =>
        rw [lsB_0 hg hq] at h
        cases h
      | some b1 =>
        by_cases c1 : lss s b1
        · rw [lsB_y hg hq c1] at h
          cases h
        · rw [lsB_k hg hq c1] at h
          cases h
theorem lsB_some {g1 : Nat → Option Nat} : ∀ {j b1 : Nat}, lsB g1 j = some b1 → (∃ i, i < j ∧ g1 i = some b1) ∧ ∀ i s, i < j → g1 i = some s → ¬ lss s b1
  | 0, b1, h => by cases h
  | j + 1, b1, h => by
    cases hg : g1 j with
    | none =>
      rw [lsB_n hg] at h
      obtain ⟨⟨i, i1, i2⟩, h2⟩ := lsB_some h
      refine ⟨⟨i, by omega, i2⟩, fun i s hi e => ?_⟩
      by_cases c1 : i = j
      · rw [c1, hg] at e
        cases e
      · exact h2 i s (by omega) e
    | some s =>
      cases hq : lsB g1 j with
      | none =>
        rw [lsB_0 hg hq] at h
        cases h
        refine ⟨⟨j, by omega, hg⟩, fun i t hi e => ?_⟩
        by_cases c1 : i = j
        · rw [c1, hg] at e
          cases e
          unfold lss
          omega
        · rw [lsB_none hq i (by omega)] at e
          cases e
      | some b2 =>
        obtain ⟨⟨i, i1, i2⟩, h2⟩ := lsB_some hq
        by_cases c2 : lss s b2
        · rw [lsB_y hg hq c2] at h
          cases h
          refine ⟨⟨j, by omega, hg⟩, fun i t hi e => ?_⟩
          by_cases c1 : i = j
          · rw [c1, hg] at e
            cases e
            unfold lss
            omega
          · have := h2 i t (by omega) e
            unfold lss at this c2 ⊢
            omega
        · rw [lsB_k hg hq c2] at h
          cases h
          refine ⟨⟨i, by omega, i2⟩, fun i t hi e => ?_⟩
          by_cases c1 : i = j
          · rw [c1, hg] at e
            cases e
            exact c2
          · exact h2 i t (by omega) e
noncomputable def feS (f1 : Nat → Option Int32) (N : Nat) (cl : Int32) (s : Nat) : Option Nat := by classical exact if fe f1 N cl s then some s else none
theorem feS_y {f1 : Nat → Option Int32} {N s : Nat} {cl : Int32} (h : fe f1 N cl s) : feS f1 N cl s = some s := if_pos h
theorem feS_n {f1 : Nat → Option Int32} {N s : Nat} {cl : Int32} (h : ¬ fe f1 N cl s) : feS f1 N cl s = none := if_neg h
theorem feS_s {f1 : Nat → Option Int32} {N s t : Nat} {cl : Int32} (h : feS f1 N cl s = some t) : s = t ∧ fe f1 N cl s := by
  by_cases c1 : fe f1 N cl s
  · rw [feS_y c1] at h
    cases h
    exact ⟨rfl, c1⟩
  · rw [feS_n c1] at h
    cases h
theorem pop_0 : pop 0 = 0 := by decide
theorem hush_eq {f1 : Nat → Option Int32} {N c1 : Nat} (hr : rg f1 N) (hc : c1 < 100) : lsB (feS f1 N (nI c1)) (2 ^ N) = some ((lsB (ouS f1 N c1) N).getD 0) := by
  have hp : 0 < 2 ^ N := Nat.two_pow_pos N
  cases hC : lsB (ouS f1 N c1) N with
  | none =>
    have no : ∀ i, i < N → f1 i = none := fun i hi => by
      cases hx : f1 i with
      | none => rfl
      | some x =>
        obtain ⟨m1, rfl, w1, w2⟩ := hr i hi x hx
        have z := lsB_none hC i hi
        rw [ouS_s w2 hx] at z
        cases z
    have f0 : fe f1 N (nI c1) 0 := by
      rw [fe_i hr hc]
      intro i j a1 b1 hi hj ha hb e1 e2
      have := (mkf_s e1).2
      rw [no i hi] at this
      cases this
    cases hM : lsB (feS f1 N (nI c1)) (2 ^ N) with
    | none =>
      have z := lsB_none hM 0 hp
      rw [feS_y f0] at z
      cases z
    | some m1 =>
      have z := (lsB_some hM).2 0 0 hp (feS_y f0)
      unfold lss at z
      rw [pop_0] at z
      show some m1 = some 0
      congr 1
      omega
  | some b1 =>
    obtain ⟨⟨i, i1, i2⟩, hmin⟩ := lsB_some hC
    have nz : f1 i ≠ none := fun z => by
      rw [ouS_n z] at i2
      cases i2
    cases hx : f1 i with
    | none => exact absurd hx nz
    | some x =>
      obtain ⟨a1, rfl, w1, w2⟩ := hr i i1 x hx
      rw [ouS_s w2 hx] at i2
      cases i2
      have fb := ou_fe (a1 := a1) hr hc
      have lt : bsN (ouP f1 c1 a1) N < 2 ^ N := bsN_lt
      cases hM : lsB (feS f1 N (nI c1)) (2 ^ N) with
      | none =>
        have z := lsB_none hM _ lt
        rw [feS_y fb] at z
        cases z
      | some m1 =>
        obtain ⟨⟨j, j1, j2⟩, hmin2⟩ := lsB_some hM
        obtain ⟨e1, e2⟩ := feS_s j2
        subst e1
        have q1 := hmin2 _ _ lt (feS_y fb)
        obtain ⟨k1, b2, k2, k3, k4, k5⟩ := ou_sub hr hc e2 i1 w2 hx
        have q2 := hmin k1 _ k2 (ouS_s k3 k4)
        have q3 := pop_sub k5
        have q4 := le_sub k5
        unfold lss at q1 q2
        show some j = some _
        congr 1
        show j = bsN (ouP f1 c1 a1) N
        omega
