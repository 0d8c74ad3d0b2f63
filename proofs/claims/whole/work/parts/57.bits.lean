/-- the number whose bits are those that are so -/
noncomputable def bsN (p1 : Nat → Prop) : Nat → Nat
  | 0 => 0
  | n + 1 => by classical exact if p1 n then bsN p1 n ||| 2 ^ n else bsN p1 n
theorem bsN_y {p1 : Nat → Prop} {n : Nat} (h : p1 n) : bsN p1 (n + 1) = bsN p1 n ||| 2 ^ n := if_pos h
theorem bsN_n {p1 : Nat → Prop} {n : Nat} (h : ¬ p1 n) : bsN p1 (n + 1) = bsN p1 n := if_neg h
theorem bsN_bit {p1 : Nat → Prop} : ∀ {n k : Nat}, (bsN p1 n).testBit k = true ↔ k < n ∧ p1 k
  | 0, k => by
    show (0 : Nat).testBit k = true ↔ _
    rw [Nat.zero_testBit]
    exact ⟨fun z => absurd z (by decide), fun z => absurd z.1 (Nat.not_lt_zero _)⟩
  | n + 1, k => by
    by_cases c1 : p1 n
    · rw [bsN_y c1, fb_bit_set, Bool.or_eq_true, bsN_bit, decide_eq_true_iff]
      constructor
      · rintro (⟨a1, b1⟩ | rfl)
        · exact ⟨by omega, b1⟩
        · exact ⟨by omega, c1⟩
      · rintro ⟨a1, b1⟩
        by_cases e : k = n
        · exact Or.inr e
        · exact Or.inl ⟨by omega, b1⟩
    · rw [bsN_n c1, bsN_bit]
      constructor
      · rintro ⟨a1, b1⟩
        exact ⟨by omega, b1⟩
      · rintro ⟨a1, b1⟩
        refine ⟨?_, b1⟩
        have : k ≠ n := by
          rintro rfl
          exact c1 b1
        omega
theorem bsN_lt {p1 : Nat → Prop} {n : Nat} : bsN p1 n < 2 ^ n := by
  refine Nat.lt_pow_two_of_testBit _ (fun i hi => ?_)
  cases hb : (bsN p1 n).testBit i with
  | false => rfl
  | true =>
    rw [bsN_bit] at hb
    omega
def pop (s : Nat) : Nat := fb_ct (fun k => s.testBit k) 8
theorem pop_sub {a1 b1 : Nat} (h : ∀ k, a1.testBit k = true → b1.testBit k = true) : pop a1 ≤ pop b1 := fb_ct_sub (fun k _ => h k)
theorem le_sub {a1 b1 : Nat} (h : ∀ k, a1.testBit k = true → b1.testBit k = true) : a1 ≤ b1 := by
  have e : a1 ||| b1 = b1 := by
    refine Nat.eq_of_testBit_eq (fun i => ?_)
    rw [Nat.testBit_or]
    cases ha : a1.testBit i with
    | false => rfl
    | true => rw [h i ha]; rfl
  have := Nat.left_le_or (n := a1) (m := b1)
  rw [e] at this
  exact this
theorem pop_le (s : Nat) : pop s ≤ 8 := fb_ct_le _ 8
theorem shl_k {k : Nat} (h : k < 8) : (1 : Int32) <<< (nI k &&& 31) = nI (2 ^ k) := by
  have key : ∀ k : Fin 8, (1 : Int32) <<< (nI k.val &&& 31) = nI (2 ^ k.val) := by decide
  exact key ⟨k, h⟩
theorem shl_9 {k : Nat} (h : k ≤ 8) : (1 : Int32) <<< (nI k &&& 31) = nI (2 ^ k) := by
  have key : ∀ k : Fin 9, (1 : Int32) <<< (nI k.val &&& 31) = nI (2 ^ k.val) := by decide
  exact key ⟨k, by omega⟩
theorem bit_s {s k : Nat} (hs : s < 256) (hk : k < 8) : bitp (nI s) k ↔ s.testBit k = true := by
  have key : ∀ s : Fin 256, ∀ k : Fin 8, ((nI s.val >>> (nI k.val &&& 31)) &&& 1 = 1 ↔ s.val.testBit k.val = true) := by decide +kernel
  exact key ⟨s, hs⟩ ⟨k, hk⟩
def bcv (x0 : Int32) : Int32 :=
  let x1 := x0 - (((x0).toUInt32 >>> (((1 : Int32)).toUInt32 &&& Int32.toUInt32 31)).toInt32 &&& (1431655765 : Int32))
  let x2 := (x1 &&& (858993459 : Int32)) + (((x1).toUInt32 >>> (((2 : Int32)).toUInt32 &&& Int32.toUInt32 31)).toInt32 &&& (858993459 : Int32))
  let x3 := (x2 + ((x2).toUInt32 >>> (((4 : Int32)).toUInt32 &&& Int32.toUInt32 31)).toInt32) &&& (252645135 : Int32)
  let x4 := x3 + ((x3).toUInt32 >>> (((8 : Int32)).toUInt32 &&& Int32.toUInt32 31)).toInt32
  let x5 := x4 + ((x4).toUInt32 >>> (((16 : Int32)).toUInt32 &&& Int32.toUInt32 31)).toInt32
  x5 &&& 63
theorem s_bitC {s : Nat} (hs : s < 256) (K : Int32 → Prop) (h : K (nI (pop s))) : w_J6_bitCount_0f7a4 (nI s) K := by
  have key : ∀ s : Fin 256, bcv (nI s.val) = nI (pop s.val) := by decide +kernel
  have e := key ⟨s, hs⟩
  unfold w_J6_bitCount_0f7a4
  rintro _ rfl _ rfl _ rfl _ rfl _ rfl
  have h2 : K (bcv (nI s)) := by rw [e]; exact h
  exact h2
theorem one_s {s : Nat} (hs : s < 256) (h0 : s ≠ 0) : ∃ t, t < s ∧ pop s = pop t + 1 ∧ nI s &&& (nI s - 1) = nI t := by
  have key : ∀ s : Fin 256, s.val ≠ 0 → (s.val &&& (s.val - 1)) < s.val ∧ pop s.val = pop (s.val &&& (s.val - 1)) + 1 ∧ nI s.val &&& (nI s.val - 1) = nI (s.val &&& (s.val - 1)) := by decide +kernel
  exact ⟨_, key ⟨s, hs⟩ h0⟩
theorem s_ones_ {kx : Int32 → Prop} : ∀ (m1 s c1 : Nat), s ≤ m1 → s < 256 → kx (nI (c1 + pop s)) → ∃ n4, lq2 (F_X7_ones_4 kx) n4 (nI c1) (nI s)
  | m1, s, c1, hm, hs, h => by
    by_cases c0 : s = 0
    · subst c0
      refine ⟨1, ?_⟩
      show F_X7_ones_4 kx _ (nI c1) (nI 0)
      exact it_p rfl h
    · obtain ⟨t, t1, t2, t3⟩ := one_s hs c0
      match m1 with
      | 0 => omega
      | m2 + 1 =>
        obtain ⟨n4, hn⟩ := s_ones_ (kx := kx) m2 t (c1 + 1) (by omega) (by omega) (by rw [show c1 + 1 + pop t = c1 + pop s by omega]; exact h)
        refine ⟨n4 + 1, ?_⟩
        show F_X7_ones_4 kx _ (nI c1) (nI s)
        refine it_n (nI_ne0 (by omega) (by omega)) ?_
        rintro _ rfl
        rw [t3, nI_1]
        exact hn
theorem s_ones {s : Nat} (hs : s < 256) (K : Int32 → Prop) (h : K (nI (pop s))) : w_X7_ones (nI s) K := s_ones_ s s 0 (Nat.le_refl _) hs (by rw [Nat.zero_add]; exact h)
