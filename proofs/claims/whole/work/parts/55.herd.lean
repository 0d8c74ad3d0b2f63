theorem L_i {m1 : Nat} (h : m1 < 2 ^ 31) : (nI m1).toInt64 = lN m1 := by
  rw [fa_eq64, Int32.toInt_toInt64, nI_toInt h, L_toInt (by omega)]
theorem L_ne0 {m1 : Nat} (h : 0 < m1) (h2 : m1 < 2 ^ 63) : ¬ lN m1 = 0 := by
  intro z
  have z2 : lN m1 = lN 0 := z
  rw [L_eq h2 (by omega)] at z2
  omega
theorem s_power (x1 m1 : Nat) (hm : m1 < 2 ^ 31) (K : Int64 → Prop) (h : K (lN (x1 ^ m1))) : w_X6_power (lN x1) (nI m1) K := by
  unfold w_X6_power
  refine up2 (fun j a1 c1 => a1 = lN (x1 ^ j) ∧ c1 = nI j) m1 ?_ 0 _ _ (Nat.zero_le _) ⟨by rw [Nat.pow_zero]; rfl, rfl⟩
  rintro j rc _ _ hj ⟨rfl, rfl⟩ hrc
  unfold F_X6_power_5 E_X6_power_5
  by_cases c1 : m1 ≤ j
  · have ej : j = m1 := by omega
    subst ej
    exact it_p (nI_le c1 (by omega)) h
  · refine it_n (fun z => c1 ((nI_leI (by omega) (by omega)).mp z)) ?_
    rw [lN_mul, nI_1]
    exact hrc _ _ (by omega) ⟨by rw [Nat.pow_succ], rfl⟩
/-- how many ways there are to choose -/
def chN (n : Nat) : Nat → Nat
  | 0 => 1
  | k + 1 => chN n k * (n - k) / (k + 1)
theorem chN_s (n k : Nat) : chN n (k + 1) = chN n k * (n - k) / (k + 1) := rfl
theorem chN_le {n k : Nat} (hn : n ≤ 9) (hk : k ≤ 10) : chN n k ≤ 126 := by
  have key : ∀ n : Fin 10, ∀ k : Fin 11, chN n.val k.val ≤ 126 := by decide
  exact key ⟨n, by omega⟩ ⟨k, by omega⟩
def wgN (n c1 k : Nat) : Nat := chN n k * c1 ^ k * (16 - c1) ^ (n - k)
theorem wgN_le {n c1 k : Nat} (hn : n ≤ 9) (hc : c1 ≤ 16) (hk : k ≤ n) : wgN n c1 k ≤ 126 * 16 ^ 9 := by
  unfold wgN
  have h1 := chN_le hn (show k ≤ 10 by omega)
  have h2 : c1 ^ k ≤ 16 ^ k := Nat.pow_le_pow_left hc k
  have h3 : (16 - c1) ^ (n - k) ≤ 16 ^ (n - k) := Nat.pow_le_pow_left (by omega) _
  have h4 : (16 : Nat) ^ k * 16 ^ (n - k) = 16 ^ n := by rw [← Nat.pow_add, show k + (n - k) = n by omega]
  have h5 : (16 : Nat) ^ n ≤ 16 ^ 9 := Nat.pow_le_pow_right (by decide) hn
  refine Nat.le_trans (Nat.mul_le_mul (Nat.mul_le_mul h1 h2) h3) ?_
  rw [Nat.mul_assoc, h4]
  exact Nat.mul_le_mul_left _ h5
/-- of the even chances those by which the bar closes, with fewer than k cows -/
noncomputable def wyN (p1 : Nat → Prop) (n c1 : Nat) : Nat → Nat
  | 0 => 0
  | k + 1 => by classical exact if p1 k then wyN p1 n c1 k + wgN n c1 k else wyN p1 n c1 k
theorem wyN_y {p1 : Nat → Prop} {n c1 k : Nat} (h : p1 k) : wyN p1 n c1 (k + 1) = wyN p1 n c1 k + wgN n c1 k := if_pos h
theorem wyN_n {p1 : Nat → Prop} {n c1 k : Nat} (h : ¬ p1 k) : wyN p1 n c1 (k + 1) = wyN p1 n c1 k := if_neg h
theorem wyN_le {p1 : Nat → Prop} {n c1 : Nat} (hn : n ≤ 9) (hc : c1 ≤ 16) : ∀ {k : Nat}, k ≤ n + 1 → wyN p1 n c1 k ≤ k * (126 * 16 ^ 9)
  | 0, _ => Nat.zero_le _
  | k + 1, hk => by
    have h1 := wyN_le (p1 := p1) hn hc (k := k) (by omega)
    have h2 := wgN_le hn hc (show k ≤ n by omega)
    rw [Nat.succ_mul]
    by_cases c2 : p1 k
    · rw [wyN_y c2]
      exact Nat.add_le_add h1 h2
    · rw [wyN_n c2]
      exact Nat.le_trans h1 (Nat.le_add_right _ _)
theorem wyN_63 {p1 : Nat → Prop} {n c1 : Nat} (hn : n ≤ 9) (hc : c1 ≤ 16) : wyN p1 n c1 (n + 1) < 2 ^ 63 := by
  have h1 := wyN_le (p1 := p1) hn hc (Nat.le_refl (n + 1))
  have h2 : (n + 1) * (126 * 16 ^ 9) ≤ 10 * (126 * 16 ^ 9) := Nat.mul_le_mul_right _ (by omega)
  have h3 : 10 * (126 * 16 ^ 9) < 2 ^ 63 := by decide
  omega
theorem ch_nx {n j : Nat} (hn : n ≤ 9) (hj : j ≤ n) : lN (chN n j) * (nI n - nI j).toInt64 / (nI j + 1).toInt64 = lN (chN n (j + 1)) ∧ ¬ (nI j + 1).toInt64 = 0 := by
  have h1 := chN_le hn (show j ≤ 10 by omega)
  have h2 : chN n j * (n - j) ≤ 126 * 9 := Nat.mul_le_mul h1 (by omega)
  rw [nI_1, pk_sub hj, L_i (by omega), L_i (by omega), lN_mul, L_div (by omega) (by omega), chN_s]
  exact ⟨rfl, L_ne0 (by omega) (by omega)⟩
theorem s_waysC (σ : Sg) (N B b1 n1 c1 : Nat) (P : Nat → Int32) (d : Nat → Nat → Int32) (kd : Nat → Int32) (ok : okC N d) (hP : okP N P) (hB : B ≤ 24) (hb : b1 < B) (hn : n1 ≤ 9) (hc1 : c1 ≤ 16) (hc : clIs σ 5 N P d) (hs : soIs σ B kd) (hT : okT (σ 26 0) (σ 26 1) (σ 26 2)) (tp : Nat → Prop) (htp : ∀ j, tp j ↔ clz (NT P d N (σ 26 0) (nI j) (σ 26 2) (rb kd b1)) N kd b1 (σ 26 3)) (K : Int64 → Sg → Prop) (h : ∀ σ', same [27] σ σ' → K (lN (wyN tp n1 c1 (n1 + 1))) σ') : w_X6_waysToClose (nI n1) (nI c1) (nI b1) σ K := by
  have hN := ok.1
  have hrb : rb kd b1 ≤ 24 := by have := rb_le kd b1; omega
  refine s_become σ _ (fun σ1 u1 u2 => ?_)
  refine up4 (fun j y4 y6 y8 ρ => y4 = lN (wyN tp n1 c1 j) ∧ y6 = lN (chN n1 j) ∧ y8 = nI j ∧ same [27] σ ρ ∧ ρ 27 0 = σ 26 0 ∧ ρ 27 2 = σ 26 2 ∧ ρ 27 3 = σ 26 3) (n1 + 1) ?_ 0 _ _ _ _ (Nat.zero_le _) ⟨rfl, rfl, rfl, u1, u2 0 (by omega), u2 2 (by omega), u2 3 (by omega)⟩
  rintro j rc _ _ _ ρ hj ⟨rfl, rfl, rfl, g1, g2, g3, g4⟩ hrc
  unfold F_X6_waysToClose_20 E_X6_waysToClose_20
  by_cases c2 : n1 < j
  · have ej : j = n1 + 1 := by omega
    subst ej
    exact it_p (nI_lt c2 (by omega)) (h ρ g1)
  · refine it_n (fun z => c2 ((nI_ltI (by omega) (by omega)).mp z)) ?_
    rintro _ rfl
    have g5 : same [27] σ (pt ρ 27 1 (nI j)) := g1.pt (by decide)
    have e0 : pt ρ 27 1 (nI j) 27 0 = σ 26 0 := by rw [pt_o _ _ (by decide)]; exact g2
    have e1 : pt ρ 27 1 (nI j) 27 1 = nI j := pt_s _ _ _ _
    have e2 : pt ρ 27 1 (nI j) 27 2 = σ 26 2 := by rw [pt_o _ _ (by decide)]; exact g3
    have e3 : pt ρ 27 1 (nI j) 27 3 = σ 26 3 := by rw [pt_o _ _ (by decide)]; exact g4
    have hr : rg (NT P d N (pt ρ 27 1 (nI j) 27 0) (pt ρ 27 1 (nI j) 27 1) (pt ρ 27 1 (nI j) 27 2) (rb kd b1)) N := by
      rw [e0, e1, e2]
      exact NT_rg ok hP (okT_e hT (by omega)) hrb
    have tpj : tp j ↔ clz (NT P d N (pt ρ 27 1 (nI j) 27 0) (pt ρ 27 1 (nI j) 27 1) (pt ρ 27 1 (nI j) 27 2) (rb kd b1)) N kd b1 (pt ρ 27 1 (nI j) 27 3) := by
      rw [e0, e1, e2, e3]
      exact htp j
    obtain ⟨q1, q2⟩ := ch_nx hn (show j ≤ n1 by omega)
    have key : J_X6_waysToClose_75 (nI j) (lN (chN n1 j)) (nI n1) rc (pt ρ 27 1 (nI j)) (lN (wyN tp n1 c1 (j + 1))) := by
      refine ⟨q2, ?_⟩
      rintro _ rfl
      rw [q1, nI_1]
      exact hrc _ _ _ _ (by omega) ⟨rfl, rfl, rfl, g5, e0, e2, e3⟩
    refine s_closes _ 27 N B b1 P d kd hN hB hb (cl_cg hc (fun q hq => g5 q (by simp; omega))) (so_cg hs (fun q hq _ => g5 q (by simp; omega))) hr _ (fun z => it_n (by decide) ?_) (fun z => it_p rfl ?_)
    · rw [← tpj] at z
      rw [L_i (by omega), show (16 : Int32) - nI c1 = nI (16 - c1) from pk_sub (a := 16) hc1, L_i (by omega), pk_sub (show j ≤ n1 by omega)]
      refine s_power c1 j (by omega) _ (s_power (16 - c1) (n1 - j) (by omega) _ ?_)
      rintro _ rfl
      rw [lN_mul, lN_mul, lN_add]
      rw [wyN_y z] at key
      exact key
    · rw [← tpj] at z
      rw [wyN_n z] at key
      exact key
theorem hv_gcd {a1 i m1 : Nat} (hi : i ≤ m1) (h : i = m1 ∨ a1 % 2 = 1) : Nat.gcd (a1 * 2 ^ i) (2 ^ m1) = 2 ^ i := by
  have e : (2 : Nat) ^ m1 = 2 ^ (m1 - i) * 2 ^ i := by rw [← Nat.pow_add, show m1 - i + i = m1 by omega]
  rw [e, Nat.gcd_mul_right]
  have g1 : Nat.gcd a1 (2 ^ (m1 - i)) = 1 := by
    rcases h with h | h
    · rw [h, Nat.sub_self, Nat.pow_zero, Nat.gcd_one_right]
    · refine Nat.Coprime.pow_right _ ?_
      show Nat.gcd a1 2 = 1
      rw [Nat.gcd_comm, Nat.gcd_rec, h]
      rfl
  rw [g1, Nat.one_mul]
theorem s_halve (A1 n1 : Nat) (hA : A1 < 2 ^ 63) (hn : n1 ≤ 9) (K : Int64 → Int64 → Prop) (h : K (lN (A1 / Nat.gcd A1 (16 ^ n1))) (lN (16 ^ n1 / Nat.gcd A1 (16 ^ n1)))) : ∃ n61, lq3 (F_X6_herd_61 (nI n1) K) n61 (lN A1) (lN (16 ^ n1)) 0 := by
  have e16 : (16 : Nat) ^ n1 = 2 ^ (4 * n1) := by rw [Nat.pow_mul]
  rw [e16] at h ⊢
  refine up3 (fun j y5 y7 y9 => ∃ a1, A1 = a1 * 2 ^ j ∧ y5 = lN a1 ∧ y7 = lN (2 ^ (4 * n1 - j)) ∧ y9 = nI j) (4 * n1) ?_ 0 _ _ _ (Nat.zero_le _) ⟨A1, by rw [Nat.pow_zero, Nat.mul_one], rfl, rfl, rfl⟩
  rintro j rc _ _ _ hj ⟨a1, ea, rfl, rfl, rfl⟩ hrc
  have hp : 0 < 2 ^ j := Nat.two_pow_pos j
  have ha : a1 ≤ A1 := by rw [ea]; exact Nat.le_mul_of_pos_right _ hp
  have hq : 2 ^ (4 * n1 - j) ≤ 2 ^ 36 := Nat.pow_le_pow_right (by decide) (by omega)
  have ex : (j = 4 * n1 ∨ a1 % 2 = 1) → K (lN a1) (lN (2 ^ (4 * n1 - j))) := fun z => by
    rw [ea, hv_gcd hj z, Nat.mul_div_cancel _ hp, Nat.pow_div hj (by decide)] at h
    exact h
  unfold F_X6_herd_61
  rw [show (4 : Int32) * nI n1 = nI (4 * n1) from pk_mul 4 n1]
  by_cases c1 : 4 * n1 ≤ j
  · exact it_p (nI_le c1 (by omega)) (ex (Or.inl (by omega)))
  · refine it_n (fun z => c1 ((nI_leI (by omega) (by omega)).mp z)) ?_
    have hr : lN a1 - lN a1 / (2 : Int64) * (2 : Int64) = lN (a1 % 2) := L_rem (b1 := 2) (by omega) (by omega)
    have iff : lg_cmp (lN a1 - lN a1 / (2 : Int64) * (2 : Int64)) (0 : Int64) = 0 ↔ a1 % 2 = 0 := by
      rw [lg_cmp_eq, hr]
      exact L_eq (b1 := 0) (by omega) (by omega)
    refine it_c (fun z => ?_) (fun z => ex (Or.inr ?_))
    · rw [iff] at z
      rw [show lN a1 / (2 : Int64) = lN (a1 / 2) from L_div (b1 := 2) (by omega) (by omega), show lN (2 ^ (4 * n1 - j)) / (2 : Int64) = lN (2 ^ (4 * n1 - j) / 2) from L_div (b1 := 2) (by omega) (by omega), nI_1]
      refine hrc _ _ _ (by omega) ⟨a1 / 2, ?_, rfl, ?_, rfl⟩
      · rw [ea, Nat.pow_succ, Nat.mul_comm (2 ^ j) 2, ← Nat.mul_assoc]
        congr 1
        omega
      · congr 1
        rw [show 4 * n1 - j = (4 * n1 - (j + 1)) + 1 by omega, Nat.pow_succ, Nat.mul_div_cancel _ (by decide)]
    · rw [iff] at z
      omega
theorem s_gcd (kx : Int64 → Prop) : ∀ (m1 a1 b1 : Nat), b1 ≤ m1 → a1 < 2 ^ 63 → b1 < 2 ^ 63 → kx (lN (Nat.gcd a1 b1)) → ∃ n6, lq2 (F_X7_part_6 kx) n6 (lN a1) (lN b1)
  | m1, a1, b1, hm, ha, hb, h => by
    by_cases c1 : b1 = 0
    · subst c1
      rw [Nat.gcd_zero_right] at h
      refine ⟨1, ?_⟩
      show F_X7_part_6 kx _ (lN a1) (lN 0)
      exact it_p (by rw [lg_cmp_eq]; rfl) h
    · have nz : ¬ lN b1 = 0 := L_ne0 (by omega) hb
      have lt : a1 % b1 < b1 := Nat.mod_lt _ (by omega)
      match m1 with
      | 0 => omega
      | m2 + 1 =>
        rw [Nat.gcd_comm, Nat.gcd_rec, Nat.gcd_comm] at h
        obtain ⟨n6, hn⟩ := s_gcd kx m2 b1 (a1 % b1) (by omega) hb (by omega) h
        refine ⟨n6 + 1, ?_⟩
        show F_X7_part_6 kx _ (lN a1) (lN b1)
        refine it_n (by rw [lg_cmp_eq]; exact nz) ⟨nz, ?_⟩
        rintro _ rfl
        rw [L_rem ha hb]
        exact hn
theorem s_part (a1 b1 k1 : Nat) (ha : a1 < 2 ^ 63) (hb : b1 < 2 ^ 63) (hp : 0 < b1) (K : Int64 → Prop) (h : if nI k1 = 0 then K (lN (a1 / Nat.gcd a1 b1)) else K (lN (b1 / Nat.gcd a1 b1))) : w_X7_part (lN a1) (lN b1) (nI k1) K := by
  have g1 : Nat.gcd a1 b1 ≤ b1 := Nat.gcd_le_right _ hp
  have g2 : 0 < Nat.gcd a1 b1 := Nat.gcd_pos_of_pos_right _ hp
  refine s_gcd _ b1 a1 b1 (Nat.le_refl _) ha hb ?_
  unfold E_X7_part_6
  rw [L_div ha (by omega), L_div hb (by omega)]
  by_cases c1 : nI k1 = 0
  · rw [if_pos c1] at h
    exact it_p c1 ⟨L_ne0 g2 (by omega), h⟩
  · rw [if_neg c1] at h
    exact it_n c1 ⟨L_ne0 g2 (by omega), h⟩
