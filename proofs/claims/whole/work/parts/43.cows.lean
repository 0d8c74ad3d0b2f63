noncomputable def cwv (p1 : Nat → Prop) : Nat → Int32
  | 0 => 0
  | n + 1 => by classical exact if p1 n then cwv p1 n ||| ((1 : Int32) <<< (nI n &&& 31)) else cwv p1 n
theorem cwv_y {p1 : Nat → Prop} {n : Nat} (h : p1 n) : cwv p1 (n + 1) = cwv p1 n ||| ((1 : Int32) <<< (nI n &&& 31)) := if_pos h
theorem cwv_n {p1 : Nat → Prop} {n : Nat} (h : ¬ p1 n) : cwv p1 (n + 1) = cwv p1 n := if_neg h
theorem s_cowsC (σ : Sg) (nh N B : Nat) (P : Nat → Int32) (d : Nat → Nat → Int32) (kd : Nat → Int32) (hN : N ≤ 8) (hB : B ≤ 24) (hc : clIs σ 5 N P d) (hs : soIs σ B kd) (hm : mmC σ nh) (fs : Nat → Prop) (hfs : ∀ v1, fs v1 ↔ hT0 σ nh N B P d kd (σ 26 0) (nI v1)) (K : Int32 → Sg → Prop) (h : ∀ σ', same [27, 42] σ σ' → K (cwv fs 10) σ') : w_X6_cows σ K := by
  refine s_become σ _ (fun σ1 u1 u2 => ?_)
  refine up3 (fun j y1 y2 ρ => y1 = cwv fs j ∧ y2 = nI j ∧ same [27, 42] σ ρ ∧ ρ 27 0 = σ 26 0 ∧ ρ 27 2 = σ 26 2) 10 ?_ 0 _ _ _ (Nat.zero_le _) ⟨rfl, rfl, u1.mono (by decide), u2 0 (by omega), u2 2 (by omega)⟩
  rintro j rc _ _ ρ hj ⟨rfl, rfl, g1, g2, g3⟩ hrc
  unfold F_X6_cows_15 E_X6_cows_15
  by_cases c1 : 10 ≤ j
  · have ej : j = 10 := by omega
    subst ej
    exact it_p (nI_le (a := 10) c1 (by omega)) (h ρ g1)
  · refine it_n (fun z => c1 ((nI_leI (a := 10) (by omega) (by omega)).mp z)) ?_
    rintro _ rfl
    have e0 : pt ρ 27 1 (nI j) 27 0 = σ 26 0 := by rw [pt_o _ _ (by decide)]; exact g2
    have e2 : pt ρ 27 1 (nI j) 27 2 = σ 26 2 := by rw [pt_o _ _ (by decide)]; exact g3
    refine s_all2 σ _ nh N B P d kd hN hB hc hs hm (g1.pt (by decide)) (σ 26 0) (nI j) e0 (pt_s _ _ _ _) e2 _ (fun z => it_n (by decide) ?_) (fun z => it_p rfl ?_)
    · rw [← hfs j] at z
      rintro _ rfl
      rw [nI_1]
      exact hrc _ _ _ (by omega) ⟨(cwv_y z).symm, rfl, g1.pt (by decide), e0, e2⟩
    · rw [← hfs j] at z
      rw [nI_1]
      exact hrc _ _ _ (by omega) ⟨(cwv_n z).symm, rfl, g1.pt (by decide), e0, e2⟩
theorem s_cowsM (σ τ1 : Sg) (nh N B : Nat) (P : Nat → Int32) (d : Nat → Nat → Int32) (kd : Nat → Int32) (hN : N ≤ 8) (hB : B ≤ 24) (hm : mmC σ nh) (hm2 : mmM σ τ1 nh) (hf : fdIs τ1 N P d B kd) (h9 : ∀ j, j < 4 → τ1 9 j = σ 26 j) (fs : Nat → Prop) (hfs : ∀ v1, fs v1 ↔ hT0 σ nh N B P d kd (σ 26 0) (nI v1)) (K : Int32 → Sg → Prop) (h : ∀ τ', kpM τ1 τ' → τ' 9 = τ1 9 → same [9, 11, 12, 13, 17] τ1 τ' → fdIs τ' N P d B kd → K (cwv fs 10) τ') : w_X7_cowsNow τ1 K := by
  unfold w_X7_cowsNow
  rw [z1]
  refine ⟨i14, ?_⟩
  rintro _ rfl
  refine up3 (fun j y2 y3 ρ => y2 = cwv fs j ∧ y3 = nI j ∧ mvM τ1 ρ N P d B kd 1) 10 ?_ 0 _ _ _ (Nat.zero_le _) ⟨rfl, rfl, mvM.rf hf⟩
  rintro j rc _ _ ρ hj ⟨rfl, rfl, g1⟩ hrc
  unfold F_X7_cowsNow_11 E_X7_cowsNow_11
  rw [z1]
  by_cases c1 : 10 ≤ j
  · have ej : j = 10 := by omega
    subst ej
    refine it_p (nI_le (a := 10) c1 (by omega)) ⟨i14, ?_⟩
    rintro _ rfl
    exact g1.back hN _ (fun τ' k1 k2 k3 k4 k5 => h τ' k1 k2 k3 k5)
  · refine it_n (fun z => c1 ((nI_leI (a := 10) (by omega) (by omega)).mp z)) ⟨i14, ?_⟩
    rintro _ rfl
    have e0 : pt ρ 9 1 (nI j) 9 0 = σ 26 0 := by rw [pt_o _ _ (by decide), g1.2.1 0 (by decide)]; exact h9 0 (by omega)
    have e2 : pt ρ 9 1 (nI j) 9 2 = σ 26 2 := by rw [pt_o _ _ (by decide), g1.2.1 2 (by decide)]; exact h9 2 (by omega)
    refine g1.heard hN hB hm hm2 (nI j) (σ 26 0) (nI j) (σ 26 2) e0 (pt_s _ _ _ _) e2 _ (fun τ' k1 k2 k3 z => it_n (by decide) ?_) (fun τ' k1 k2 k3 z => it_p rfl ?_)
    · have z2 : fs j := (hfs j).mpr z
      rintro _ rfl
      rw [nI_1]
      exact hrc _ _ _ (by omega) ⟨(cwv_y z2).symm, rfl, k1⟩
    · have z2 : ¬ fs j := fun y => z ((hfs j).mp y)
      rw [nI_1]
      refine hrc _ _ _ (by omega) ⟨?_, rfl, k1⟩
      rw [cwv_n z2]
      exact Int32.or_zero
theorem op_cows {σ τ : Sg} (h : Rel σ τ) : w_X6_cows σ (fun r1 σ1 => w_X7_cows τ (fun r2 τ1 => r1 = r2 ∧ Rel σ1 τ1)) := by
  obtain ⟨N, P, d, B, kd, ok, hP, hB, hc, hn, hs, hT, _, _, fnd⟩ := vw h
  obtain ⟨nh, hm, hm2⟩ := mm_of h
  have hN := ok.1
  obtain ⟨fs, hfs⟩ : ∃ fs : Nat → Prop, ∀ v1, fs v1 ↔ hT0 σ nh N B P d kd (σ 26 0) (nI v1) := ⟨_, fun _ => Iff.rfl⟩
  refine s_cowsC σ nh N B P d kd hN hB hc hs hm fs hfs _ (fun σ' g1 => ?_)
  unfold w_X7_cows
  refine fnd _ (fun τ' a1 a2 a3 a4 a5 => ?_)
  exact s_cowsM σ τ' nh N B P d kd hN hB hm (hm2 τ' a4) a3 a5 fs hfs _ (fun τ2 k1 k2 k3 k4 => ⟨rfl, (a4.kp k1).ks (g1.mono (by decide))⟩)
-- lots
theorem shr16 (x : Int32) : (x.toUInt32 >>> ((16 : Int32).toUInt32 &&& Int32.toUInt32 31)).toInt32 = nI (x.toBitVec.toNat / 65536) := by
  have e := pk_ushr x 16 16 (by decide)
  have hx : x.toBitVec.toNat < 2 ^ 32 := x.toBitVec.isLt
  refine Int32.toBitVec_inj.mp (BitVec.eq_of_toNat_eq ?_)
  rw [e, pk_tn (by omega)]
def lotv (x : Int32) (m1 : Nat) : Nat := x.toBitVec.toNat / 65536 % m1
theorem lotv_lt {x : Int32} {m1 : Nat} (h : 0 < m1) : lotv x m1 < m1 := Nat.mod_lt _ h
theorem lot_g {u1 : Int32} {a1 m1 : Nat} (e : u1 = nI a1) (ha : a1 < 2 ^ 31) (h : 0 < m1) (h2 : m1 < 2 ^ 31) : u1 - u1 / nI m1 * nI m1 = nI (a1 % m1) := by
  subst e
  exact pk_rem ha h h2
theorem lotv_g {x u1 : Int32} {m1 : Nat} (e : u1 = nI (x.toBitVec.toNat / 65536)) (h : 0 < m1) (h2 : m1 < 2 ^ 31) : u1 - u1 / nI m1 * nI m1 = nI (lotv x m1) := by
  have hx : x.toBitVec.toNat < 2 ^ 32 := x.toBitVec.isLt
  exact lot_g e (by omega) h h2
def nxt (x : Int32) : Int32 := 1103515245 * x + 12345
def sdv (x : Int32) : Nat → Int32
  | 0 => x
  | n + 1 => nxt (nxt (sdv x n))
/-- the train of the n-th lot -/
def lv0 (x : Int32) (n : Nat) : Nat := lotv (nxt (sdv x n)) 100
def lv2 (x : Int32) (n : Nat) : Nat := lotv (sdv x (n + 1)) 19
theorem s_lotOf (x : Int32) (m1 : Nat) (h : 0 < m1) (h2 : m1 < 2 ^ 31) (K : Int32 → Prop) (hK : K (nI (lotv x m1))) : w_X6_lotOf x (nI m1) K := by
  unfold w_X6_lotOf
  refine it_n (nI_nle h h2) ⟨nI_ne0 h h2, ?_⟩
  rw [lotv_g (shr16 x) h h2]
  exact hK
theorem s_lot (τ : Sg) (m1 : Nat) (h : 0 < m1) (h2 : m1 < 2 ^ 31) (K : Int32 → Sg → Prop) (hK : K (nI (lotv (nxt (τ 0 21)) m1)) (pt τ 0 21 (nxt (τ 0 21)))) : w_X7_lot (nI m1) τ K := by
  unfold w_X7_lot
  rintro _ rfl
  refine ⟨nI_ne0 h h2, ?_⟩
  rw [pt_s, lotv_g (shr16 _) h h2]
  exact hK
