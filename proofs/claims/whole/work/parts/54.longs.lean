theorem L_toInt {n : Nat} (h : n < 2 ^ 63) : (lN n).toInt = (n : Int) := lg_ofNat_toInt (by omega)
theorem L_eq {a1 b1 : Nat} (ha : a1 < 2 ^ 63) (hb : b1 < 2 ^ 63) : lN a1 = lN b1 ↔ a1 = b1 := by
  rw [fa_eq64, L_toInt ha, L_toInt hb]
  omega
theorem L_div {a1 b1 : Nat} (ha : a1 < 2 ^ 63) (hb : b1 < 2 ^ 63) : lN a1 / lN b1 = lN (a1 / b1) := by
  have hd : a1 / b1 ≤ a1 := Nat.div_le_self _ _
  rw [fa_eq64, Int64.toInt_div, L_toInt ha, L_toInt hb, L_toInt (by omega), ← Int.ofNat_tdiv]
  generalize a1 / b1 = q1 at hd
  exact Int.bmod_eq_of_le (by omega) (by omega)
theorem L_rem {a1 b1 : Nat} (ha : a1 < 2 ^ 63) (hb : b1 < 2 ^ 63) : lN a1 - lN a1 / lN b1 * lN b1 = lN (a1 % b1) := by
  have hd : a1 / b1 * b1 ≤ a1 := Nat.div_mul_le_self _ _
  rw [L_div ha hb, lN_mul, lN_sub hd]
  congr 1
  have := Nat.div_add_mod a1 b1
  rw [Nat.mul_comm b1] at this
  omega
