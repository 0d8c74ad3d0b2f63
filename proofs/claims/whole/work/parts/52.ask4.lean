theorem NT_0 {P : Nat → Int32} {d : Nat → Nat → Int32} {N k1 : Nat} {τ : Sg} (h : ntAt τ N P d k1) {q1 : Nat} {sm : Int32} {st : Nat} (hf : flk P d N k1 = some (q1, sm, st)) : og (NT P d N (τ 9 0) (τ 9 1) (τ 9 2) 0 k1) = τ 13 k1 := by
  rw [h.2 q1 sm st hf]
  unfold NT
  rw [hf]
  show wh (τ 9 0) (τ 9 1) (τ 9 2) (P q1) + (sm + wsg P (d 1) q1) - d 2 k1 * nI 0 = _
  rw [nI_0]
  grind
theorem NT_none {P : Nat → Int32} {d : Nat → Nat → Int32} {N k1 : Nat} {v e w : Int32} (hf : flk P d N k1 = none) : og (NT P d N v e w 0 k1) = -10000 := by
  unfold NT
  rw [hf]
  rfl
