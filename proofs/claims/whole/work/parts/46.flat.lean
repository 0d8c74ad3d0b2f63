theorem i_canc {a b x y : Int32} (h : a + x - y = b + x - y) : a = b := by grind
theorem NT_flat {P : Nat → Int32} {d : Nat → Nat → Int32} {N k1 r1 : Nat} {v e w : Int32} (hp : okP N P) (ht : okT v e w) (hk : k1 < N) {a1 b1 c1 : Nat} (h1 : a1 ≤ b1) (h2 : b1 ≤ c1) (hc : c1 < 100) (h : og (NT P d N (nI a1) e w r1 k1) = og (NT P d N (nI c1) e w r1 k1)) : og (NT P d N (nI b1) e w r1 k1) = og (NT P d N (nI a1) e w r1 k1) := by
  obtain ⟨_, ⟨e1, he, rfl⟩, w1, hw, rfl⟩ := ht
  unfold NT at h ⊢
  cases hf : flk P d N k1 with
  | none => rfl
  | some r =>
    obtain ⟨q1, sm, st⟩ := r
    rw [hf] at h
    have hq := (fol_path hk hf).2.2.2.1
    obtain ⟨p1, hp9, ep⟩ := hp q1 hq
    have h3 : wh (nI a1) (nI e1) (nI w1) (P q1) = wh (nI c1) (nI e1) (nI w1) (P q1) := i_canc h
    show wh (nI b1) (nI e1) (nI w1) (P q1) + (sm + wsg P (d 1) q1) - d 2 k1 * nI r1 = wh (nI a1) (nI e1) (nI w1) (P q1) + (sm + wsg P (d 1) q1) - d 2 k1 * nI r1
    rw [ep] at h3 ⊢
    obtain ⟨ea, la⟩ := wh_N (v := a1) (by omega) he hw hp9
    obtain ⟨eb, lb⟩ := wh_N (v := b1) (by omega) he hw hp9
    obtain ⟨ec, lc⟩ := wh_N (v := c1) (by omega) he hw hp9
    rw [ea, ec, nI_eq (by omega) (by omega)] at h3
    rw [ea, eb]
    have := wh_flat (q1 := p1 + e1) (by omega) h1 h2 hc (by omega)
    rw [this]
