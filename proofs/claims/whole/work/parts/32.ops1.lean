theorem inY {k1 m1 : Nat} (h : k1 ≤ m1) (hm : m1 < 2 ^ 31) {hi : Int64} (hh : (nI m1).toInt64 = hi) (K : Int32 → Prop) (hK : K 1) : w_X7_in (nI k1).toInt64 0 hi K :=
  s_in (l := 0) (h := nI m1) (by decide) hh K (fun _ _ => hK) (fun c1 => absurd ⟨nI_pos' (by omega), nI_le h hm⟩ c1)
theorem inN {x : Int32} {m1 : Nat} (h : x < 0 ∨ nI (m1 + 1) ≤ x) (hm : m1 + 1 < 2 ^ 31) {hi : Int64} (hh : (nI m1).toInt64 = hi) (K : Int32 → Prop) (hK : K 0) : w_X7_in x.toInt64 0 hi K :=
  s_in (l := 0) (h := nI m1) (by decide) hh K (fun c1 c2 => by
    rcases h with h | h
    · exact absurd c1 (i_nle h)
    · have := nI_lt (a := m1) (b := m1 + 1) (by omega) hm
      rw [fa_le] at c2 h
      rw [fa_lt] at this
      omega) (fun _ => hK)
theorem twoY {k1 : Nat} (h : k1 ≤ 1) (K : Int32 → Prop) (hK : K 1) : w_X7_isTwo (nI k1) K := inY h (by omega) (by decide) _ ⟨Or.inr rfl, hK⟩
theorem twoN {x : Int32} (h : x < 0 ∨ nI 2 ≤ x) (K : Int32 → Prop) (hK : K 0) : w_X7_isTwo x K := inN (m1 := 1) h (by omega) (by decide) _ ⟨Or.inl rfl, hK⟩
theorem shtY {k1 : Nat} (h : k1 ≤ 3) (K : Int32 → Prop) (hK : K 1) : w_X7_isSheet (nI k1) K := inY h (by omega) (by decide) _ ⟨Or.inr rfl, hK⟩
theorem shtN {x : Int32} (h : x < 0 ∨ nI 4 ≤ x) (K : Int32 → Prop) (hK : K 0) : w_X7_isSheet x K := inN (m1 := 3) h (by omega) (by decide) _ ⟨Or.inl rfl, hK⟩
theorem idxN {x : Int32} {n1 : Nat} (h : x < 0 ∨ nI n1 ≤ x) (hn : n1 < 2 ^ 31) {hi : Int64} (hh : (nI n1 - 1).toInt64 = hi) (K : Int32 → Prop) (hK : K 0) : w_X7_in x.toInt64 0 hi K := by
  cases n1 with
  | zero =>
    refine s_in (l := 0) (h := nI 0 - 1) (by decide) hh K (fun c1 c2 => ?_) (fun _ => hK)
    rw [fa_le] at c1 c2
    have e1 : (0 : Int32).toInt = 0 := by decide
    have e2 : (nI 0 - 1).toInt = -1 := by decide
    omega
  | succ n1 =>
    rw [nI_pred] at hh
    exact inN h hn hh K hK
theorem idxY {k1 n1 : Nat} (h : k1 < n1) (hn : n1 < 2 ^ 31) {hi : Int64} (hh : (nI n1 - 1).toInt64 = hi) (K : Int32 → Prop) (hK : K 1) : w_X7_in (nI k1).toInt64 0 hi K := by
  cases n1 with
  | zero => omega
  | succ n1 =>
    rw [nI_pred] at hh
    exact inY (by omega) (by omega) hh K hK
theorem sngY {τ : Sg} {N k1 : Nat} (hN : N ≤ 8) (e : τ 0 7 = nI N) (hk : k1 < N) (K : Int32 → Prop) (hK : K 1) : w_X7_isSinger (nI k1) τ K := by
  unfold w_X7_isSinger
  rw [e]
  exact idxY hk (by omega) rfl _ ⟨Or.inr rfl, hK⟩
theorem sngN {τ : Sg} {N : Nat} {x : Int32} (hN : N ≤ 8) (e : τ 0 7 = nI N) (h : x < 0 ∨ nI N ≤ x) (K : Int32 → Prop) (hK : K 0) : w_X7_isSinger x τ K := by
  unfold w_X7_isSinger
  rw [e]
  exact idxN h (by omega) rfl _ ⟨Or.inl rfl, hK⟩
theorem barY {τ : Sg} {B b1 : Nat} (hB : B ≤ 24) (e : τ 0 9 = nI B) (hb : b1 < B) (K : Int32 → Prop) (hK : K 1) : w_X7_isBar (nI b1) τ K := by
  unfold w_X7_isBar
  rw [e]
  exact idxY hb (by omega) rfl _ ⟨Or.inr rfl, hK⟩
theorem barN {τ : Sg} {B : Nat} {x : Int32} (hB : B ≤ 24) (e : τ 0 9 = nI B) (h : x < 0 ∨ nI B ≤ x) (K : Int32 → Prop) (hK : K 0) : w_X7_isBar x τ K := by
  unfold w_X7_isBar
  rw [e]
  exact idxN h (by omega) rfl _ ⟨Or.inl rfl, hK⟩
-- the class's own tests of an index
theorem csgY {σ : Sg} {N k1 : Nat} (hN : N ≤ 8) (e : σ 5 0 = nI N) (hk : k1 < N) (K : Int32 → Prop) (hK : K 0) : w_X6_isNoSinger (nI k1) σ K := by
  unfold w_X6_isNoSinger
  rw [e]
  exact it_n (nI_pos (by omega)) (it_p (nI_lt hk (by omega)) hK)
theorem csgN {σ : Sg} {N : Nat} {x : Int32} (e : σ 5 0 = nI N) (h : x < 0 ∨ nI N ≤ x) (K : Int32 → Prop) (hK : K 1) : w_X6_isNoSinger x σ K := by
  unfold w_X6_isNoSinger
  rw [e]
  refine it_c (fun _ => hK) (fun c1 => it_n (fun c2 => ?_) hK)
  rcases h with h | h
  · exact c1 h
  · exact i_nle c2 h
theorem cbrY {σ : Sg} {B b1 : Nat} (hB : B ≤ 24) (e : σ 23 0 = nI B) (hk : b1 < B) (K : Int32 → Prop) (hK : K 0) : w_X6_isNoBar (nI b1) σ K := by
  unfold w_X6_isNoBar
  rw [e]
  exact it_n (nI_pos (by omega)) (it_p (nI_lt hk (by omega)) hK)
theorem cbrN {σ : Sg} {B : Nat} {x : Int32} (e : σ 23 0 = nI B) (h : x < 0 ∨ nI B ≤ x) (K : Int32 → Prop) (hK : K 1) : w_X6_isNoBar x σ K := by
  unfold w_X6_isNoBar
  rw [e]
  refine it_c (fun _ => hK) (fun c1 => it_n (fun c2 => ?_) hK)
  rcases h with h | h
  · exact c1 h
  · exact i_nle c2 h
theorem two_c {x : Int32} : (x < 0 ∨ nI 2 ≤ x) ∨ x = nI 0 ∨ x = nI 1 := by
  rcases pk_ix x (n := 2) (by omega) with h | h | ⟨j, hj, rfl⟩
  · exact Or.inl (Or.inl h)
  · exact Or.inl (Or.inr h)
  · rcases (show j = 0 ∨ j = 1 by omega) with rfl | rfl
    · exact Or.inr (Or.inl rfl)
    · exact Or.inr (Or.inr rfl)
theorem ix_c (x : Int32) {n1 : Nat} (hn : n1 < 2 ^ 31) : (x < 0 ∨ nI n1 ≤ x) ∨ ∃ j : Nat, j < n1 ∧ x = nI j := by
  rcases pk_ix x hn with h | h | h
  · exact Or.inl (Or.inl h)
  · exact Or.inl (Or.inr h)
  · exact Or.inr h
theorem ntxN {x : Int32} (h : x < 0 ∨ nI 2 ≤ x) (K : Int32 → Prop) (hK : K 1) : w_X6_isNoText x K := by
  unfold w_X6_isNoText
  refine it_c (fun _ => hK) (fun c1 => it_n (fun c2 => ?_) hK)
  rcases h with h | h
  · exact c1 h
  · have e1 : (nI 2).toInt = 2 := by decide
    have e2 : (1 : Int32).toInt = 1 := by decide
    rw [fa_le] at c2 h
    omega
theorem nchN {x : Int32} (h : x < 0 ∨ nI 2 ≤ x) (K : Int32 → Prop) (hK : K 1) : w_X6_isNoChoice x K := ntxN h K hK
theorem ntxY {k1 : Nat} (h : k1 ≤ 1) (K : Int32 → Prop) (hK : K 0) : w_X6_isNoText (nI k1) K := by
  unfold w_X6_isNoText
  exact it_n (nI_pos (by omega)) (it_p (nI_le (b := 1) h (by omega)) hK)
theorem nchY {k1 : Nat} (h : k1 ≤ 1) (K : Int32 → Prop) (hK : K 0) : w_X6_isNoChoice (nI k1) K := ntxY h K hK
/-- all but the texts and what is read of them -/
def oth (σ τ : Sg) : Prop := relV σ τ ∧ relH σ τ ∧ (∀ s, s < 4 → relS1 σ τ s) ∧ σ 0 11 = τ 0 4
theorem oth.mv {σ σ' τ τ' : Sg} (h : oth σ τ) (h1 : same [1, 2, 3, 4, 5, 6, 7, 8, 9, 10, 11, 12, 13, 23, 24, 25] σ σ') (h2 : same [5, 6] τ τ') : oth σ' τ' := by
  obtain ⟨a1, a2, a3, a4⟩ := h
  refine ⟨?_, ?_, fun s hs => ?_, ?_⟩
  · unfold relV
    rw [h1 26 (by decide), h2 9 (by decide)]
    exact a1
  · unfold relH
    rw [h1 28 (by decide), h1 29 (by decide), h1 30 (by decide), h1 31 (by decide), h2 0 (by decide), h2 16 (by decide)]
    exact a2
  · have q1 : σ' (33 + 2 * s) = σ (33 + 2 * s) := h1 _ (by simp; omega)
    have q2 : σ' (34 + 2 * s) = σ (34 + 2 * s) := h1 _ (by simp; omega)
    unfold relS1
    rw [q1, q2, h2 1 (by decide), h2 2 (by decide), h2 3 (by decide)]
    exact a3 s hs
  · rw [h1 0 (by decide), h2 0 (by decide)]
    exact a4
/-- text 0 has changed and is read anew -/
theorem re_0 {σ σ1 τ τ' : Sg} {n0 n1 : Nat} (ho : oth σ τ) (hp : relP σ n0 n1) (m0 : Nat) (hs : same [1, 2] σ σ1) (hs2 : same [5, 6] τ τ') (ht : relT σ1 τ' m0 n1) (K : Sg → Prop) (h : ∀ σ', σ' 1 = σ1 1 → Rel σ' τ' → K σ') : w_X0_parse 5 1 σ1 K := by
  refine s_parseS σ1 m0 ht.1 ht.2.2.2.2.1 K (fun σ' g1 g2 g3 g4 => ?_)
  refine h σ' (g1 1 (by decide)) ⟨⟨m0, n1, ?_, ?_⟩, ?_⟩
  · unfold relT
    rw [g1 1 (by decide), g1 2 (by decide), g1 3 (by decide), g1 4 (by decide)]
    exact ht
  · unfold relP
    rw [g1 2 (by decide), g1 4 (by decide)]
    refine ⟨⟨g2, g4⟩, g3, ?_⟩
    have := hp.2.2
    unfold soIs at this ⊢
    rw [g1 23 (by decide), g1 24 (by decide), g1 25 (by decide), hs 23 (by decide), hs 24 (by decide), hs 25 (by decide), hs 4 (by decide)]
    exact this
  · exact ho.mv ((hs.mono (by decide)).tr (g1.mono (by decide))) hs2
theorem re_1 {σ σ1 τ τ' : Sg} {n0 n1 : Nat} (ho : oth σ τ) (hp : relP σ n0 n1) (m1 : Nat) (hs : same [3, 4] σ σ1) (hs2 : same [5, 6] τ τ') (ht : relT σ1 τ' n0 m1) (K : Sg → Prop) (h : ∀ σ', σ' 3 = σ1 3 → Rel σ' τ' → K σ') : w_X3_parse 23 3 σ1 K := by
  refine s_parseB σ1 m1 ht.2.1 ht.2.2.2.2.2.1 K (fun σ' g1 g2 => ?_)
  refine h σ' (g1 3 (by decide)) ⟨⟨n0, m1, ?_, ?_⟩, ?_⟩
  · unfold relT
    rw [g1 1 (by decide), g1 2 (by decide), g1 3 (by decide), g1 4 (by decide)]
    exact ht
  · have := hp
    unfold relP clIs chIs lkAt nbIs at this ⊢
    rw [g1 2 (by decide), g1 4 (by decide), g1 5 (by decide), g1 (5 + 1) (by decide), g1 (5 + 2) (by decide), g1 (5 + 3) (by decide), g1 (5 + 4) (by decide), g1 (5 + 5) (by decide), g1 (5 + 6) (by decide), g1 (5 + 7) (by decide), g1 (5 + 8) (by decide)]
    rw [hs 2 (by decide), hs 5 (by decide), hs (5 + 1) (by decide), hs (5 + 2) (by decide), hs (5 + 3) (by decide), hs (5 + 4) (by decide), hs (5 + 5) (by decide), hs (5 + 6) (by decide), hs (5 + 7) (by decide), hs (5 + 8) (by decide)]
    exact ⟨this.1, this.2.1, g2⟩
  · exact ho.mv ((hs.mono (by decide)).tr (g1.mono (by decide))) hs2
theorem op_type {σ τ : Sg} (h : Rel σ τ) (x1 x2 : Int32) : w_X6_type x1 x2 σ (fun r1 σ1 => w_X7_type x1 x2 τ (fun r2 τ1 => r1 = r2 ∧ Rel σ1 τ1)) := by
  have hR := h
  obtain ⟨⟨n0, n1, ht, hp⟩, ho⟩ := h
  obtain ⟨t1, t2, t3, t4, t5, t6, t7, t8, t9, t10⟩ := ht
  unfold w_X6_type
  rcases two_c (x := x1) with hx | hx
  · refine ntxN hx _ (it_n (by decide) ?_)
    exact twoN hx _ (it_p rfl ⟨rfl, hR⟩)
  · have ht2 : ∃ k1 : Nat, k1 ≤ 1 ∧ x1 = nI k1 := by
      rcases hx with rfl | rfl
      · exact ⟨0, by omega, rfl⟩
      · exact ⟨1, by omega, rfl⟩
    rcases ix_c x2 (n1 := 256) (by omega) with hy | ⟨y1, hy1, rfl⟩
    · have key : w_X7_type x1 x2 τ (fun r2 τ1 => -2 = r2 ∧ Rel σ τ1) := by
        obtain ⟨k1, hk1, rfl⟩ := ht2
        exact twoY hk1 _ (it_n (by decide) (inN (m1 := 255) hy (by omega) (by decide) _ (it_p rfl ⟨rfl, hR⟩)))
      obtain ⟨k1, hk1, rfl⟩ := ht2
      refine ntxY hk1 _ (it_p rfl (it_c (fun _ => key) (fun c1 => it_n (fun c2 => ?_) key)))
      rcases hy with hy | hy
      · exact c1 hy
      · have e1 : (nI 256).toInt = 256 := by decide
        have e2 : (255 : Int32).toInt = 255 := by decide
        rw [fa_le] at c2 hy
        omega
    · rcases hx with rfl | rfl
      · refine ntxY (by omega) _ (it_p rfl (it_n (nI_pos (by omega)) (it_p (nI_le (b := 255) (by omega) (by omega)) ?_)))
        refine it_p rfl ?_
        unfold w_X4_isFull
        dsimp only
        rw [t3, t5]
        have M : ∀ K : Int32 → Sg → Prop, (n0 = 39 → K (-4) τ) → (n0 < 39 → K (nI (n0 + 1)) (pt (pt τ 5 n0 (nI y1)) 6 0 (nI (n0 + 1)))) → w_X7_type (nI 0) (nI y1) τ K := by
          intro K k1 k2
          refine twoY (by omega) _ (it_n (by decide) (inY (m1 := 255) (by omega) (by omega) (by decide) _ (it_n (by decide) ⟨vp_in_nI (by omega) (by omega), it_p rfl ?_⟩)))
          unfold J_X7_type_39
          simp (disch := omega) only [Nat.reduceAdd, fa_lit, nI_leI, nI_ltI, nI_eq, nI_add, pk_mul, pk_sub, pk_div, nI_clamp, c_vin, c_em1, c_m1e, t7]
          refine it_c (fun c1 => k1 c1) (fun c1 => ⟨by omega, by omega, ?_⟩)
          rintro _ rfl
          refine ⟨by omega, by omega, ?_⟩
          rw [pt_ne _ _ _ (by decide), t7]
          simp (disch := omega) only [Nat.reduceAdd, fa_lit, nI_leI, nI_ltI, nI_eq, nI_add, pk_mul, pk_sub, pk_div, nI_clamp, c_vin, c_em1, c_m1e]
          rintro _ rfl
          refine ⟨by omega, ?_⟩
          rw [pt_s, show 40 * 0 + n0 = n0 by omega]
          exact k2 (by omega)
        by_cases c1 : n0 < 39
        · refine it_p (nI_lt c1 (by omega)) (it_p rfl ?_)
          unfold w_X4_append w_X4_isFull
          rw [t3, t5]
          refine it_p (nI_lt c1 (by omega)) (it_p rfl ⟨vp_in_nI (by omega) (by omega), ?_⟩)
          rw [nI_clamp (by omega)]
          rintro _ rfl _ rfl
          rw [pt_ne _ _ _ (by decide), t5, nI_1]
          unfold w_X6_parse
          refine it_p rfl (re_0 (τ' := pt (pt τ 5 n0 (nI y1)) 6 0 (nI (n0 + 1))) ho hp (n0 + 1) ((same.rf.pt (by decide)).pt (by decide)) ((same.rf.pt (by decide)).pt (by decide)) ?_ _ (fun σ' q1 q2 => ?_))
          · refine ⟨by omega, t2, ?_, ?_, ?_, ?_, ?_, ?_, ?_, ?_⟩
            · rw [pt_o _ _ (by decide), pt_ne _ _ _ (by decide)]
              exact t3
            · rw [pt_ne _ _ _ (by decide), pt_ne _ _ _ (by decide)]
              exact t4
            · exact pt_s _ _ _ _
            · rw [pt_ne _ _ _ (by decide), pt_ne _ _ _ (by decide)]
              exact t6
            · exact pt_s _ _ _ _
            · rw [pt_o _ _ (by decide), pt_ne _ _ _ (by decide)]
              exact t8
            · intro i hi
              rw [show (1 + 1 : Nat) = 2 from rfl, pt_ne (pt τ 5 n0 (nI y1)) _ _ (by decide), pt_ne (pt σ 2 n0 (nI y1)) _ _ (by decide)]
              by_cases e : i = n0
              · subst e
                rw [pt_s, pt_s]
              · rw [pt_o _ _ e, pt_o _ _ e]
                exact t9 i (by omega)
            · intro i hi
              rw [pt_ne _ _ _ (by decide), pt_o _ _ (by omega), pt_ne _ _ _ (by decide), pt_ne _ _ _ (by decide)]
              exact t10 i hi
          · refine M _ (fun z => by omega) (fun _ => ⟨?_, q2⟩)
            rw [q1, pt_s]
        · refine it_n (fun z => c1 ((nI_ltI (by omega) (by omega)).mp z)) (it_n (by decide) ?_)
          exact M _ (fun _ => ⟨rfl, hR⟩) (fun z => absurd z c1)
      · refine ntxY (by omega) _ (it_p rfl (it_n (nI_pos (by omega)) (it_p (nI_le (b := 255) (by omega) (by omega)) ?_)))
        refine it_n (by decide) ?_
        unfold w_X4_isFull
        dsimp only
        rw [t4, t6]
        have M : ∀ K : Int32 → Sg → Prop, (n1 = 24 → K (-4) τ) → (n1 < 24 → K (nI (n1 + 1)) (pt (pt τ 5 (40 + n1) (nI y1)) 6 1 (nI (n1 + 1)))) → w_X7_type (nI 1) (nI y1) τ K := by
          intro K k1 k2
          refine twoY (by omega) _ (it_n (by decide) (inY (m1 := 255) (by omega) (by omega) (by decide) _ (it_n (by decide) ⟨vp_in_nI (by omega) (by omega), it_n (by decide) ?_⟩)))
          unfold J_X7_type_39
          simp (disch := omega) only [Nat.reduceAdd, fa_lit, nI_leI, nI_ltI, nI_eq, nI_add, pk_mul, pk_sub, pk_div, nI_clamp, c_vin, c_em1, c_m1e, t8]
          refine it_c (fun c1 => k1 c1) (fun c1 => ⟨by omega, by omega, ?_⟩)
          rintro _ rfl
          refine ⟨by omega, by omega, ?_⟩
          rw [pt_ne _ _ _ (by decide), t8]
          simp (disch := omega) only [Nat.reduceAdd, fa_lit, nI_leI, nI_ltI, nI_eq, nI_add, pk_mul, pk_sub, pk_div, nI_clamp, c_vin, c_em1, c_m1e]
          rintro _ rfl
          refine ⟨by omega, ?_⟩
          rw [pt_s, show 40 * 1 + n1 = 40 + n1 by omega]
          exact k2 (by omega)
        by_cases c1 : n1 < 24
        · refine it_p (nI_lt c1 (by omega)) (it_p rfl ?_)
          unfold w_X4_append w_X4_isFull
          rw [t4, t6]
          refine it_p (nI_lt c1 (by omega)) (it_p rfl ⟨vp_in_nI (by omega) (by omega), ?_⟩)
          rw [nI_clamp (by omega)]
          rintro _ rfl _ rfl
          rw [pt_ne _ _ _ (by decide), t6, nI_1]
          unfold w_X6_parse
          refine it_n (by decide) (re_1 (τ' := pt (pt τ 5 (40 + n1) (nI y1)) 6 1 (nI (n1 + 1))) ho hp (n1 + 1) ((same.rf.pt (by decide)).pt (by decide)) ((same.rf.pt (by decide)).pt (by decide)) ?_ _ (fun σ' q1 q2 => ?_))
          · refine ⟨t1, by omega, ?_, ?_, ?_, ?_, ?_, ?_, ?_, ?_⟩
            · rw [pt_ne _ _ _ (by decide), pt_ne _ _ _ (by decide)]
              exact t3
            · rw [pt_o _ _ (by decide), pt_ne _ _ _ (by decide)]
              exact t4
            · rw [pt_ne _ _ _ (by decide), pt_ne _ _ _ (by decide)]
              exact t5
            · exact pt_s _ _ _ _
            · rw [pt_o _ _ (by decide), pt_ne _ _ _ (by decide)]
              exact t7
            · exact pt_s _ _ _ _
            · intro i hi
              rw [pt_ne _ _ _ (by decide), pt_o _ _ (by omega), pt_ne _ _ _ (by decide), pt_ne _ _ _ (by decide)]
              exact t9 i hi
            · intro i hi
              rw [show (3 + 1 : Nat) = 4 from rfl, pt_ne (pt τ 5 (40 + n1) (nI y1)) _ _ (by decide), pt_ne (pt σ 4 n1 (nI y1)) _ _ (by decide)]
              by_cases e : i = n1
              · subst e
                rw [pt_s, pt_s]
              · rw [pt_o _ _ e, pt_o _ _ (by omega)]
                exact t10 i (by omega)
          · refine M _ (fun z => by omega) (fun _ => ⟨?_, q2⟩)
            rw [q1, pt_s]
        · refine it_n (fun z => c1 ((nI_ltI (by omega) (by omega)).mp z)) (it_n (by decide) ?_)
          exact M _ (fun _ => ⟨rfl, hR⟩) (fun z => absurd z c1)
