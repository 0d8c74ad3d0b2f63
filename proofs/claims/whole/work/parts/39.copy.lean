def okR (x y : Int32) (m1 : Nat) : Prop := ∃ a1 c1 : Nat, x = nI a1 ∧ y = nI c1 ∧ a1 + c1 ≤ m1
theorem s_run (σ : Sg) (k0 m1 : Nat) (hm : m1 ≤ 60) (e : σ k0 2 = nI m1) (x y : Int32) (K : Int32 → Prop) (h1 : okR x y m1 → K 1) (h0 : ¬ okR x y m1 → K 0) : w_X2_hasRun k0 x y σ K := by
  unfold w_X2_hasRun
  rw [e]
  refine it_c (fun c1 => h0 ?_) (fun c1 => it_c (fun c2 => h0 ?_) (fun c2 => ?_))
  · rintro ⟨a1, b1, rfl, rfl, z⟩
    exact nI_pos (by omega) c1
  · rintro ⟨a1, b1, rfl, rfl, z⟩
    exact nI_pos (by omega) c2
  · obtain ⟨a1, ha, rfl⟩ := nI_of c1
    obtain ⟨b1, hb, rfl⟩ := nI_of c2
    have iff : okR (nI a1) (nI b1) m1 ↔ a1 + b1 ≤ m1 := by
      constructor
      · rintro ⟨a2, b2, e1, e2, z⟩
        rw [nI_eq (by omega) (by omega)] at e1 e2
        omega
      · exact fun z => ⟨a1, b1, rfl, rfl, z⟩
    by_cases c3 : m1 < a1
    · exact it_p (nI_lt c3 ha) (h0 (fun z => by rw [iff] at z; omega))
    · refine it_n (fun z => c3 ((nI_ltI (by omega) (by omega)).mp z)) ?_
      rw [pk_sub (by omega)]
      by_cases c4 : m1 - a1 < b1
      · exact it_p (nI_lt c4 hb) (h0 (fun z => by rw [iff] at z; omega))
      · exact it_n (fun z => c4 ((nI_ltI (by omega) (by omega)).mp z)) (h1 (iff.mpr (by omega)))
theorem lgp (a b : Int64) : 0 < lg_cmp a b ↔ b < a := by
  unfold lg_cmp
  constructor
  · intro q
    split at q
    · assumption
    · split at q
      · exact absurd q (by decide)
      · exact absurd q (by decide)
  · intro q
    rw [if_pos q]
    decide
theorem lgn (a b : Int64) : lg_cmp a b ≤ 0 ↔ ¬ b < a := by
  rw [← lgp]
  exact ⟨fun z => i_nlt z, fun z => fa_of_nlt z⟩
theorem l_sm2 {a1 b1 m1 : Nat} (ha : a1 < 2 ^ 31) (hb : b1 < 2 ^ 31) (hm : m1 < 2 ^ 31) : (nI m1).toInt64 < (nI a1).toInt64 + (nI b1).toInt64 ↔ m1 < a1 + b1 := by
  rw [fa_lt64, Int64.toInt_add, Int32.toInt_toInt64, Int32.toInt_toInt64, Int32.toInt_toInt64, nI_toInt ha, nI_toInt hb, nI_toInt hm, Int.bmod_eq_of_le (by omega) (by omega)]
  omega
theorem op_copy {σ τ : Sg} (h : Rel σ τ) (x1 x2 x3 x4 x5 : Int32) : w_X6_copy x1 x2 x3 x4 x5 σ (fun r1 σ1 => w_X7_copy x1 x2 x3 x4 x5 τ (fun r2 τ1 => r1 = r2 ∧ Rel σ1 τ1)) := by
  unfold w_X6_copy w_X7_copy
  rcases ix_c x1 (n1 := 4) (by omega) with hx | ⟨s, hs, rfl⟩
  · exact cshN hx _ (it_n (by decide) (shtN hx _ (it_p rfl ⟨rfl, h⟩)))
  · refine cshY hs _ (it_p rfl ?_)
    rcases ix_c x3 (n1 := 4) (by omega) with hx | ⟨t, ht, rfl⟩
    · exact cshN hx _ (it_n (by decide) (shtY (by omega) _ (it_n (by decide) (shtN hx _ (it_p rfl ⟨rfl, h⟩)))))
    · have cs : (nI s).toNatClampNeg = s := nI_clamp (by omega)
      have ct : (nI t).toNatClampNeg = t := nI_clamp (by omega)
      have vs : vp_in (nI s) 4 := vp_in_nI (by omega) (by omega)
      have vt : vp_in (nI t) 4 := vp_in_nI (by omega) (by omega)
      refine cshY ht _ (it_p rfl ⟨vs, vt, ?_⟩)
      rw [cs, ct]
      unfold w_X2_isLost J_X6_copy_49 J_X6_copy_97 J_X7_copy_35 J_X7_copy_111
      obtain ⟨s1, s2⟩ := h.2.2.2.1 s hs
      obtain ⟨t1, t2⟩ := h.2.2.2.1 t ht
      rcases s2 with s2 | ⟨f1, m1, q1, q2, q3, q4, q5, q6⟩
      · refine it_p s2 (it_n (by decide) ?_)
        rintro _ rfl
        exact shtY (by omega) _ (it_n (by decide) (shtY (by omega) _ (it_n (by decide) ⟨vs, it_p (by rw [s1, s2]; decide) (finds_ h 1 _ (fun τ' r => ⟨rfl, r⟩))⟩)))
      · have ns : ¬ τ 1 s < 0 := by rw [s1, q3]; exact nI_pos (by omega)
        refine it_n (by rw [q3]; exact nI_m1 (by omega)) (it_p rfl ?_)
        rcases t2 with t2 | ⟨f2, m2, r1, r2, r3, r4, r5, r6⟩
        · refine it_p t2 (it_n (by decide) ?_)
          rintro _ rfl
          exact shtY (by omega) _ (it_n (by decide) (shtY (by omega) _ (it_n (by decide) ⟨vs, it_n ns ⟨vt, it_n (by rw [t1, t2]; decide) (finds_ h 1 _ (fun τ' r => ⟨rfl, r⟩))⟩⟩)))
        · have nt : (0 : Int32) ≤ τ 1 t := by rw [t1, r3]; exact nI_pos' (by omega)
          refine it_n (by rw [r3]; exact nI_m1 (by omega)) (it_p rfl ?_)
          refine it_c (fun c1 => ?_) (fun c1 => ?_)
          · have c1' : τ 1 s = τ 1 t := by rw [s1, t1]; exact c1
            have M0 : ∀ K : Int32 → Sg → Prop, ¬ (okR x2 x5 m1 ∧ okR x4 x5 m2) → w_X7_finds 2 τ K → w_X7_copy (nI s) x2 (nI t) x4 x5 τ K := by
              intro K nk hK
              refine shtY (by omega) _ (it_n (by decide) (shtY (by omega) _ (it_n (by decide) ⟨vs, it_n (by rw [cs]; exact ns) ⟨vt, it_p (by rw [ct]; exact nt) ⟨vs, vt, it_p (by rw [cs, ct]; exact c1') ?_⟩⟩⟩)))
              refine it_c (fun _ => hK) (fun d1 => it_c (fun _ => hK) (fun d2 => it_c (fun _ => hK) (fun d3 => ⟨vs, it_c (fun _ => hK) (fun d4 => ⟨vt, it_n (fun d5 => nk ?_) hK⟩)⟩)))
              obtain ⟨a1, ha, rfl⟩ := nI_of d1
              obtain ⟨b1, hb, rfl⟩ := nI_of d2
              obtain ⟨e1, he, rfl⟩ := nI_of d3
              rw [cs, q5, lgp, l_sm2 ha he (by omega)] at d4
              rw [ct, r5, lgn, l_sm2 hb he (by omega)] at d5
              exact ⟨⟨a1, e1, rfl, rfl, by omega⟩, ⟨b1, e1, rfl, rfl, by omega⟩⟩
            refine s_run σ _ m1 q2 q4 x2 x5 _ (fun o1 => it_n (by decide) (s_run σ _ m2 r2 r4 x4 x5 _ (fun o2 => it_n (by decide) ?_) (fun o2 => it_p rfl ?_))) (fun o1 => it_p rfl ?_)
            · obtain ⟨a1, e1, rfl, rfl, z1⟩ := o1
              obtain ⟨b1, e2, rfl, ee, z2⟩ := o2
              rw [nI_clamp (by omega), nI_clamp (by omega)]
              have : e2 = e1 := by
                have b0 : e1 < 2 ^ 31 := by omega
                have b9 : e2 < 2 ^ 31 := by omega
                rw [nI_eq b0 b9] at ee
                exact ee.symm
              subst this
              rw [nI_clamp (n := b1) (by omega)]
              refine ⟨⟨nI_pos (by omega), nI_pos (by omega), nI_pos (by omega), by omega, by omega⟩, ?_⟩
              rintro _ rfl
              refine shtY (by omega) _ (it_n (by decide) (shtY (by omega) _ (it_n (by decide) ⟨vs, it_n ns ⟨vt, it_p nt ⟨vs, vt, it_p c1' (it_n (nI_pos (by omega)) (it_n (nI_pos (by omega)) (it_n (nI_pos (by omega)) ⟨vs, it_n ?_ ⟨vt, it_p ?_ ?_⟩⟩)))⟩⟩⟩)))
              · rw [q5, lgp, l_sm2 (by omega) (by omega) (by omega)]
                omega
              · rw [r5, lgn, l_sm2 (by omega) (by omega) (by omega)]
                omega
              · refine up2 (fun j y ρ => y = nI j ∧ same [4] τ ρ ∧ ∀ i, i < j → ρ 4 i = τ 3 (60 * s + a1 + i)) e2 ?_ 0 _ _ (Nat.zero_le _) ⟨rfl, same.rf, fun i hi => by omega⟩
                rintro j rc _ ρ hj ⟨rfl, g1, g2⟩ hrc
                unfold F_X7_copy_120 E_X7_copy_120
                by_cases c3 : e2 ≤ j
                · refine it_p (nI_le c3 (by omega)) ?_
                  refine up2 (fun j y ρ2 => y = nI j ∧ same [3] ρ ρ2 ∧ (∀ i, i < j → ρ2 3 (60 * t + b1 + i) = ρ 4 i) ∧ ∀ q, q < 60 * t + b1 ∨ 60 * t + b1 + j ≤ q → ρ2 3 q = ρ 3 q) e2 ?_ 0 _ _ (Nat.zero_le _) ⟨rfl, same.rf, fun i hi => by omega, fun q _ => rfl⟩
                  rintro i rc2 _ ρ2 hi ⟨rfl, k1, k2, k3⟩ hrc2
                  unfold F_X7_copy_157 E_X7_copy_157
                  by_cases c4 : e2 ≤ i
                  · refine it_p (nI_le c4 (by omega)) ⟨rfl, ?_⟩
                    rw [show 33 + 2 * t + 1 = 34 + 2 * t by omega, show 33 + 2 * s + 1 = 34 + 2 * s by omega]
                    have g3 : ρ 3 = τ 3 := g1 3 (by decide)
                    refine h.sh t ht (same.rf.ptf (by simp)) ((g1.mono (by decide)).tr (k1.mono (by decide))) (fun q hq hq2 => ⟨?_, ?_, fun i1 hi1 => ?_⟩) ?_
                    · rw [k1 1 (by decide), g1 1 (by decide)]
                    · rw [k1 2 (by decide), g1 2 (by decide)]
                    · rw [k3 _ (by omega), g3]
                    · unfold relS1
                      rw [ptf_eq, ptf_ne _ _ (by omega), k1 1 (by decide), g1 1 (by decide), k1 2 (by decide), g1 2 (by decide)]
                      refine ⟨t1, Or.inr ⟨f2, m2, r1, r2, r3, r4, r5, fun i1 hi1 => ?_⟩⟩
                      unfold va_cpy
                      by_cases c5 : b1 ≤ i1 ∧ i1 < b1 + e2
                      · rw [if_pos c5, show 60 * t + i1 = 60 * t + b1 + (i1 - b1) by omega, k2 _ (by omega), g2 _ (by omega), show 60 * s + a1 + (i1 - b1) = 60 * s + (a1 + (i1 - b1)) by omega]
                        exact q6 _ (by omega)
                      · rw [if_neg c5, k3 _ (by omega), g3]
                        exact r6 i1 hi1
                  · refine it_n (fun z => c4 ((nI_leI (by omega) (by omega)).mp z)) ?_
                    simp (disch := omega) only [Nat.reduceAdd, fa_lit, nI_leI, nI_ltI, nI_eq, nI_add, pk_mul, pk_sub, pk_div, nI_clamp, c_vin, c_em1, c_m1e]
                    refine ⟨by omega, by omega, ?_⟩
                    rintro _ rfl
                    refine hrc2 _ _ (by omega) ⟨rfl, k1.pt (by decide), fun i1 hi1 => ?_, fun q hq => ?_⟩
                    · by_cases c5 : i1 = i
                      · subst c5
                        rw [pt_s, k1 4 (by decide)]
                      · rw [pt_o _ _ (by omega)]
                        exact k2 i1 (by omega)
                    · rw [pt_o _ _ (by omega)]
                      exact k3 q (by omega)
                · refine it_n (fun z => c3 ((nI_leI (by omega) (by omega)).mp z)) ?_
                  simp (disch := omega) only [Nat.reduceAdd, fa_lit, nI_leI, nI_ltI, nI_eq, nI_add, pk_mul, pk_sub, pk_div, nI_clamp, c_vin, c_em1, c_m1e]
                  refine ⟨by omega, by omega, ?_⟩
                  rintro _ rfl
                  refine hrc _ _ (by omega) ⟨rfl, g1.pt (by decide), fun i1 hi1 => ?_⟩
                  by_cases c5 : i1 = j
                  · subst c5
                    rw [pt_s, g1 3 (by decide)]
                  · rw [pt_o _ _ c5]
                    exact g2 i1 (by omega)
            · rintro _ rfl
              have q9 := M0 (fun r2 τ1 => -10 - 2 = r2 ∧ Rel (pt σ 0 11 2) τ1) (fun z => o2 z.2) (finds_ h 2 _ (fun τ' r => ⟨rfl, r⟩))
              unfold w_X7_copy J_X7_copy_35 J_X7_copy_111 at q9
              rw [cs, ct] at q9
              exact q9
            · rintro _ rfl
              have q9 := M0 (fun r2 τ1 => -10 - 2 = r2 ∧ Rel (pt σ 0 11 2) τ1) (fun z => o1 z.1) (finds_ h 2 _ (fun τ' r => ⟨rfl, r⟩))
              unfold w_X7_copy J_X7_copy_35 J_X7_copy_111 at q9
              rw [cs, ct] at q9
              exact q9
          · rintro _ rfl
            exact shtY (by omega) _ (it_n (by decide) (shtY (by omega) _ (it_n (by decide) ⟨vs, it_n ns ⟨vt, it_p nt ⟨vs, vt, it_n (by rw [s1, t1]; exact c1) (finds_ h 4 _ (fun τ' r => ⟨rfl, r⟩))⟩⟩⟩)))
