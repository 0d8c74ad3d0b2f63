def cutv (f1 : Nat) (x : Int32) : Int32 := if f1 = 0 then x.toInt8.toInt32 else if f1 = 1 then x.toInt16.toInt32 else x
theorem s_cut (f1 : Nat) (hf : f1 < 3) (x : Int32) (K : Int32 → Prop) (h : K (cutv f1 x)) : w_X7_cut (nI f1) x K := by
  rcases (show f1 = 0 ∨ f1 = 1 ∨ f1 = 2 by omega) with rfl | rfl | rfl
  · exact it_p rfl h
  · exact it_n (by decide) (it_p rfl h)
  · exact it_n (by decide) (it_n (by decide) h)
theorem s_put (σ : Sg) (k0 i m1 f1 : Nat) (hi : i < m1) (hm : m1 ≤ 60) (hf : f1 < 3) (e1 : σ k0 1 = nI f1) (e2 : σ k0 2 = nI m1) (x : Int32) (K : Sg → Prop) (h : K (pt σ (k0 + 1) i (cutv f1 x))) : w_X2_put k0 (nI i) x σ K := by
  unfold w_X2_put
  rw [e1, e2, nI_clamp (by omega)]
  have vi : vp_in (nI i) 60 := vp_in_nI (by omega) (by omega)
  refine it_n (nI_pos (by omega)) (it_n (i_nle (nI_lt hi (by omega))) ?_)
  rcases (show f1 = 0 ∨ f1 = 1 ∨ f1 = 2 by omega) with rfl | rfl | rfl
  · refine it_p rfl ⟨vi, ?_⟩
    rintro _ rfl
    exact h
  · refine it_n (by decide) (it_p rfl ⟨vi, ?_⟩)
    rintro _ rfl
    exact h
  · refine it_n (by decide) (it_n (by decide) ⟨vi, ?_⟩)
    rintro _ rfl
    exact h
theorem Rel.put {σ τ : Sg} (h : Rel σ τ) (s i : Nat) (hs : s < 4) (hi : i < 60) (v1 : Int32) : Rel (pt σ (33 + 2 * s + 1) i v1) (pt τ 3 (60 * s + i) v1) := by
  rw [show 33 + 2 * s + 1 = 34 + 2 * s by omega]
  refine h.sh s hs (same.rf.pt (by simp)) (same.rf.pt (by decide)) (fun q hq hq2 => ⟨?_, ?_, fun i1 hi1 => pt_o _ _ (by omega)⟩) ?_
  · rw [pt_ne τ _ _ (by decide)]
  · rw [pt_ne τ _ _ (by decide)]
  · unfold relS1
    rw [pt_ne τ _ _ (by decide), pt_ne τ _ _ (by decide), pt_ne σ _ _ (by omega)]
    obtain ⟨a1, a2⟩ := h.2.2.2.1 s hs
    refine ⟨a1, a2.imp id ?_⟩
    rintro ⟨f1, m1, q1, q2, q3, q4, q5, q6⟩
    refine ⟨f1, m1, q1, q2, q3, q4, q5, fun i1 hi1 => ?_⟩
    by_cases c1 : i1 = i
    · subst c1
      rw [pt_s, pt_s]
    · rw [pt_o _ _ (by omega), pt_o _ _ c1]
      exact q6 i1 hi1
theorem itm {σ τ : Sg} (h : Rel σ τ) (s : Nat) (hs : s < 4) (x2 x3 : Int32) : (∃ e : Int32, (e = 1 ∨ e = 2 ∨ e = 3) ∧ (∀ K : Int32 → Prop, K e → w_X6_findingOfItem (33 + 2 * s) x2 x3 σ K) ∧ ∀ K : Int32 → Sg → Prop, K (-10 - e) (pt τ 0 4 e) → w_X7_lacks (nI s) x2 x3 τ K) ∨ ∃ i m1 f1 : Nat, i < m1 ∧ m1 ≤ 60 ∧ f1 < 3 ∧ x3 = nI i ∧ x2 = nI f1 ∧ σ (33 + 2 * s) 1 = nI f1 ∧ σ (33 + 2 * s) 2 = nI m1 ∧ (∀ i, i < m1 → τ 3 (60 * s + i) = σ (34 + 2 * s) i) ∧ (∀ K : Int32 → Prop, K 0 → w_X6_findingOfItem (33 + 2 * s) x2 x3 σ K) ∧ ∀ K : Int32 → Sg → Prop, K 0 τ → w_X7_lacks (nI s) x2 x3 τ K := by
  have cs : (nI s).toNatClampNeg = s := nI_clamp (by omega)
  have vs : vp_in (nI s) 4 := vp_in_nI (by omega) (by omega)
  obtain ⟨s1, s2⟩ := h.2.2.2.1 s hs
  unfold w_X6_findingOfItem w_X2_isLost w_X7_lacks
  rw [cs]
  rcases s2 with s2 | ⟨f1, m1, q1, q2, q3, q4, q5, q6⟩
  · refine Or.inl ⟨1, Or.inl rfl, fun K hK => it_p s2 (it_n (by decide) hK), fun K hK => ⟨vs, it_n (by rw [s1, s2]; decide) ?_⟩⟩
    rintro _ rfl
    exact hK
  · have nl : ¬ σ (33 + 2 * s) 1 = -1 := by rw [q3]; exact nI_m1 (by omega)
    have pl : (0 : Int32) ≤ τ 1 s := by rw [s1, q3]; exact nI_pos' (by omega)
    by_cases c1 : σ (33 + 2 * s) 1 = x2
    · have c1' : τ 1 s = x2 := s1.trans c1
      rcases ix_c x3 (n1 := m1) (by omega) with hx | ⟨i, hi, rfl⟩
      · refine Or.inl ⟨2, Or.inr (Or.inl rfl), fun K hK => it_n nl (it_p rfl (it_p c1 (it_c (fun _ => hK) (fun c2 => it_n (fun c3 => ?_) hK)))), fun K hK => ⟨vs, it_p pl ⟨vs, it_p c1' ⟨vs, ?_⟩⟩⟩⟩
        · rw [q4] at c3
          rcases hx with hx | hx
          · exact c2 hx
          · exact i_nle c3 hx
        · rw [q5]
          refine idxN hx (by omega) rfl _ (it_p rfl ?_)
          rintro _ rfl
          exact hK
      · refine Or.inr ⟨i, m1, f1, hi, q2, q1, rfl, c1.symm.trans q3, q3, q4, q6, fun K hK => it_n nl (it_p rfl (it_p c1 (it_n (nI_pos (by omega)) (it_p (by rw [q4]; exact nI_lt hi (by omega)) hK)))), fun K hK => ⟨vs, it_p pl ⟨vs, it_p c1' ⟨vs, ?_⟩⟩⟩⟩
        rw [q5]
        exact idxY hi (by omega) rfl _ (it_n (by decide) hK)
    · refine Or.inl ⟨3, Or.inr (Or.inr rfl), fun K hK => it_n nl (it_p rfl (it_n c1 hK)), fun K hK => ⟨vs, it_p pl ⟨vs, it_n (fun z => c1 (s1.symm.trans z)) ?_⟩⟩⟩
      rintro _ rfl
      exact hK
theorem e_nz {e : Int32} (h : e = 1 ∨ e = 2 ∨ e = 3) : ¬ e = 0 ∧ ¬ -10 - e = 0 := by
  rcases h with rfl | rfl | rfl <;> decide
theorem op_lay {σ τ : Sg} (h : Rel σ τ) (x1 x2 x3 x4 : Int32) : w_X6_lay x1 x2 x3 x4 σ (fun r1 σ1 => w_X7_lay x1 x2 x3 x4 τ (fun r2 τ1 => r1 = r2 ∧ Rel σ1 τ1)) := by
  unfold w_X6_lay w_X7_lay
  rcases ix_c x1 (n1 := 4) (by omega) with hx | ⟨s, hs, rfl⟩
  · exact cshN hx _ (it_n (by decide) (shtN hx _ (it_p rfl ⟨rfl, h⟩)))
  · have cs : (nI s).toNatClampNeg = s := nI_clamp (by omega)
    have vs : vp_in (nI s) 4 := vp_in_nI (by omega) (by omega)
    refine cshY hs _ (it_p rfl ?_)
    rcases ix_c x2 (n1 := 3) (by omega) with hx | ⟨f2, hf, rfl⟩
    · exact formN hx _ (it_n (by decide) (shtY (by omega) _ (it_n (by decide) (inN (m1 := 2) hx (by omega) (by decide) _ (it_p rfl ⟨rfl, h⟩)))))
    · refine formY hf _ (it_p rfl ⟨vs, ?_⟩)
      rw [cs]
      rcases itm h s hs (nI f2) x3 with ⟨e, g1, g2, g3⟩ | ⟨i, m1, f1, hi, hm, hf1, rfl, ef, q3, q4, q6, g2, g3⟩
      · refine g2 _ (it_n (e_nz g1).1 ?_)
        rintro _ rfl
        refine shtY (by omega) _ (it_n (by decide) (inY (m1 := 2) (by omega) (by omega) (by decide) _ (it_n (by decide) (g3 _ ?_))))
        have nz := (e_nz g1).2
        dsimp only
        rw [if_neg nz]
        exact ⟨rfl, h.fin e⟩
      · rw [nI_eq (by omega) (by omega)] at ef
        subst ef
        refine g2 _ (it_p rfl ⟨vs, s_put σ (33 + 2 * s) i m1 f2 hi hm hf q3 q4 x4 _ ?_⟩)
        refine shtY (by omega) _ (it_n (by decide) (inY (m1 := 2) (by omega) (by omega) (by decide) _ (it_n (by decide) (g3 _ (it_p rfl (s_cut f2 hf x4 _ ?_))))))
        simp (disch := omega) only [Nat.reduceAdd, fa_lit, nI_leI, nI_ltI, nI_eq, nI_add, pk_mul, pk_sub, pk_div, nI_clamp, c_vin, c_em1, c_m1e]
        refine ⟨by omega, ?_⟩
        rintro _ rfl
        exact ⟨trivial, h.put s i hs (by omega) _⟩
theorem op_get {σ τ : Sg} (h : Rel σ τ) (x1 x2 x3 : Int32) : w_X6_get x1 x2 x3 σ (fun r1 σ1 => w_X7_get x1 x2 x3 τ (fun r2 τ1 => r1 = r2 ∧ Rel σ1 τ1)) := by
  unfold w_X6_get w_X7_get
  rcases ix_c x1 (n1 := 4) (by omega) with hx | ⟨s, hs, rfl⟩
  · exact cshN hx _ (it_n (by decide) (shtN hx _ (it_p rfl ⟨rfl, h⟩)))
  · have cs : (nI s).toNatClampNeg = s := nI_clamp (by omega)
    have vs : vp_in (nI s) 4 := vp_in_nI (by omega) (by omega)
    refine cshY hs _ (it_p rfl ?_)
    rcases ix_c x2 (n1 := 3) (by omega) with hx | ⟨f2, hf, rfl⟩
    · exact formN hx _ (it_n (by decide) (shtY (by omega) _ (it_n (by decide) (inN (m1 := 2) hx (by omega) (by decide) _ (it_p rfl ⟨rfl, h⟩)))))
    · refine formY hf _ (it_p rfl ⟨vs, ?_⟩)
      rw [cs]
      rcases itm h s hs (nI f2) x3 with ⟨e, g1, g2, g3⟩ | ⟨i, m1, f1, hi, hm, hf1, rfl, ef, q3, q4, q6, g2, g3⟩
      · refine g2 _ (it_n (e_nz g1).1 ?_)
        rintro _ rfl
        refine shtY (by omega) _ (it_n (by decide) (inY (m1 := 2) (by omega) (by omega) (by decide) _ (it_n (by decide) (g3 _ ?_))))
        have nz := (e_nz g1).2
        dsimp only
        rw [if_neg nz]
        exact ⟨rfl, h.fin e⟩
      · refine g2 _ (it_p rfl ⟨vs, vp_in_nI (by omega) (by omega), ?_⟩)
        refine shtY (by omega) _ (it_n (by decide) (inY (m1 := 2) (by omega) (by omega) (by decide) _ (it_n (by decide) (g3 _ (it_p rfl ?_)))))
        simp (disch := omega) only [Nat.reduceAdd, fa_lit, nI_leI, nI_ltI, nI_eq, nI_add, pk_mul, pk_sub, pk_div, nI_clamp, c_vin, c_em1, c_m1e]
        refine ⟨by omega, ?_, h⟩
        rw [show 33 + 2 * s + 1 = 34 + 2 * s by omega]
        exact (q6 i hi).symm
-- write
def wrC (σ : Sg) (s : Nat) (v1 : Nat → Int32) : Nat → Sg
  | 0 => σ
  | i + 1 => pt (wrC σ s v1 i) (33 + 2 * s + 1) i (v1 i)
def wrH (τ : Sg) (s : Nat) (v1 : Nat → Int32) : Nat → Sg
  | 0 => τ
  | i + 1 => pt (wrH τ s v1 i) 3 (60 * s + i) (v1 i)
theorem wrC_same {σ : Sg} {s : Nat} {v1 : Nat → Int32} : ∀ i, same [33 + 2 * s + 1] σ (wrC σ s v1 i)
  | 0 => same.rf
  | i + 1 => (wrC_same i).pt (by simp)
theorem wrH_same {τ : Sg} {s : Nat} {v1 : Nat → Int32} : ∀ i, same [3] τ (wrH τ s v1 i)
  | 0 => same.rf
  | i + 1 => (wrH_same i).pt (by simp)
theorem wr_rel {σ τ : Sg} {s : Nat} {v1 : Nat → Int32} (h : Rel σ τ) (hs : s < 4) : ∀ i, i ≤ 60 → Rel (wrC σ s v1 i) (wrH τ s v1 i)
  | 0, _ => h
  | i + 1, hi => (wr_rel h hs i (by omega)).put s i hs (by omega) _
theorem fd_cg {τ τ' : Sg} {N B : Nat} {P : Nat → Int32} {d : Nat → Nat → Int32} {kd : Nat → Int32} (h : fdIs τ N P d B kd) (hs : same [3] τ τ') : fdIs τ' N P d B kd := by
  unfold fdIs mdIs plIs ntIs ntAt mbIs at h ⊢
  rw [hs 0 (by decide), hs 7 (by decide), hs 8 (by decide), hs 9 (by decide), hs 10 (by decide), hs 11 (by decide), hs 12 (by decide), hs 13 (by decide)]
  exact h
theorem cl_cg {σ σ' : Sg} {N : Nat} {P : Nat → Int32} {d : Nat → Nat → Int32} (h : clIs σ 5 N P d) (hs : ∀ q, q < 14 → σ' q = σ q) : clIs σ' 5 N P d := by
  unfold clIs chIs lkAt at h ⊢
  rw [hs 5 (by decide), hs (5 + 1) (by decide), hs (5 + 2) (by decide), hs (5 + 3) (by decide), hs (5 + 4) (by decide), hs (5 + 5) (by decide), hs (5 + 6) (by decide), hs (5 + 8) (by decide)]
  exact h
theorem op_write {σ τ : Sg} (h : Rel σ τ) (x1 x2 : Int32) : w_X6_write x1 x2 σ (fun r1 σ1 => w_X7_write x1 x2 τ (fun r2 τ1 => r1 = r2 ∧ Rel σ1 τ1)) := by
  obtain ⟨N, P, d, B, kd, ok, hP, hB, hc, hn, hs, hT, _, _, fnd⟩ := vw h
  have hN := ok.1
  unfold w_X6_write w_X7_write
  rcases ix_c x1 (n1 := B) (by omega) with hx | ⟨b1, hb, rfl⟩
  · refine cbrN hs.1 hx _ (it_n (by decide) ?_)
    exact fnd _ (fun τ' a1 a2 a3 a4 a5 => barN hB a3.2.2.2.1 hx _ (it_p rfl ⟨rfl, a4⟩))
  · refine cbrY hB hs.1 hb _ (it_p rfl ?_)
    rcases ix_c x2 (n1 := 4) (by omega) with hx | ⟨s, hs4, rfl⟩
    · refine cshN hx _ (it_n (by decide) ?_)
      exact fnd _ (fun τ' a1 a2 a3 a4 a5 => barY hB a3.2.2.2.1 hb _ (it_n (by decide) (shtN hx _ (it_p rfl ⟨rfl, a4⟩))))
    · have cs : (nI s).toNatClampNeg = s := nI_clamp (by omega)
      have vs : vp_in (nI s) 4 := vp_in_nI (by omega) (by omega)
      refine cshY hs4 _ (it_p rfl ⟨vs, ?_⟩)
      unfold w_X2_isLost
      rw [cs]
      obtain ⟨s1, s2⟩ := h.2.2.2.1 s hs4
      rcases s2 with s2 | ⟨f1, m1, q1, q2, q3, q4, q5, q6⟩
      · refine it_p s2 (it_n (by decide) ?_)
        rintro _ rfl
        refine fnd _ (fun τ' a1 a2 a3 a4 a5 => barY hB a3.2.2.2.1 hb _ (it_n (by decide) (shtY (by omega) _ (it_n (by decide) ⟨vs, it_n (by rw [(a4.2.2.2.1 s hs4).1, s2]; decide) ?_⟩))))
        exact finds_ a4 1 _ (fun τ' r => ⟨rfl, r⟩)
      · refine it_n (by rw [q3]; exact nI_m1 (by omega)) (it_p rfl ?_)
        rintro _ rfl
        obtain ⟨w1, hw1, hw2, hw3⟩ : ∃ w1 : Nat, w1 ≤ N ∧ w1 ≤ m1 ∧ (w1 = N ∨ w1 = m1) := by
          by_cases c1 : N ≤ m1
          · exact ⟨N, by omega, c1, Or.inl rfl⟩
          · exact ⟨m1, by omega, by omega, Or.inr rfl⟩
        have ew : (if σ 5 0 < σ (33 + 2 * s) 2 then σ 5 0 else σ (33 + 2 * s) 2) = nI w1 := by
          rw [hc.1.1, q4]
          by_cases c1 : N < m1
          · rw [if_pos (nI_lt c1 (by omega)), show w1 = N by omega]
          · rw [if_neg (fun z => c1 ((nI_ltI (by omega) (by omega)).mp z)), show w1 = m1 by omega]
        rw [ew]
        obtain ⟨vv, hv⟩ : ∃ vv : Nat → Int32, vv = fun i => cutv f1 (og (NT P d N (σ 26 0) (σ 26 1) (σ 26 2) (rb kd b1) i)) := ⟨_, rfl⟩
        refine up2 (fun j y ρ => y = nI j ∧ ρ = wrC σ s vv j) w1 ?_ 0 _ _ (Nat.zero_le _) ⟨rfl, rfl⟩
        rintro j rc _ _ hj ⟨rfl, rfl⟩ hrc
        have ec : ∀ q, q < 34 → wrC σ s vv j q = σ q := fun q hq => wrC_same j q (by simp; omega)
        have es : wrC σ s vv j (33 + 2 * s) = σ (33 + 2 * s) := wrC_same j _ (by simp)
        unfold F_X6_write_57 E_X6_write_57
        by_cases c1 : w1 ≤ j
        · refine it_p (nI_le c1 (by omega)) ?_
          have ej : j = w1 := by omega
          subst ej
          refine fnd _ (fun τ' a1 a2 a3 a4 a5 => barY hB a3.2.2.2.1 hb _ (it_n (by decide) (shtY (by omega) _ (it_n (by decide) ⟨vs, it_p (by rw [(a4.2.2.2.1 s hs4).1, q3]; exact nI_pos' (by omega)) ⟨vs, ?_⟩⟩))))
          have e1 : τ' 2 s = nI m1 := by rw [a1.1 2 (by decide)]; exact q5
          have e2 : τ' 1 s = nI f1 := by rw [a1.1 1 (by decide), s1, q3]
          unfold w_X7_lesser
          rw [e1, a3.1.1]
          have L : ∀ K : Int32 → Prop, K (nI j) → if nI N ≤ nI m1 then K (nI N) else K (nI m1) := by
            intro K hK
            by_cases c2 : N ≤ m1
            · refine it_p (nI_le c2 (by omega)) ?_
              rw [show N = j by omega]
              exact hK
            · refine it_n (fun z => c2 ((nI_leI (by omega) (by omega)).mp z)) ?_
              rw [show m1 = j by omega]
              exact hK
          refine L (fun r47 => ∃ n54, lq2 (F_X7_write_54 r47 (nI s) (nI b1) (E_X7_write_54 (fun r2 τ1 => nI j = r2 ∧ Rel (wrC σ s vv j) τ1) r47)) n54 0 τ') ?_
          refine up2 (fun i y ρ => y = nI i ∧ ρ = wrH τ' s vv i) j ?_ 0 _ _ (Nat.zero_le _) ⟨rfl, rfl⟩
          rintro i rc2 _ _ hi ⟨rfl, rfl⟩ hrc2
          have eh := wrH_same (τ := τ') (s := s) (v1 := vv) i
          have f2 := fd_cg a3 eh
          unfold F_X7_write_54 E_X7_write_54
          by_cases c3 : j ≤ i
          · refine it_p (nI_le c3 (by omega)) ⟨rfl, ?_⟩
            rw [show i = j by omega]
            exact wr_rel a4 hs4 j (by omega)
          · refine it_n (fun z => c3 ((nI_leI (by omega) (by omega)).mp z)) ⟨vs, s_noteOr _ N B i b1 P d kd hN hB (by omega) hb f2 _ ?_⟩
            rw [eh 9 (by decide), a5 0 (by omega), a5 1 (by omega), a5 2 (by omega), eh 1 (by decide), cs, e2]
            refine s_cut f1 q1 _ _ ?_
            simp (disch := omega) only [Nat.reduceAdd, fa_lit, nI_leI, nI_ltI, nI_eq, nI_add, pk_mul, pk_sub, pk_div, nI_clamp, c_vin, c_em1, c_m1e]
            refine ⟨by omega, ?_⟩
            rintro _ rfl
            refine hrc2 _ _ (by omega) ⟨rfl, ?_⟩
            show _ = pt (wrH τ' s vv i) 3 (60 * s + i) (vv i)
            rw [hv]
        · refine it_n (fun z => c1 ((nI_leI (by omega) (by omega)).mp z)) ⟨vp_in_nI (by omega) (by omega), ?_⟩
          rw [nI_clamp (by omega), ec (23 + 2) (by omega), show σ (23 + 2) b1 = nI (rb kd b1) from (hs.2 b1 hb).2]
          refine s_noteBehind _ 5 26 N j _ P d hN (by omega) (cl_cg hc (fun q hq => ec q (by omega))) _ ?_
          rw [ec 26 (by omega), cs, nI_1]
          refine s_put _ (33 + 2 * s) j m1 f1 (by omega) q2 q1 (by rw [es]; exact q3) (by rw [es]; exact q4) _ _ (hrc _ _ (by omega) ⟨rfl, ?_⟩)
          show _ = pt (wrC σ s vv j) (33 + 2 * s + 1) j (vv j)
          rw [hv]
