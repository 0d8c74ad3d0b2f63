def dgX (h1 : Int64) (v1 : Int32) : Int64 := 31 * h1 + v1.toInt64
def dgF (f1 : Nat → Int32) (h1 : Int64) : Nat → Int64
  | 0 => h1
  | n + 1 => dgX (dgF f1 h1 n) (f1 n)
def dgG (g1 : Nat → Int64 → Int64) (h1 : Int64) : Nat → Int64
  | 0 => h1
  | n + 1 => g1 n (dgG g1 h1 n)
/-- what count tells -/
noncomputable def cvv (σ : Sg) (N : Nat) (P : Nat → Int32) (d : Nat → Nat → Int32) (B : Nat) (kd : Nat → Int32) (k : Nat) : Int32 := if k = 0 then σ 5 0 else if k = 1 then σ 23 0 else if k = 2 then σ 1 2 else if k = 3 then σ 3 2 else if k = 4 then nI (ctP (fun i => flk P d N i = none) N) else if k = 5 then nI (ctP (fun i => kd i = 1) B) else if k = 6 then σ 26 0 else σ 28 0
theorem s_cntC {σ : Sg} {N : Nat} {P : Nat → Int32} {d : Nat → Nat → Int32} {B : Nat} {kd : Nat → Int32} (hv : Vc σ N P d B kd) (k : Nat) (hk : k < 8) (K : Int32 → Prop) (h : K (cvv σ N P d B kd k)) : w_X6_count (nI k) σ K := by
  obtain ⟨ok, hP, hB, hc, hn, hs, hT, _, _, fnd⟩ := hv
  have hN := ok.1
  unfold w_X6_count
  rcases (show k = 0 ∨ k = 1 ∨ k = 2 ∨ k = 3 ∨ k = 4 ∨ k = 5 ∨ k = 6 ∨ k = 7 by omega) with rfl | rfl | rfl | rfl | rfl | rfl | rfl | rfl
  · exact it_p rfl h
  · exact it_n (by decide) (it_p rfl h)
  · exact it_n (by decide) (it_n (by decide) (it_p rfl h))
  · exact it_n (by decide) (it_n (by decide) (it_n (by decide) (it_p rfl h)))
  · exact it_n (by decide) (it_n (by decide) (it_n (by decide) (it_n (by decide) (it_p rfl (s_silentC σ N P d hN hc _ h)))))
  · exact it_n (by decide) (it_n (by decide) (it_n (by decide) (it_n (by decide) (it_n (by decide) (it_p rfl (s_restsC σ B kd hB hs _ h))))))
  · exact it_n (by decide) (it_n (by decide) (it_n (by decide) (it_n (by decide) (it_n (by decide) (it_n (by decide) (it_p rfl h))))))
  · exact it_n (by decide) (it_n (by decide) (it_n (by decide) (it_n (by decide) (it_n (by decide) (it_n (by decide) (it_n (by decide) (it_p rfl h)))))))
theorem s_cntM {σ τ : Sg} {N : Nat} {P : Nat → Int32} {d : Nat → Nat → Int32} {B : Nat} {kd : Nat → Int32} (hv : Vc σ N P d B kd) (hR : Rel σ τ) (k : Nat) (hk : k < 8) (K : Int32 → Sg → Prop) (h : ∀ τ', Rel σ τ' → K (cvv σ N P d B kd k) τ') : w_X7_count (nI k) τ K := by
  obtain ⟨ok, hP, hB, hc, hn, hs, hT, _, _, fnd⟩ := hv
  have hN := ok.1
  unfold w_X7_count
  refine fnd τ hR _ (fun τ' a1 a2 a3 a4 a5 => ?_)
  have h := h τ' a4
  rcases (show k = 0 ∨ k = 1 ∨ k = 2 ∨ k = 3 ∨ k = 4 ∨ k = 5 ∨ k = 6 ∨ k = 7 by omega) with rfl | rfl | rfl | rfl | rfl | rfl | rfl | rfl
  · refine it_p rfl ?_
    rw [a3.1.1, ← hc.1.1]
    exact h
  · refine it_n (by decide) (it_p rfl ?_)
    rw [a3.2.2.2.1, ← hs.1]
    exact h
  · refine it_n (by decide) (it_n (by decide) (it_p rfl ⟨by unfold vp_in; decide, ?_⟩))
    obtain ⟨⟨m0, m1, t, _⟩, _⟩ := a4
    have e : τ' 6 0 = σ 1 2 := t.2.2.2.2.2.2.1.trans t.2.2.2.2.1.symm
    show K (τ' 6 0) τ'
    rw [e]
    exact h
  · refine it_n (by decide) (it_n (by decide) (it_n (by decide) (it_p rfl ⟨by unfold vp_in; decide, ?_⟩)))
    obtain ⟨⟨m0, m1, t, _⟩, _⟩ := a4
    have e : τ' 6 1 = σ 3 2 := t.2.2.2.2.2.2.2.1.trans t.2.2.2.2.2.1.symm
    show K (τ' 6 1) τ'
    rw [e]
    exact h
  · exact it_n (by decide) (it_n (by decide) (it_n (by decide) (it_n (by decide) (it_p rfl (s_silentM τ' N P d hN a3.1.1 a3.2.2.1 _ h)))))
  · exact it_n (by decide) (it_n (by decide) (it_n (by decide) (it_n (by decide) (it_n (by decide) (it_p rfl (s_restsM τ' B kd hB a3.2.2.2 _ h))))))
  · refine it_n (by decide) (it_n (by decide) (it_n (by decide) (it_n (by decide) (it_n (by decide) (it_n (by decide) (it_p rfl ⟨i04, ?_⟩))))))
    rw [z0, a5 0 (by omega)]
    exact h
  · refine it_n (by decide) (it_n (by decide) (it_n (by decide) (it_n (by decide) (it_n (by decide) (it_n (by decide) (it_n (by decide) (it_p rfl ?_)))))))
    obtain ⟨nh, _, h2, h3, _⟩ := a4.2.2.1
    rw [h3, ← h2]
    exact h
theorem fltM0 {σ τ : Sg} (hR : Rel σ τ) (n0 : Nat) (hn : n0 ≤ 39) (e0 : σ 1 2 = nI n0) (K : Int32 → Sg → Prop) (h : ∀ τ', Rel σ τ' → K (enc (flt (σ 2) n0 n0 0)) τ') : w_X7_readsSingers τ K := by
  obtain ⟨⟨m0, m1, ht, hp⟩, ho⟩ := id hR
  obtain ⟨t1, t2, t3, t4, t5, t6, t7, t8, t9, t10⟩ := ht
  have e : n0 = m0 := by rw [e0, nI_eq (by omega) (by omega)] at t5; exact t5
  subst e
  exact s_readsS2 τ (σ 2) n0 t1 t7 t9 _ (fun τ' a1 a2 a3 => h τ' (hR.kp (kp7 a1 a2)))
theorem fltM1 {σ τ : Sg} (hR : Rel σ τ) (n1 : Nat) (hn : n1 ≤ 24) (e0 : σ 3 2 = nI n1) (K : Int32 → Sg → Prop) (h : ∀ τ', Rel σ τ' → K (enc (flB (σ 4) n1 0)) τ') : w_X7_readsBars τ K := by
  obtain ⟨⟨m0, m1, ht, hp⟩, ho⟩ := id hR
  obtain ⟨t1, t2, t3, t4, t5, t6, t7, t8, t9, t10⟩ := ht
  have e : n1 = m1 := by rw [e0, nI_eq (by omega) (by omega)] at t6; exact t6
  subst e
  exact s_readsB2 τ (σ 4) n1 t2 t8 t10 _ (fun τ' a1 a2 a3 => h τ' (hR.kp (kp8 a1 a2)))
-- singers
def sgG (P : Nat → Int32) (d : Nat → Nat → Int32) (N i : Nat) (h1 : Int64) : Int64 := dgX (dgX (dgF (fun q => d q i) h1 4) (enc (nr P i N))) (stpv (flk P d N i))
theorem s_sgC {σ : Sg} {N : Nat} {P : Nat → Int32} {d : Nat → Nat → Int32} (ok : okC N d) (hPd : P = d 0) (hc : clIs σ 5 N P d) (k1 j : Nat) (hk : k1 < N) (hj : j < 4) (K : Int32 → Prop) (h : K (d j k1)) : w_X6_singer (nI k1) (nI j) σ K := by
  have hN := ok.1
  obtain ⟨d1, d2, d3, d4⟩ := hc.1.2 k1 hk
  have cl : (nI k1).toNatClampNeg = k1 := nI_clamp (by omega)
  have vi : vp_in (nI k1) 8 := vp_in_nI (by omega) (by omega)
  unfold w_X6_singer
  refine csgY hN hc.1.1 hk _ (it_p rfl ?_)
  rw [cl, d1, d2, d3, d4]
  rcases (show j = 0 ∨ j = 1 ∨ j = 2 ∨ j = 3 by omega) with rfl | rfl | rfl | rfl
  · rw [hPd]
    exact it_p rfl ⟨vi, h⟩
  · exact it_n (by decide) (it_p rfl ⟨vi, h⟩)
  · exact it_n (by decide) (it_n (by decide) (it_p rfl ⟨vi, h⟩))
  · refine it_n (by decide) (it_n (by decide) (it_n (by decide) (it_p rfl ⟨vi, ?_⟩)))
    rcases (ok.2 k1 hk).2.2.2 with e | e
    · rw [e] at h ⊢
      exact it_p rfl h
    · rw [e] at h ⊢
      exact it_n (by decide) h
theorem s_mixS {σ : Sg} {N : Nat} {P : Nat → Int32} {d : Nat → Nat → Int32} {B : Nat} {kd : Nat → Int32} (hv : Vc σ N P d B kd) (h1 : Int64) (K : Int64 → Prop) (h : K (dgG (sgG P d N) h1 N)) : w_X6_mixSingers h1 σ K := by
  obtain ⟨ok, hP, hB, hc, hn, hs, hT, hPd, _, fnd⟩ := hv
  have hN := ok.1
  unfold w_X6_mixSingers
  refine up2 (fun j y3 y5 => y3 = dgG (sgG P d N) h1 j ∧ y5 = nI j) N ?_ 0 _ _ (Nat.zero_le _) ⟨rfl, rfl⟩
  rintro j rc _ _ hj ⟨rfl, rfl⟩ hrc
  unfold F_X6_mixSingers_5 E_X6_mixSingers_5
  rw [hc.1.1]
  by_cases c1 : N ≤ j
  · have ej : j = N := by omega
    subst ej
    exact it_p (nI_le c1 (by omega)) h
  · have hjN : j < N := by omega
    refine it_n (fun z => c1 ((nI_leI (by omega) (by omega)).mp z)) ?_
    have cl : (nI j).toNatClampNeg = j := nI_clamp (by omega)
    have vi : vp_in (nI j) 8 := vp_in_nI (by omega) (by omega)
    have e0 : ∀ K : Int32 → Prop, K (enc (nr P j N)) → w_X6_ear (nI j) 0 σ K := fun K hK => by
      refine csgY hN hc.1.1 hjN _ (it_p rfl (nchY (k1 := 0) (by omega) _ (it_p rfl (it_p rfl ⟨vi, ?_⟩))))
      rw [cl, hn j hjN]
      exact hK
    have e1 : ∀ K : Int32 → Prop, K (stpv (flk P d N j)) → w_X6_ear (nI j) 1 σ K := fun K hK => by
      refine csgY hN hc.1.1 hjN _ (it_p rfl (nchY (k1 := 1) (by omega) _ (it_p rfl (it_n (by decide) ⟨vi, ?_⟩))))
      rw [cl, (hc.2 j hjN).2.2]
      exact hK
    refine up2 (fun t y3 y6 => y3 = dgF (fun q => d q j) (dgG (sgG P d N) h1 j) t ∧ y6 = nI t) 4 ?_ 0 _ _ (Nat.zero_le _) ⟨rfl, rfl⟩
    rintro t rc2 _ _ ht ⟨rfl, rfl⟩ hrc2
    unfold F_X6_mixSingers_20
    by_cases c2 : 3 < t
    · have et : t = 4 := by omega
      subst et
      refine it_p (nI_lt (a := 3) c2 (by omega)) ?_
      unfold E_X6_mixSingers_20 w_X6_mix
      refine e0 _ (e1 _ ?_)
      rw [nI_1]
      exact hrc _ _ hjN ⟨rfl, rfl⟩
    · refine it_n (fun z => c2 ((nI_ltI (a := 3) (by omega) (by omega)).mp z)) ?_
      refine s_sgC ok hPd hc j t hjN (by omega) _ ?_
      unfold w_X6_mix
      rw [nI_1]
      exact hrc2 _ _ (by omega) ⟨rfl, rfl⟩
theorem s_mixSM {τ : Sg} {N : Nat} {P : Nat → Int32} {d : Nat → Nat → Int32} {B : Nat} {kd : Nat → Int32} (hN : N ≤ 8) (hf : fdIs τ N P d B kd) (h1 : Int64) (kx : Int64 → Prop) (h : kx (dgG (sgG P d N) h1 N)) : ∃ n61, lq2 (F_X7_digest_61 τ kx) n61 h1 (0 : Int32) := by
  refine up2 (fun j y3 y5 => y3 = dgG (sgG P d N) h1 j ∧ y5 = nI j) N ?_ 0 _ _ (Nat.zero_le _) ⟨rfl, rfl⟩
  rintro j rc _ _ hj ⟨rfl, rfl⟩ hrc
  unfold F_X7_digest_61
  rw [hf.1.1]
  by_cases c1 : N ≤ j
  · have ej : j = N := by omega
    subst ej
    exact it_p (nI_le c1 (by omega)) h
  · have hjN : j < N := by omega
    refine it_n (fun z => c1 ((nI_leI (by omega) (by omega)).mp z)) ?_
    have cl : (nI j).toNatClampNeg = j := nI_clamp (by omega)
    have vi : vp_in (nI j) 8 := vp_in_nI (by omega) (by omega)
    refine up2 (fun t y3 y6 => y3 = dgF (fun q => d q j) (dgG (sgG P d N) h1 j) t ∧ y6 = nI t) 4 ?_ 0 _ _ (Nat.zero_le _) ⟨rfl, rfl⟩
    rintro t rc2 _ _ ht ⟨rfl, rfl⟩ hrc2
    unfold F_X7_digest_72
    by_cases c2 : 4 ≤ t
    · have et : t = 4 := by omega
      subst et
      refine it_p (nI_le (a := 4) c2 (by omega)) ?_
      unfold E_X7_digest_72
      rw [cl]
      refine ⟨vi, ?_⟩
      rintro _ rfl
      refine ⟨vi, ?_⟩
      rintro _ rfl
      rw [(hf.2.2.1 j hjN).1, (hf.2.2.1 j hjN).2.1, nI_1]
      exact hrc _ _ hjN ⟨rfl, rfl⟩
    · refine it_n (fun z => c2 ((nI_leI (a := 4) (by omega) (by omega)).mp z)) ?_
      have e4 : (4 : Int32) * nI j + nI t = nI (4 * j + t) := by
        rw [show (4 : Int32) * nI j = nI (4 * j) from pk_mul 4 j, nI_add]
      rw [e4, nI_clamp (by omega), hf.1.2 j hjN t (by omega)]
      refine ⟨vp_in_nI (by omega) (by omega), ?_⟩
      rintro _ rfl
      rw [nI_1]
      exact hrc2 _ _ (by omega) ⟨rfl, rfl⟩
-- bars: notes
def brG (P : Nat → Int32) (d : Nat → Nat → Int32) (N : Nat) (kd : Nat → Int32) (v e w : Int32) (b1 : Nat) (h1 : Int64) : Int64 := dgF (fun k => og (NT P d N v e w (rb kd b1) k)) (dgX h1 (kd b1)) N
noncomputable def chv (P : Nat → Int32) (d : Nat → Nat → Int32) (N : Nat) (kd : Nat → Int32) (v e w cl : Int32) (b1 j : Nat) : Int32 := by classical exact if j = 0 then spv (NT P d N v e w (rb kd b1)) N else if j = 1 then (if clz (NT P d N v e w (rb kd b1)) N kd b1 cl then 1 else 0) else enc (flf (NT P d N v e w (rb kd b1)) N)
theorem chv_0 {P : Nat → Int32} {d : Nat → Nat → Int32} {N : Nat} {kd : Nat → Int32} {v e w cl : Int32} {b1 : Nat} : chv P d N kd v e w cl b1 0 = spv (NT P d N v e w (rb kd b1)) N := if_pos rfl
theorem chv_y {P : Nat → Int32} {d : Nat → Nat → Int32} {N : Nat} {kd : Nat → Int32} {v e w cl : Int32} {b1 : Nat} (h : clz (NT P d N v e w (rb kd b1)) N kd b1 cl) : chv P d N kd v e w cl b1 1 = 1 := by
  unfold chv
  rw [if_neg (by decide), if_pos rfl, if_pos h]
theorem chv_n {P : Nat → Int32} {d : Nat → Nat → Int32} {N : Nat} {kd : Nat → Int32} {v e w cl : Int32} {b1 : Nat} (h : ¬ clz (NT P d N v e w (rb kd b1)) N kd b1 cl) : chv P d N kd v e w cl b1 1 = 0 := by
  unfold chv
  rw [if_neg (by decide), if_pos rfl, if_neg h]
theorem chv_2 {P : Nat → Int32} {d : Nat → Nat → Int32} {N : Nat} {kd : Nat → Int32} {v e w cl : Int32} {b1 : Nat} : chv P d N kd v e w cl b1 2 = enc (flf (NT P d N v e w (rb kd b1)) N) := by
  unfold chv
  rw [if_neg (by decide), if_neg (by decide)]
noncomputable def chG (P : Nat → Int32) (d : Nat → Nat → Int32) (N : Nat) (kd : Nat → Int32) (v e w cl : Int32) (b1 : Nat) (h1 : Int64) : Int64 := dgF (chv P d N kd v e w cl b1) h1 3
theorem s_chC {σ : Sg} {N : Nat} {P : Nat → Int32} {d : Nat → Nat → Int32} {B : Nat} {kd : Nat → Int32} (hv : Vc σ N P d B kd) (b1 j : Nat) (hb : b1 < B) (hj : j < 3) (K : Int32 → Prop) (h : K (chv P d N kd (σ 26 0) (σ 26 1) (σ 26 2) (σ 26 3) b1 j)) : w_X6_chord (nI b1) (nI j) σ K := by
  obtain ⟨ok, hP, hB, hc, hn, hs, hT, hPd, _, fnd⟩ := hv
  have hN := ok.1
  have hr := NT_rg (r := rb kd b1) ok hP hT (by have := rb_le kd b1; omega)
  unfold w_X6_chord
  refine cbrY hB hs.1 hb _ (it_p rfl ?_)
  rcases (show j = 0 ∨ j = 1 ∨ j = 2 by omega) with rfl | rfl | rfl
  · rw [chv_0] at h
    exact it_p rfl (s_spread σ 5 26 N B b1 P d kd hN hB hb hc hs hr _ h)
  · refine it_n (by decide) (it_p rfl (s_closes σ 26 N B b1 P d kd hN hB hb hc hs hr _ (fun z => it_n (by decide) ?_) (fun z => it_p rfl ?_)))
    · rw [chv_y z] at h
      exact h
    · rw [chv_n z] at h
      exact h
  · rw [chv_2] at h
    exact it_n (by decide) (it_n (by decide) (it_p rfl (s_flattest σ N B b1 P d kd hN hB hb hc hs hr _ h)))
theorem s_chM {τ : Sg} {N : Nat} {P : Nat → Int32} {d : Nat → Nat → Int32} {B : Nat} {kd : Nat → Int32} (hN : N ≤ 8) (hB : B ≤ 24) (hf : fdIs τ N P d B kd) (b1 j : Nat) (hb : b1 < B) (hj : j < 3) (K : Int32 → Prop) (h : K (chv P d N kd (τ 9 0) (τ 9 1) (τ 9 2) (τ 9 3) b1 j)) : w_X7_chordBy (nI b1) (nI j) τ K := by
  unfold w_X7_chordBy
  rcases (show j = 0 ∨ j = 1 ∨ j = 2 by omega) with rfl | rfl | rfl
  · rw [chv_0] at h
    exact it_p rfl (s_mspread0 τ N B b1 P d kd hN hB hb hf _ h)
  · refine it_n (by decide) (it_p rfl (s_mcloses τ N B b1 P d kd hN hB hb hf _ (fun z => it_n (by decide) ?_) (fun z => it_p rfl ?_)))
    · rw [chv_y z] at h
      exact h
    · rw [chv_n z] at h
      exact h
  · rw [chv_2] at h
    exact it_n (by decide) (it_n (by decide) (s_mflattest τ N B b1 P d kd hN hB hb hf _ h))
theorem s_mixB {σ : Sg} {N : Nat} {P : Nat → Int32} {d : Nat → Nat → Int32} {B : Nat} {kd : Nat → Int32} (hv : Vc σ N P d B kd) (h1 : Int64) (K : Int64 → Prop) (h : K (dgG (chG P d N kd (σ 26 0) (σ 26 1) (σ 26 2) (σ 26 3)) (dgG (brG P d N kd (σ 26 0) (σ 26 1) (σ 26 2)) h1 B) B)) : w_X6_mixBars h1 σ K := by
  obtain ⟨ok, hP, hB, hc, hn, hs, hT, hPd, _, fnd⟩ := id hv
  have hN := ok.1
  unfold w_X6_mixBars
  refine up2 (fun b1 y3 y5 => y3 = dgG (brG P d N kd (σ 26 0) (σ 26 1) (σ 26 2)) h1 b1 ∧ y5 = nI b1) B ?_ 0 _ _ (Nat.zero_le _) ⟨rfl, rfl⟩
  rintro b1 rc _ _ hbB ⟨rfl, rfl⟩ hrc
  unfold F_X6_mixBars_5
  rw [hs.1]
  by_cases c1 : B ≤ b1
  · have eb : b1 = B := by omega
    subst eb
    refine it_p (nI_le c1 (by omega)) ?_
    unfold E_X6_mixBars_5
    clear hrc
    generalize dgG (brG P d N kd (σ 26 0) (σ 26 1) (σ 26 2)) h1 b1 = h2 at h
    refine up2 (fun b2 y3 y5 => y3 = dgG (chG P d N kd (σ 26 0) (σ 26 1) (σ 26 2) (σ 26 3)) h2 b2 ∧ y5 = nI b2) b1 ?_ 0 _ _ (Nat.zero_le _) ⟨rfl, rfl⟩
    rintro b2 rc2 _ _ hb2 ⟨rfl, rfl⟩ hrc2
    unfold F_X6_mixBars_73 E_X6_mixBars_73
    rw [hs.1]
    by_cases c2 : b1 ≤ b2
    · have eb2 : b2 = b1 := by omega
      subst eb2
      exact it_p (nI_le c2 (by omega)) h
    · have hb3 : b2 < b1 := by omega
      refine it_n (fun z => c2 ((nI_leI (by omega) (by omega)).mp z)) ?_
      refine up2 (fun t y3 y6 => y3 = dgF (chv P d N kd (σ 26 0) (σ 26 1) (σ 26 2) (σ 26 3) b2) (dgG (chG P d N kd (σ 26 0) (σ 26 1) (σ 26 2) (σ 26 3)) h2 b2) t ∧ y6 = nI t) 3 ?_ 0 _ _ (Nat.zero_le _) ⟨rfl, rfl⟩
      rintro t rc3 _ _ ht ⟨rfl, rfl⟩ hrc3
      unfold F_X6_mixBars_88 E_X6_mixBars_88
      by_cases c3 : 2 < t
      · have et : t = 3 := by omega
        subst et
        refine it_p (nI_lt (a := 2) c3 (by omega)) ?_
        rw [nI_1]
        exact hrc2 _ _ hb3 ⟨rfl, rfl⟩
      · refine it_n (fun z => c3 ((nI_ltI (a := 2) (by omega) (by omega)).mp z)) ?_
        refine s_chC hv b2 t hb3 (by omega) _ ?_
        unfold w_X6_mix
        rw [nI_1]
        exact hrc3 _ _ (by omega) ⟨rfl, rfl⟩
  · have hb3 : b1 < B := by omega
    refine it_n (fun z => c1 ((nI_leI (by omega) (by omega)).mp z)) ?_
    unfold w_X6_bar
    refine it_n (nI_pos (by omega)) (it_p (nI_lt (b := 24) (by omega) (by omega)) ?_)
    rw [hs.1]
    refine it_n (fun z => c1 ((nI_leI (by omega) (by omega)).mp z)) ⟨vp_in_nI (by omega) (by omega), ?_⟩
    rw [nI_clamp (by omega), show σ (23 + 1) b1 = kd b1 from (hs.2 b1 hb3).1]
    unfold w_X6_mix
    refine up2 (fun t y3 y6 => y3 = dgF (fun k => og (NT P d N (σ 26 0) (σ 26 1) (σ 26 2) (rb kd b1) k)) (dgX (dgG (brG P d N kd (σ 26 0) (σ 26 1) (σ 26 2)) h1 b1) (kd b1)) t ∧ y6 = nI t) N ?_ 0 _ _ (Nat.zero_le _) ⟨rfl, rfl⟩
    rintro t rc3 _ _ ht ⟨rfl, rfl⟩ hrc3
    unfold F_X6_mixBars_32 E_X6_mixBars_32
    rw [hc.1.1]
    by_cases c3 : N ≤ t
    · have et : t = N := by omega
      subst et
      refine it_p (nI_le c3 (by omega)) ?_
      rw [nI_1]
      exact hrc _ _ hb3 ⟨rfl, rfl⟩
    · refine it_n (fun z => c3 ((nI_leI (by omega) (by omega)).mp z)) ?_
      unfold w_X6_note
      refine csgY hN hc.1.1 (show t < N by omega) _ (it_p rfl (cbrY hB hs.1 hb3 _ (it_p rfl ⟨vp_in_nI (by omega) (by omega), ?_⟩)))
      rw [nI_clamp (by omega), show σ (23 + 2) b1 = nI (rb kd b1) from (hs.2 b1 hb3).2]
      refine s_noteBehind σ 5 26 N t _ P d hN (by omega) hc _ ?_
      unfold w_X6_mix
      rw [nI_1]
      exact hrc3 _ _ (by omega) ⟨rfl, rfl⟩
theorem s_mixBM1 {τ : Sg} {N : Nat} {P : Nat → Int32} {d : Nat → Nat → Int32} {B : Nat} {kd : Nat → Int32} (hN : N ≤ 8) (hB : B ≤ 24) (hf : fdIs τ N P d B kd) (h1 : Int64) (kx : Int64 → Prop) (h : kx (dgG (brG P d N kd (τ 9 0) (τ 9 1) (τ 9 2)) h1 B)) : ∃ n139, lq2 (F_X7_digest_139 τ kx) n139 h1 (0 : Int32) := by
  refine up2 (fun b1 y3 y5 => y3 = dgG (brG P d N kd (τ 9 0) (τ 9 1) (τ 9 2)) h1 b1 ∧ y5 = nI b1) B ?_ 0 _ _ (Nat.zero_le _) ⟨rfl, rfl⟩
  rintro b1 rc _ _ hbB ⟨rfl, rfl⟩ hrc
  unfold F_X7_digest_139
  rw [hf.2.2.2.1]
  by_cases c1 : B ≤ b1
  · have eb : b1 = B := by omega
    subst eb
    exact it_p (nI_le c1 (by omega)) h
  · have hb3 : b1 < B := by omega
    refine it_n (fun z => c1 ((nI_leI (by omega) (by omega)).mp z)) ⟨vp_in_nI (by omega) (by omega), ?_⟩
    rw [nI_clamp (by omega), hf.2.2.2.2 b1 hb3]
    rintro _ rfl
    refine up2 (fun t y3 y6 => y3 = dgF (fun k => og (NT P d N (τ 9 0) (τ 9 1) (τ 9 2) (rb kd b1) k)) (dgX (dgG (brG P d N kd (τ 9 0) (τ 9 1) (τ 9 2)) h1 b1) (kd b1)) t ∧ y6 = nI t) N ?_ 0 _ _ (Nat.zero_le _) ⟨rfl, rfl⟩
    rintro t rc3 _ _ ht ⟨rfl, rfl⟩ hrc3
    unfold F_X7_digest_164 E_X7_digest_164
    rw [hf.1.1]
    by_cases c3 : N ≤ t
    · have et : t = N := by omega
      subst et
      refine it_p (nI_le c3 (by omega)) ?_
      rw [nI_1]
      exact hrc _ _ hb3 ⟨rfl, rfl⟩
    · refine it_n (fun z => c3 ((nI_leI (by omega) (by omega)).mp z)) ?_
      refine s_noteOr τ N B t b1 P d kd hN hB (by omega) hb3 hf _ ?_
      rintro _ rfl
      rw [nI_1]
      exact hrc3 _ _ (by omega) ⟨rfl, rfl⟩
theorem s_mixBM2 {τ : Sg} {N : Nat} {P : Nat → Int32} {d : Nat → Nat → Int32} {B : Nat} {kd : Nat → Int32} (hN : N ≤ 8) (hB : B ≤ 24) (hf : fdIs τ N P d B kd) (h1 : Int64) (kx : Int64 → Prop) (h : kx (dgG (chG P d N kd (τ 9 0) (τ 9 1) (τ 9 2) (τ 9 3)) h1 B)) : ∃ n202, lq2 (F_X7_digest_202 τ kx) n202 h1 (0 : Int32) := by
  refine up2 (fun b2 y3 y5 => y3 = dgG (chG P d N kd (τ 9 0) (τ 9 1) (τ 9 2) (τ 9 3)) h1 b2 ∧ y5 = nI b2) B ?_ 0 _ _ (Nat.zero_le _) ⟨rfl, rfl⟩
  rintro b2 rc2 _ _ hb2 ⟨rfl, rfl⟩ hrc2
  unfold F_X7_digest_202
  rw [hf.2.2.2.1]
  by_cases c2 : B ≤ b2
  · have eb2 : b2 = B := by omega
    subst eb2
    exact it_p (nI_le c2 (by omega)) h
  · have hb3 : b2 < B := by omega
    refine it_n (fun z => c2 ((nI_leI (by omega) (by omega)).mp z)) ?_
    refine up2 (fun t y3 y6 => y3 = dgF (chv P d N kd (τ 9 0) (τ 9 1) (τ 9 2) (τ 9 3) b2) (dgG (chG P d N kd (τ 9 0) (τ 9 1) (τ 9 2) (τ 9 3)) h1 b2) t ∧ y6 = nI t) 3 ?_ 0 _ _ (Nat.zero_le _) ⟨rfl, rfl⟩
    rintro t rc3 _ _ ht ⟨rfl, rfl⟩ hrc3
    unfold F_X7_digest_213 E_X7_digest_213
    by_cases c3 : 3 ≤ t
    · have et : t = 3 := by omega
      subst et
      refine it_p (nI_le (a := 3) c3 (by omega)) ?_
      rw [nI_1]
      exact hrc2 _ _ hb3 ⟨rfl, rfl⟩
    · refine it_n (fun z => c3 ((nI_leI (a := 3) (by omega) (by omega)).mp z)) ?_
      refine s_chM hN hB hf b2 t hb3 (by omega) _ ?_
      rintro _ rfl
      rw [nI_1]
      exact hrc3 _ _ (by omega) ⟨rfl, rfl⟩
