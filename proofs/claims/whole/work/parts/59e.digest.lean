theorem mmC.ks {σ σ' : Sg} {nh : Nat} (h : mmC σ nh) (hs : same scr σ σ') : mmC σ' nh := by
  unfold mmC at h ⊢
  rw [hs 28 (by decide), hs 29 (by decide), hs 30 (by decide), hs 31 (by decide)]
  exact h
theorem s_spC1 {σ : Sg} {nh N : Nat} {P : Nat → Int32} {d : Nat → Nat → Int32} {B : Nat} {kd : Nat → Int32} (hv : Vc σ N P d B kd) (hm : mmC σ nh) (fs : Nat → Prop) (hfs : ∀ v1, fs v1 ↔ hT0 σ nh N B P d kd (nI v1) (σ 26 1)) (K : Int32 → Sg → Prop) (h : ∀ σ', same scr σ σ' → K (nI (ctP fs 100)) σ') : w_X6_speeds (-1) σ K := by
  obtain ⟨ok, hP, hB, hc, hn, hs, hT, hPd, _, fnd⟩ := hv
  unfold w_X6_speeds
  exact it_n (by decide) (it_p (by decide) (s_fitC σ nh N B P d kd ok.1 hB hc hs hm fs hfs _ (fun σ' g1 g2 => it_p rfl (h σ' (g1.mono (by decide))))))
theorem s_spC2 {σ : Sg} {nh N : Nat} {P : Nat → Int32} {d : Nat → Nat → Int32} {B : Nat} {kd : Nat → Int32} (hv : Vc σ N P d B kd) (hm : mmC σ nh) (fs : Nat → Prop) (hfs : ∀ v1, fs v1 ↔ hT0 σ nh N B P d kd (nI v1) (σ 26 1)) (K : Int32 → Sg → Prop) (h : ∀ σ', same scr σ σ' → K (enc (sel fs 0 100)) σ') : w_X6_speeds (nI 0) σ K := by
  obtain ⟨ok, hP, hB, hc, hn, hs, hT, hPd, _, fnd⟩ := hv
  have c100 := ctP_le (p1 := fs) 100
  unfold w_X6_speeds
  refine it_n (by decide) (it_p (by decide) (s_fitC σ nh N B P d kd ok.1 hB hc hs hm fs hfs _ (fun σ' g1 g2 => it_n (by decide) ?_)))
  have h2 := h σ' (g1.mono (by decide))
  by_cases c1 : ctP fs 100 ≤ 0
  · refine it_p (nI_le c1 (by omega)) ?_
    rw [sel_none c1] at h2
    exact h2
  · refine it_n (fun z => c1 ((nI_leI (by omega) (by omega)).mp z)) ⟨vp_in_nI (by omega) (by omega), ?_⟩
    obtain ⟨v1, w1, w2, w3, w4⟩ := sel_some (p1 := fs) (k1 := 0) (n := 100) (by omega)
    rw [w2] at h2
    have e := g2 v1 w1 w3
    rw [w4] at e
    rw [nI_clamp (by omega), e]
    exact h2
theorem s_asC {σ : Sg} {nh N : Nat} {P : Nat → Int32} {d : Nat → Nat → Int32} {B : Nat} {kd : Nat → Int32} (hv : Vc σ N P d B kd) (hm : mmC σ nh) (fs : Nat → Prop) (hfs : ∀ v1, fs v1 ↔ hT0 σ nh N B P d kd (nI v1) (σ 26 1)) (x : Nat → Nat → Int32) (hx : ∀ k1 i, x k1 i = og (NT P d N (nI (svn fs i)) (σ 26 1) (σ 26 2) 0 k1)) (K : Int32 → Sg → Prop) (h : ∀ σ', same scr σ σ' → K (askv (fun k1 => nI (mxt (x k1) (ctP fs 100) (ctP fs 100))) N) σ') : w_X6_ask σ K := by
  obtain ⟨ok, hP, hB, hc, hn, hs, hT, hPd, _, fnd⟩ := hv
  have hN := ok.1
  refine s_fitC σ nh N B P d kd hN hB hc hs hm fs hfs _ (fun σ' g1 g2 => ?_)
  refine s_askC σ σ' N P d hN hP hT hc fs g1 (fun i hi => ?_) x hx _ (fun σ2 w1 => ?_)
  · obtain ⟨a1, a2, a3⟩ := svn_ok hi
    have := g2 _ a1 a2
    rw [a3] at this
    exact this
  · have e : (fun k1 => nI (mxr (x k1) (ctP fs 100))) = fun k1 => nI (mxt (x k1) (ctP fs 100) (ctP fs 100)) := funext fun k1 => by rw [mx_eq]
    rw [e]
    exact h σ2 (w1.mono (by decide))
theorem s_mix (a1 b1 : Int64) (K : Int64 → Prop) (h : K (31 * a1 + b1)) : w_X6_mix a1 b1 K := h
theorem op_digest {σ τ : Sg} (h : Rel σ τ) : w_X6_digest σ (fun r1 σ1 => w_X7_digest τ (fun r2 τ1 => r1 = r2 ∧ Rel σ1 τ1)) := by
  obtain ⟨N, P, d, B, kd, hv⟩ := vc h
  obtain ⟨nh, hm, hm2⟩ := mm_of h
  obtain ⟨ok, hP, hB, hc, hn, hs, hT, hPd, _, fnd⟩ := id hv
  have hN := ok.1
  obtain ⟨⟨n0, n1, ht, hp⟩, ho⟩ := id h
  obtain ⟨t1, t2, t3, t4, t5, t6, t7, t8, t9, t10⟩ := ht
  obtain ⟨fs, hfs⟩ : ∃ fs : Nat → Prop, ∀ v1, fs v1 ↔ hT0 σ nh N B P d kd (nI v1) (σ 26 1) := ⟨_, fun _ => Iff.rfl⟩
  obtain ⟨fc, hfc⟩ : ∃ fc : Nat → Prop, ∀ v1, fc v1 ↔ hT0 σ nh N B P d kd (σ 26 0) (nI v1) := ⟨_, fun _ => Iff.rfl⟩
  obtain ⟨x, hx⟩ : ∃ x : Nat → Nat → Int32, ∀ k1 i, x k1 i = og (NT P d N (nI (svn fs i)) (σ 26 1) (σ 26 2) 0 k1) := ⟨_, fun _ _ => rfl⟩
  have hr : ∀ b1, b1 < B → rg (NT P d N (σ 26 0) (σ 26 1) (σ 26 2) (rb kd b1)) N := fun b1 hb => NT_rg ok hP hT (by have := rb_le kd b1; omega)
  have c0 : ∀ K : Int32 → Prop, K (enc (flt (σ 2) n0 n0 0)) → w_X6_fault 0 σ K := fun K hK => ntxY (k1 := 0) (by omega) _ (it_p rfl (it_p rfl (s_faultS σ 1 n0 t1 t5 _ hK)))
  have c1 : ∀ K : Int32 → Prop, K (enc (flB (σ 4) n1 0)) → w_X6_fault 1 σ K := fun K hK => ntxY (k1 := 1) (by omega) _ (it_p rfl (it_n (by decide) (s_faultB σ 3 n1 (by omega) t6 _ hK)))
  have c2 : ∀ K : Int32 → Prop, K (wh (σ 26 0) (σ 26 1) (σ 26 2) 0) → w_X6_whistle 0 σ K := fun K hK => it_n (by decide) (it_p (by decide) (s_pitchAt σ 26 _ _ hK))
  have c3 : ∀ K : Int32 → Prop, K (wh (σ 26 0) (σ 26 1) (σ 26 2) 9) → w_X6_whistle 9 σ K := fun K hK => it_n (by decide) (it_p (by decide) (s_pitchAt σ 26 _ _ hK))
  have c4 : ∀ K : Int32 → Prop, K (enc (fsP (opnP P d N kd (σ 26 0) (σ 26 1) (σ 26 2) (σ 26 3)) B)) → w_X6_open 0 σ K := fun K hK => nchY (k1 := 0) (by omega) _ (it_p rfl (s_openC σ 0 N B P d kd hN hB hc hs hr _ (it_p rfl hK)))
  have c5 : ∀ K : Int32 → Prop, K (nI (ctP (opnP P d N kd (σ 26 0) (σ 26 1) (σ 26 2) (σ 26 3)) B)) → w_X6_open 1 σ K := fun K hK => nchY (k1 := 1) (by omega) _ (it_p rfl (s_openC σ 1 N B P d kd hN hB hc hs hr _ (it_n (by decide) hK)))
  unfold w_X6_digest
  refine up2 (fun j y1 y3 => y1 = dgF (cvv σ N P d B kd) 17 j ∧ y3 = nI j) 8 ?_ 0 _ _ (Nat.zero_le _) ⟨rfl, rfl⟩
  rintro j rc _ _ hj ⟨rfl, rfl⟩ hrc
  unfold F_X6_digest_6
  by_cases c7 : ¬ 7 < j
  · refine it_n (fun z => c7 ((nI_ltI (a := 7) (by omega) (by omega)).mp z)) (s_cntC hv j (by omega) _ ?_)
    unfold w_X6_mix
    rw [nI_1]
    exact hrc _ _ (by omega) ⟨rfl, rfl⟩
  have ej : j = 8 := by omega
  subst ej
  clear hrc
  refine it_p (by decide) ?_
  unfold E_X6_digest_6
  refine c0 _ ?_
  refine s_mix _ _ _ ?_
  refine c1 _ ?_
  refine s_mix _ _ _ ?_
  refine s_mixS hv _ _ ?_
  refine s_mixB hv _ _ ?_
  refine c2 _ ?_
  refine s_mix _ _ _ ?_
  refine c3 _ ?_
  refine s_mix _ _ _ ?_
  refine c4 _ ?_
  refine s_mix _ _ _ ?_
  refine c5 _ ?_
  refine s_mix _ _ _ ?_
  refine (tw_stand h 0 (-1)).at same.rf _ (fun r1 σ1 s1 M1 => ?_)
  refine s_mix _ _ _ ?_
  refine (tw_stand (h.ks s1) 0 0).at s1 _ (fun r2 σ2 s2 M2 => ?_)
  refine s_mix _ _ _ ?_
  refine (tw_hush (h.ks s2) 0 0).at s2 _ (fun r3 M3 => ?_)
  refine s_mix _ _ _ ?_
  refine (tw_hush (h.ks s2) 0 1).at s2 _ (fun r4 M4 => ?_)
  refine s_mix _ _ _ ?_
  refine (tw_drive (h.ks s2) 0 0).at s2 _ (fun r5 σ3 s3 M5 => ?_)
  refine s_mix _ _ _ ?_
  refine (tw_drive (h.ks s3) 0 1).at s3 _ (fun r6 σ4 s4 M6 => ?_)
  refine s_mix _ _ _ ?_
  refine (tw_herd (h.ks s4) 3 5 0 0).at s4 _ (fun r7 σ5 s5 M7 => ?_)
  refine s_mix _ _ _ ?_
  refine (tw_herd (h.ks s5) 3 5 0 1).at s5 _ (fun r8 σ6 s6 M8 => ?_)
  refine s_mix _ _ _ ?_
  refine tw_times (hv.ks s6) 7 20 (by omega) (by omega) 0 _ (fun r9 σ7 t7 M9 => ?_)
  refine s_mix _ _ _ ?_
  have s7 := s6.tr t7
  have hfk : ∀ σk, same scr σ σk → ∀ v1, fs v1 ↔ hT0 σk nh N B P d kd (nI v1) (σk 26 1) := fun σk sk v1 => by
    show fs v1 ↔ hO (σk 29) (σk 30) (σk 31) nh N B P d kd (nI v1) (σk 26 1) (σk 26 2)
    rw [sk 29 (by decide), sk 30 (by decide), sk 31 (by decide), sk 26 (by decide)]
    exact hfs v1
  have hfck : ∀ σk, same scr σ σk → ∀ v1, fc v1 ↔ hT0 σk nh N B P d kd (σk 26 0) (nI v1) := fun σk sk v1 => by
    show fc v1 ↔ hO (σk 29) (σk 30) (σk 31) nh N B P d kd (σk 26 0) (nI v1) (σk 26 2)
    rw [sk 29 (by decide), sk 30 (by decide), sk 31 (by decide), sk 26 (by decide)]
    exact hfc v1
  refine s_spC1 (hv.ks s7) (hm.ks s7) fs (hfk σ7 s7) _ (fun σ8 t8 => ?_)
  refine s_mix _ _ _ ?_
  have s8 := s7.tr t8
  refine s_spC2 (hv.ks s8) (hm.ks s8) fs (hfk σ8 s8) _ (fun σ9 t9 => ?_)
  refine s_mix _ _ _ ?_
  have s9 := s8.tr t9
  have hv9 := hv.ks s9
  refine s_cowsC σ9 nh N B P d kd hN hB hv9.2.2.2.1 hv9.2.2.2.2.2.1 (hm.ks s9) fc (hfck σ9 s9) _ (fun σa ta => ?_)
  refine s_mix _ _ _ ?_
  have sa : same scr σ σa := s9.tr (ta.mono (by decide))
  refine s_asC (hv.ks sa) (hm.ks sa) fs (hfk σa sa) x (fun k1 i => by rw [sa 26 (by decide)]; exact hx k1 i) _ (fun σb tb => ?_)
  refine s_mix _ _ _ ?_
  have sb : same scr σ σb := sa.tr tb
  -- the model
  unfold w_X7_digest
  refine up3 (fun j y1 y3 ρ => y1 = dgF (cvv σ N P d B kd) 17 j ∧ y3 = nI j ∧ Rel σ ρ) 8 ?_ 0 _ _ _ (Nat.zero_le _) ⟨rfl, rfl, h⟩
  rintro j rc _ _ ρ hj ⟨rfl, rfl, hR⟩ hrc
  unfold F_X7_digest_6
  by_cases c8 : ¬ 8 ≤ j
  · refine it_n (fun z => c8 ((nI_leI (a := 8) (by omega) (by omega)).mp z)) (s_cntM hv hR j (by omega) _ (fun τ' hR' => ?_))
    rintro _ rfl
    rw [nI_1]
    exact hrc _ _ _ (by omega) ⟨rfl, rfl, hR'⟩
  have ej : j = 8 := by omega
  subst ej
  clear hrc
  refine it_p (by decide) ?_
  unfold E_X7_digest_6
  refine fltM0 hR n0 t1 t5 _ (fun ρ1 hR1 => ?_)
  rintro _ rfl
  refine fltM1 hR1 n1 t2 t6 _ (fun ρ2 hR2 => ?_)
  rintro _ rfl
  refine fnd ρ2 hR2 _ (fun ρ3 a1 a2 a3 hR3 a5 => ?_)
  refine s_mixSM hN a3 _ _ ?_
  unfold E_X7_digest_61
  refine s_mixBM1 hN hB a3 _ _ ?_
  unfold E_X7_digest_139
  refine s_mixBM2 hN hB a3 _ _ ?_
  unfold E_X7_digest_202
  refine s_whistleAt ρ3 _ _ ?_
  rintro _ rfl
  refine s_whistleAt ρ3 _ _ ?_
  rintro _ rfl
  refine s_openM ρ3 0 N B P d kd hN hB a3 _ (it_p rfl ?_)
  rintro _ rfl
  refine s_openM ρ3 1 N B P d kd hN hB a3 _ (it_n (by decide) ?_)
  rintro _ rfl
  rw [a5 0 (by omega), a5 1 (by omega), a5 2 (by omega), a5 3 (by omega)]
  refine M1 ρ3 hR3 _ (fun ρ4 hR4 => ?_)
  rintro _ rfl
  refine M2 ρ4 hR4 _ (fun ρ5 hR5 => ?_)
  rintro _ rfl
  refine M3 ρ5 hR5 _ (fun ρ6 hR6 => ?_)
  rintro _ rfl
  refine M4 ρ6 hR6 _ (fun ρ7 hR7 => ?_)
  rintro _ rfl
  refine M5 ρ7 hR7 _ (fun ρ8 hR8 => ?_)
  rintro _ rfl
  refine M6 ρ8 hR8 _ (fun ρ9 hR9 => ?_)
  rintro _ rfl
  refine M7 ρ9 hR9 _ (fun ρa hRa => ?_)
  rintro _ rfl
  refine M8 ρa hRa _ (fun ρb hRb => ?_)
  rintro _ rfl
  refine M9 ρb (hRb.ks s6) _ (fun ρc hRc fdc n9c => ?_)
  rintro _ rfl
  have hRc : Rel σ ρc := hRc.ks s6.sy
  have n9c : ∀ j, j < 4 → ρc 9 j = σ 26 j := fun j hj => by rw [n9c j hj, s6 26 (by decide)]
  refine s_speedsM σ ρc nh N B P d kd hN hB hm (hm2 ρc hRc) fdc n9c fs hfs (-1) (fun _ => none) rfl (fun n hn _ z => absurd z (nI_m1 (by have := ctP_le (p1 := fs) n; omega))) (fun _ _ => rfl) _ (fun ρd k1 k2 k3 fdd => it_p rfl ?_)
  rintro _ rfl
  have hRd : Rel σ ρd := hRc.kp k1
  have n9d : ∀ j, j < 4 → ρd 9 j = σ 26 j := fun j hj => by rw [k2]; exact n9c j hj
  refine s_speedsM σ ρd nh N B P d kd hN hB hm (hm2 ρd hRd) fdd n9d fs hfs (nI 0) (sel fs 0) rfl (fun n hn z z2 => sel_y z ?_) (fun n z => sel_n (fun y => z ⟨y.1, by rw [y.2]⟩)) _ (fun ρe k4 k5 k6 fde => it_n (by decide) ?_)
  · have := ctP_le (p1 := fs) n
    rw [nI_eq (by omega) (by omega)] at z2
    exact z2
  rintro _ rfl
  have hRe : Rel σ ρe := hRd.kp k4
  have n9e : ∀ j, j < 4 → ρe 9 j = σ 26 j := fun j hj => by rw [k5]; exact n9d j hj
  refine s_cowsM σ ρe nh N B P d kd hN hB hm (hm2 ρe hRe) fde n9e fc hfc _ (fun ρf k7 k8 k9 fdf => ?_)
  rintro _ rfl
  have hRf : Rel σ ρf := hRe.kp k7
  have n9f : ∀ j, j < 4 → ρf 9 j = σ 26 j := fun j hj => by rw [k8]; exact n9e j hj
  refine s_askM σ ρf nh N B P d kd hN hB hm (hm2 ρf hRf) fdf n9f fs hfs x hx _ (fun ρg kg => ⟨?_, (hRf.kp kg).ks sb⟩)
  rfl
