-- loops: rules by a counter that goes up to N
theorem up1 {A1 : Type} {F : (A1 → Prop) → A1 → Prop} (I : Nat → A1 → Prop) (N : Nat) (hs : ∀ (j : Nat) (rc : A1 → Prop) (a1 : A1), j ≤ N → I j a1 → (∀ (b1 : A1), j < N → I (j + 1) b1 → rc b1) → F rc a1) : ∀ (j : Nat) (a1 : A1), j ≤ N → I j a1 → ∃ n, lq1 F n a1 := by
  have key : ∀ (d j : Nat) (a1 : A1), j + d = N → I j a1 → lq1 F (d + 1) a1 := by
    intro d
    induction d with
    | zero => intro j a1 hj hi; exact hs j _ a1 (by omega) hi (fun b1 h _ => absurd h (by omega))
    | succ d ih => intro j a1 hj hi; exact hs j _ a1 (by omega) hi (fun b1 _ hb => ih (j + 1) b1 (by omega) hb)
  intro j a1 hj hi
  exact ⟨_, key (N - j) j a1 (by omega) hi⟩
theorem up2 {A1 A2 : Type} {F : (A1 → A2 → Prop) → A1 → A2 → Prop} (I : Nat → A1 → A2 → Prop) (N : Nat) (hs : ∀ (j : Nat) (rc : A1 → A2 → Prop) (a1 : A1) (a2 : A2), j ≤ N → I j a1 a2 → (∀ (b1 : A1) (b2 : A2), j < N → I (j + 1) b1 b2 → rc b1 b2) → F rc a1 a2) : ∀ (j : Nat) (a1 : A1) (a2 : A2), j ≤ N → I j a1 a2 → ∃ n, lq2 F n a1 a2 := by
  have key : ∀ (d j : Nat) (a1 : A1) (a2 : A2), j + d = N → I j a1 a2 → lq2 F (d + 1) a1 a2 := by
    intro d
    induction d with
    | zero => intro j a1 a2 hj hi; exact hs j _ a1 a2 (by omega) hi (fun b1 b2 h _ => absurd h (by omega))
    | succ d ih => intro j a1 a2 hj hi; exact hs j _ a1 a2 (by omega) hi (fun b1 b2 _ hb => ih (j + 1) b1 b2 (by omega) hb)
  intro j a1 a2 hj hi
  exact ⟨_, key (N - j) j a1 a2 (by omega) hi⟩
theorem up3 {A1 A2 A3 : Type} {F : (A1 → A2 → A3 → Prop) → A1 → A2 → A3 → Prop} (I : Nat → A1 → A2 → A3 → Prop) (N : Nat) (hs : ∀ (j : Nat) (rc : A1 → A2 → A3 → Prop) (a1 : A1) (a2 : A2) (a3 : A3), j ≤ N → I j a1 a2 a3 → (∀ (b1 : A1) (b2 : A2) (b3 : A3), j < N → I (j + 1) b1 b2 b3 → rc b1 b2 b3) → F rc a1 a2 a3) : ∀ (j : Nat) (a1 : A1) (a2 : A2) (a3 : A3), j ≤ N → I j a1 a2 a3 → ∃ n, lq3 F n a1 a2 a3 := by
  have key : ∀ (d j : Nat) (a1 : A1) (a2 : A2) (a3 : A3), j + d = N → I j a1 a2 a3 → lq3 F (d + 1) a1 a2 a3 := by
    intro d
    induction d with
    | zero => intro j a1 a2 a3 hj hi; exact hs j _ a1 a2 a3 (by omega) hi (fun b1 b2 b3 h _ => absurd h (by omega))
    | succ d ih => intro j a1 a2 a3 hj hi; exact hs j _ a1 a2 a3 (by omega) hi (fun b1 b2 b3 _ hb => ih (j + 1) b1 b2 b3 (by omega) hb)
  intro j a1 a2 a3 hj hi
  exact ⟨_, key (N - j) j a1 a2 a3 (by omega) hi⟩
theorem up4 {A1 A2 A3 A4 : Type} {F : (A1 → A2 → A3 → A4 → Prop) → A1 → A2 → A3 → A4 → Prop} (I : Nat → A1 → A2 → A3 → A4 → Prop) (N : Nat) (hs : ∀ (j : Nat) (rc : A1 → A2 → A3 → A4 → Prop) (a1 : A1) (a2 : A2) (a3 : A3) (a4 : A4), j ≤ N → I j a1 a2 a3 a4 → (∀ (b1 : A1) (b2 : A2) (b3 : A3) (b4 : A4), j < N → I (j + 1) b1 b2 b3 b4 → rc b1 b2 b3 b4) → F rc a1 a2 a3 a4) : ∀ (j : Nat) (a1 : A1) (a2 : A2) (a3 : A3) (a4 : A4), j ≤ N → I j a1 a2 a3 a4 → ∃ n, lq4 F n a1 a2 a3 a4 := by
  have key : ∀ (d j : Nat) (a1 : A1) (a2 : A2) (a3 : A3) (a4 : A4), j + d = N → I j a1 a2 a3 a4 → lq4 F (d + 1) a1 a2 a3 a4 := by
    intro d
    induction d with
    | zero => intro j a1 a2 a3 a4 hj hi; exact hs j _ a1 a2 a3 a4 (by omega) hi (fun b1 b2 b3 b4 h _ => absurd h (by omega))
    | succ d ih => intro j a1 a2 a3 a4 hj hi; exact hs j _ a1 a2 a3 a4 (by omega) hi (fun b1 b2 b3 b4 _ hb => ih (j + 1) b1 b2 b3 b4 (by omega) hb)
  intro j a1 a2 a3 a4 hj hi
  exact ⟨_, key (N - j) j a1 a2 a3 a4 (by omega) hi⟩
theorem up5 {A1 A2 A3 A4 A5 : Type} {F : (A1 → A2 → A3 → A4 → A5 → Prop) → A1 → A2 → A3 → A4 → A5 → Prop} (I : Nat → A1 → A2 → A3 → A4 → A5 → Prop) (N : Nat) (hs : ∀ (j : Nat) (rc : A1 → A2 → A3 → A4 → A5 → Prop) (a1 : A1) (a2 : A2) (a3 : A3) (a4 : A4) (a5 : A5), j ≤ N → I j a1 a2 a3 a4 a5 → (∀ (b1 : A1) (b2 : A2) (b3 : A3) (b4 : A4) (b5 : A5), j < N → I (j + 1) b1 b2 b3 b4 b5 → rc b1 b2 b3 b4 b5) → F rc a1 a2 a3 a4 a5) : ∀ (j : Nat) (a1 : A1) (a2 : A2) (a3 : A3) (a4 : A4) (a5 : A5), j ≤ N → I j a1 a2 a3 a4 a5 → ∃ n, lq5 F n a1 a2 a3 a4 a5 := by
  have key : ∀ (d j : Nat) (a1 : A1) (a2 : A2) (a3 : A3) (a4 : A4) (a5 : A5), j + d = N → I j a1 a2 a3 a4 a5 → lq5 F (d + 1) a1 a2 a3 a4 a5 := by
    intro d
    induction d with
    | zero => intro j a1 a2 a3 a4 a5 hj hi; exact hs j _ a1 a2 a3 a4 a5 (by omega) hi (fun b1 b2 b3 b4 b5 h _ => absurd h (by omega))
    | succ d ih => intro j a1 a2 a3 a4 a5 hj hi; exact hs j _ a1 a2 a3 a4 a5 (by omega) hi (fun b1 b2 b3 b4 b5 _ hb => ih (j + 1) b1 b2 b3 b4 b5 (by omega) hb)
  intro j a1 a2 a3 a4 a5 hj hi
  exact ⟨_, key (N - j) j a1 a2 a3 a4 a5 (by omega) hi⟩
theorem up6 {A1 A2 A3 A4 A5 A6 : Type} {F : (A1 → A2 → A3 → A4 → A5 → A6 → Prop) → A1 → A2 → A3 → A4 → A5 → A6 → Prop} (I : Nat → A1 → A2 → A3 → A4 → A5 → A6 → Prop) (N : Nat) (hs : ∀ (j : Nat) (rc : A1 → A2 → A3 → A4 → A5 → A6 → Prop) (a1 : A1) (a2 : A2) (a3 : A3) (a4 : A4) (a5 : A5) (a6 : A6), j ≤ N → I j a1 a2 a3 a4 a5 a6 → (∀ (b1 : A1) (b2 : A2) (b3 : A3) (b4 : A4) (b5 : A5) (b6 : A6), j < N → I (j + 1) b1 b2 b3 b4 b5 b6 → rc b1 b2 b3 b4 b5 b6) → F rc a1 a2 a3 a4 a5 a6) : ∀ (j : Nat) (a1 : A1) (a2 : A2) (a3 : A3) (a4 : A4) (a5 : A5) (a6 : A6), j ≤ N → I j a1 a2 a3 a4 a5 a6 → ∃ n, lq6 F n a1 a2 a3 a4 a5 a6 := by
  have key : ∀ (d j : Nat) (a1 : A1) (a2 : A2) (a3 : A3) (a4 : A4) (a5 : A5) (a6 : A6), j + d = N → I j a1 a2 a3 a4 a5 a6 → lq6 F (d + 1) a1 a2 a3 a4 a5 a6 := by
    intro d
    induction d with
    | zero => intro j a1 a2 a3 a4 a5 a6 hj hi; exact hs j _ a1 a2 a3 a4 a5 a6 (by omega) hi (fun b1 b2 b3 b4 b5 b6 h _ => absurd h (by omega))
    | succ d ih => intro j a1 a2 a3 a4 a5 a6 hj hi; exact hs j _ a1 a2 a3 a4 a5 a6 (by omega) hi (fun b1 b2 b3 b4 b5 b6 _ hb => ih (j + 1) b1 b2 b3 b4 b5 b6 (by omega) hb)
  intro j a1 a2 a3 a4 a5 a6 hj hi
  exact ⟨_, key (N - j) j a1 a2 a3 a4 a5 a6 (by omega) hi⟩
theorem up7 {A1 A2 A3 A4 A5 A6 A7 : Type} {F : (A1 → A2 → A3 → A4 → A5 → A6 → A7 → Prop) → A1 → A2 → A3 → A4 → A5 → A6 → A7 → Prop} (I : Nat → A1 → A2 → A3 → A4 → A5 → A6 → A7 → Prop) (N : Nat) (hs : ∀ (j : Nat) (rc : A1 → A2 → A3 → A4 → A5 → A6 → A7 → Prop) (a1 : A1) (a2 : A2) (a3 : A3) (a4 : A4) (a5 : A5) (a6 : A6) (a7 : A7), j ≤ N → I j a1 a2 a3 a4 a5 a6 a7 → (∀ (b1 : A1) (b2 : A2) (b3 : A3) (b4 : A4) (b5 : A5) (b6 : A6) (b7 : A7), j < N → I (j + 1) b1 b2 b3 b4 b5 b6 b7 → rc b1 b2 b3 b4 b5 b6 b7) → F rc a1 a2 a3 a4 a5 a6 a7) : ∀ (j : Nat) (a1 : A1) (a2 : A2) (a3 : A3) (a4 : A4) (a5 : A5) (a6 : A6) (a7 : A7), j ≤ N → I j a1 a2 a3 a4 a5 a6 a7 → ∃ n, lq7 F n a1 a2 a3 a4 a5 a6 a7 := by
  have key : ∀ (d j : Nat) (a1 : A1) (a2 : A2) (a3 : A3) (a4 : A4) (a5 : A5) (a6 : A6) (a7 : A7), j + d = N → I j a1 a2 a3 a4 a5 a6 a7 → lq7 F (d + 1) a1 a2 a3 a4 a5 a6 a7 := by
    intro d
    induction d with
    | zero => intro j a1 a2 a3 a4 a5 a6 a7 hj hi; exact hs j _ a1 a2 a3 a4 a5 a6 a7 (by omega) hi (fun b1 b2 b3 b4 b5 b6 b7 h _ => absurd h (by omega))
    | succ d ih => intro j a1 a2 a3 a4 a5 a6 a7 hj hi; exact hs j _ a1 a2 a3 a4 a5 a6 a7 (by omega) hi (fun b1 b2 b3 b4 b5 b6 b7 _ hb => ih (j + 1) b1 b2 b3 b4 b5 b6 b7 (by omega) hb)
  intro j a1 a2 a3 a4 a5 a6 a7 hj hi
  exact ⟨_, key (N - j) j a1 a2 a3 a4 a5 a6 a7 (by omega) hi⟩
theorem up8 {A1 A2 A3 A4 A5 A6 A7 A8 : Type} {F : (A1 → A2 → A3 → A4 → A5 → A6 → A7 → A8 → Prop) → A1 → A2 → A3 → A4 → A5 → A6 → A7 → A8 → Prop} (I : Nat → A1 → A2 → A3 → A4 → A5 → A6 → A7 → A8 → Prop) (N : Nat) (hs : ∀ (j : Nat) (rc : A1 → A2 → A3 → A4 → A5 → A6 → A7 → A8 → Prop) (a1 : A1) (a2 : A2) (a3 : A3) (a4 : A4) (a5 : A5) (a6 : A6) (a7 : A7) (a8 : A8), j ≤ N → I j a1 a2 a3 a4 a5 a6 a7 a8 → (∀ (b1 : A1) (b2 : A2) (b3 : A3) (b4 : A4) (b5 : A5) (b6 : A6) (b7 : A7) (b8 : A8), j < N → I (j + 1) b1 b2 b3 b4 b5 b6 b7 b8 → rc b1 b2 b3 b4 b5 b6 b7 b8) → F rc a1 a2 a3 a4 a5 a6 a7 a8) : ∀ (j : Nat) (a1 : A1) (a2 : A2) (a3 : A3) (a4 : A4) (a5 : A5) (a6 : A6) (a7 : A7) (a8 : A8), j ≤ N → I j a1 a2 a3 a4 a5 a6 a7 a8 → ∃ n, lq8 F n a1 a2 a3 a4 a5 a6 a7 a8 := by
  have key : ∀ (d j : Nat) (a1 : A1) (a2 : A2) (a3 : A3) (a4 : A4) (a5 : A5) (a6 : A6) (a7 : A7) (a8 : A8), j + d = N → I j a1 a2 a3 a4 a5 a6 a7 a8 → lq8 F (d + 1) a1 a2 a3 a4 a5 a6 a7 a8 := by
    intro d
    induction d with
    | zero => intro j a1 a2 a3 a4 a5 a6 a7 a8 hj hi; exact hs j _ a1 a2 a3 a4 a5 a6 a7 a8 (by omega) hi (fun b1 b2 b3 b4 b5 b6 b7 b8 h _ => absurd h (by omega))
    | succ d ih => intro j a1 a2 a3 a4 a5 a6 a7 a8 hj hi; exact hs j _ a1 a2 a3 a4 a5 a6 a7 a8 (by omega) hi (fun b1 b2 b3 b4 b5 b6 b7 b8 _ hb => ih (j + 1) b1 b2 b3 b4 b5 b6 b7 b8 (by omega) hb)
  intro j a1 a2 a3 a4 a5 a6 a7 a8 hj hi
  exact ⟨_, key (N - j) j a1 a2 a3 a4 a5 a6 a7 a8 (by omega) hi⟩
theorem up9 {A1 A2 A3 A4 A5 A6 A7 A8 A9 : Type} {F : (A1 → A2 → A3 → A4 → A5 → A6 → A7 → A8 → A9 → Prop) → A1 → A2 → A3 → A4 → A5 → A6 → A7 → A8 → A9 → Prop} (I : Nat → A1 → A2 → A3 → A4 → A5 → A6 → A7 → A8 → A9 → Prop) (N : Nat) (hs : ∀ (j : Nat) (rc : A1 → A2 → A3 → A4 → A5 → A6 → A7 → A8 → A9 → Prop) (a1 : A1) (a2 : A2) (a3 : A3) (a4 : A4) (a5 : A5) (a6 : A6) (a7 : A7) (a8 : A8) (a9 : A9), j ≤ N → I j a1 a2 a3 a4 a5 a6 a7 a8 a9 → (∀ (b1 : A1) (b2 : A2) (b3 : A3) (b4 : A4) (b5 : A5) (b6 : A6) (b7 : A7) (b8 : A8) (b9 : A9), j < N → I (j + 1) b1 b2 b3 b4 b5 b6 b7 b8 b9 → rc b1 b2 b3 b4 b5 b6 b7 b8 b9) → F rc a1 a2 a3 a4 a5 a6 a7 a8 a9) : ∀ (j : Nat) (a1 : A1) (a2 : A2) (a3 : A3) (a4 : A4) (a5 : A5) (a6 : A6) (a7 : A7) (a8 : A8) (a9 : A9), j ≤ N → I j a1 a2 a3 a4 a5 a6 a7 a8 a9 → ∃ n, lq9 F n a1 a2 a3 a4 a5 a6 a7 a8 a9 := by
  have key : ∀ (d j : Nat) (a1 : A1) (a2 : A2) (a3 : A3) (a4 : A4) (a5 : A5) (a6 : A6) (a7 : A7) (a8 : A8) (a9 : A9), j + d = N → I j a1 a2 a3 a4 a5 a6 a7 a8 a9 → lq9 F (d + 1) a1 a2 a3 a4 a5 a6 a7 a8 a9 := by
    intro d
    induction d with
    | zero => intro j a1 a2 a3 a4 a5 a6 a7 a8 a9 hj hi; exact hs j _ a1 a2 a3 a4 a5 a6 a7 a8 a9 (by omega) hi (fun b1 b2 b3 b4 b5 b6 b7 b8 b9 h _ => absurd h (by omega))
    | succ d ih => intro j a1 a2 a3 a4 a5 a6 a7 a8 a9 hj hi; exact hs j _ a1 a2 a3 a4 a5 a6 a7 a8 a9 (by omega) hi (fun b1 b2 b3 b4 b5 b6 b7 b8 b9 _ hb => ih (j + 1) b1 b2 b3 b4 b5 b6 b7 b8 b9 (by omega) hb)
  intro j a1 a2 a3 a4 a5 a6 a7 a8 a9 hj hi
  exact ⟨_, key (N - j) j a1 a2 a3 a4 a5 a6 a7 a8 a9 (by omega) hi⟩
theorem pt_s (σ : Sg) (k j : Nat) (x : Int32) : pt σ k j x k j = x := by rw [pt_eq]; exact pk_us
theorem pt_o (σ : Sg) {k j q : Nat} (x : Int32) (h : q ≠ j) : pt σ k j x k q = σ k q := by rw [pt_eq]; exact pk_un h
theorem nI_lit (n : Nat) : (OfNat.ofNat n : Int32) = nI n := fa_lit n
/-- cells outside L are as they were -/
def same (L : List Nat) (σ τ : Sg) : Prop := ∀ q, q ∉ L → τ q = σ q
theorem same.rf {L : List Nat} {σ : Sg} : same L σ σ := fun _ _ => rfl
theorem same.tr {L : List Nat} {σ τ ρ : Sg} (h : same L σ τ) (h2 : same L τ ρ) : same L σ ρ := fun q hq => (h2 q hq).trans (h q hq)
theorem same.pt {L : List Nat} {σ τ : Sg} {k j : Nat} {x : Int32} (h : same L σ τ) (hk : k ∈ L) : same L σ (pt τ k j x) := fun q hq => (pt_ne _ _ _ (by rintro rfl; exact hq hk)).trans (h q hq)
theorem same.ptf {L : List Nat} {σ τ : Sg} {k : Nat} {f : Nat → Int32} (h : same L σ τ) (hk : k ∈ L) : same L σ (ptf τ k f) := fun q hq => (ptf_ne _ _ (by rintro rfl; exact hq hk)).trans (h q hq)
theorem same.mono {L M : List Nat} {σ τ : Sg} (h : same L σ τ) (hs : ∀ q, q ∈ L → q ∈ M) : same M σ τ := fun q hq => h q (fun z => hq (hs q z))
theorem same.at {L : List Nat} {σ τ : Sg} (h : same L σ τ) {q : Nat} (hq : q ∉ L) : τ q = σ q := h q hq
/-- an index, or none -/
def enc : Option Nat → Int32
  | none => -1
  | some j => nI j
theorem enc_none : enc none = -1 := rfl
theorem enc_some (j : Nat) : enc (some j) = nI j := rfl
theorem nI_m1 {j : Nat} (h : j < 2 ^ 31) : ¬ nI j = -1 := by
  intro e
  have h1 := congrArg Int32.toInt e
  rw [nI_toInt h] at h1
  have h2 : (-1 : Int32).toInt = -1 := by decide
  omega
section
variable {a b n m : Nat}
theorem c_vin (ha : a < 2 ^ 31) (hn : n ≤ 2 ^ 31) : vp_in (nI a) n ↔ a < n := by
  unfold vp_in
  rw [nI_clamp ha]
  constructor
  · intro h
    exact Nat.not_le.mp fun z => h (Or.inr z)
  · intro h z
    rcases z with z | z
    · exact nI_pos ha z
    · omega
theorem c_em1 (ha : a < 2 ^ 31) : nI a = -nI 1 ↔ False := iff_false_intro (nI_m1 ha)
theorem c_m1e (ha : a < 2 ^ 31) : -nI 1 = nI a ↔ False := iff_false_intro (fun e => nI_m1 ha e.symm)
end
theorem it_p {c A B : Prop} [Decidable c] (hc : c) (a : A) : if c then A else B := by rw [if_pos hc]; exact a
theorem it_n {c A B : Prop} [Decidable c] (hc : ¬ c) (b : B) : if c then A else B := by rw [if_neg hc]; exact b
theorem it_c {c A B : Prop} [Decidable c] (a : c → A) (b : ¬ c → B) : if c then A else B := by
  by_cases h : c
  · exact it_p h (a h)
  · exact it_n h (b h)
theorem i_nle {a b : Int32} (h : a < b) : ¬ b ≤ a := fun z => by rw [fa_le] at z; rw [fa_lt] at h; omega
theorem i_nlt {a b : Int32} (h : a ≤ b) : ¬ b < a := fun z => by rw [fa_lt] at z; rw [fa_le] at h; omega
