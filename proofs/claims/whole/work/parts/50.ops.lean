def Rel (σ τ : Sg) : Prop := σ = τ
theorem Rel_0 : Rel σC0 σM0 := by
  sorry
theorem op_type {σ τ : Sg} (h : Rel σ τ) (x1 x2 : Int32) : w_X6_type x1 x2 σ (fun r1 σ1 => w_X7_type x1 x2 τ (fun r2 τ1 => r1 = r2 ∧ Rel σ1 τ1)) := by
  sorry
theorem op_wipe {σ τ : Sg} (h : Rel σ τ) (x1 : Int32) : w_X6_wipe x1 σ (fun r1 σ1 => w_X7_wipe x1 τ (fun r2 τ1 => r1 = r2 ∧ Rel σ1 τ1)) := by
  sorry
theorem op_undo {σ τ : Sg} (h : Rel σ τ) (x1 : Int32) : w_X6_undo x1 σ (fun r1 σ1 => w_X7_undo x1 τ (fun r2 τ1 => r1 = r2 ∧ Rel σ1 τ1)) := by
  sorry
theorem op_fault {σ τ : Sg} (h : Rel σ τ) (x1 : Int32) : w_X6_fault x1 σ (fun r1 => w_X7_fault x1 τ (fun r2 τ1 => r1 = r2 ∧ Rel σ τ1)) := by
  sorry
theorem op_singer {σ τ : Sg} (h : Rel σ τ) (x1 x2 : Int32) : w_X6_singer x1 x2 σ (fun r1 => w_X7_singer x1 x2 τ (fun r2 τ1 => r1 = r2 ∧ Rel σ τ1)) := by
  sorry
theorem op_bar {σ τ : Sg} (h : Rel σ τ) (x1 : Int32) : w_X6_bar x1 σ (fun r1 => w_X7_bar x1 τ (fun r2 τ1 => r1 = r2 ∧ Rel σ τ1)) := by
  sorry
theorem op_set {σ τ : Sg} (h : Rel σ τ) (x1 x2 : Int32) : w_X6_set x1 x2 σ (fun r1 σ1 => w_X7_set x1 x2 τ (fun r2 τ1 => r1 = r2 ∧ Rel σ1 τ1)) := by
  sorry
theorem op_whistle {σ τ : Sg} (h : Rel σ τ) (x1 : Int32) : w_X6_whistle x1 σ (fun r1 => w_X7_whistle x1 τ (fun r2 => r1 = r2 ∧ Rel σ τ)) := by
  sorry
theorem op_ear {σ τ : Sg} (h : Rel σ τ) (x1 x2 : Int32) : w_X6_ear x1 x2 σ (fun r1 => w_X7_ear x1 x2 τ (fun r2 τ1 => r1 = r2 ∧ Rel σ τ1)) := by
  sorry
theorem op_note {σ τ : Sg} (h : Rel σ τ) (x1 x2 : Int32) : w_X6_note x1 x2 σ (fun r1 => w_X7_note x1 x2 τ (fun r2 τ1 => r1 = r2 ∧ Rel σ τ1)) := by
  sorry
theorem op_away {σ τ : Sg} (h : Rel σ τ) (x1 x2 : Int32) : w_X6_away x1 x2 σ (fun r1 => w_X7_away x1 x2 τ (fun r2 τ1 => r1 = r2 ∧ Rel σ τ1)) := by
  sorry
theorem op_chord {σ τ : Sg} (h : Rel σ τ) (x1 x2 : Int32) : w_X6_chord x1 x2 σ (fun r1 => w_X7_chord x1 x2 τ (fun r2 τ1 => r1 = r2 ∧ Rel σ τ1)) := by
  sorry
theorem op_open {σ τ : Sg} (h : Rel σ τ) (x1 : Int32) : w_X6_open x1 σ (fun r1 => w_X7_open x1 τ (fun r2 τ1 => r1 = r2 ∧ Rel σ τ1)) := by
  sorry
theorem op_stand {σ τ : Sg} (h : Rel σ τ) (x1 x2 : Int32) : w_X6_stand x1 x2 σ (fun r1 σ1 => w_X7_stand x1 x2 τ (fun r2 τ1 => r1 = r2 ∧ Rel σ1 τ1)) := by
  sorry
theorem op_hush {σ τ : Sg} (h : Rel σ τ) (x1 x2 : Int32) : w_X6_hush x1 x2 σ (fun r1 => w_X7_hush x1 x2 τ (fun r2 τ1 => r1 = r2 ∧ Rel σ τ1)) := by
  sorry
theorem op_drive {σ τ : Sg} (h : Rel σ τ) (x1 x2 : Int32) : w_X6_drive x1 x2 σ (fun r1 σ1 => w_X7_drive x1 x2 τ (fun r2 τ1 => r1 = r2 ∧ Rel σ1 τ1)) := by
  sorry
theorem op_heard {σ τ : Sg} (h : Rel σ τ) (x1 x2 x3 : Int32) : w_X6_heard x1 x2 x3 σ (fun r1 σ1 => w_X7_heard x1 x2 x3 τ (fun r2 τ1 => r1 = r2 ∧ Rel σ1 τ1)) := by
  sorry
theorem op_forget {σ τ : Sg} (h : Rel σ τ) : w_X6_forget σ (fun r1 σ1 => w_X7_forget τ (fun r2 τ1 => r1 = r2 ∧ Rel σ1 τ1)) := by
  sorry
theorem op_read {σ τ : Sg} (h : Rel σ τ) (x1 : Int32) : w_X6_read x1 σ (fun r1 σ1 => w_X7_read x1 τ (fun r2 τ1 => r1 = r2 ∧ Rel σ1 τ1)) := by
  sorry
theorem op_speeds {σ τ : Sg} (h : Rel σ τ) (x1 : Int32) : w_X6_speeds x1 σ (fun r1 σ1 => w_X7_speeds x1 τ (fun r2 τ1 => r1 = r2 ∧ Rel σ1 τ1)) := by
  sorry
theorem op_cows {σ τ : Sg} (h : Rel σ τ) : w_X6_cows σ (fun r1 σ1 => w_X7_cows τ (fun r2 τ1 => r1 = r2 ∧ Rel σ1 τ1)) := by
  sorry
theorem op_ask {σ τ : Sg} (h : Rel σ τ) : w_X6_ask σ (fun r1 σ1 => w_X7_ask τ (fun r2 τ1 => r1 = r2 ∧ Rel σ1 τ1)) := by
  sorry
theorem op_herd {σ τ : Sg} (h : Rel σ τ) (x1 x2 x3 x4 : Int32) : w_X6_herd x1 x2 x3 x4 σ (fun r1 σ1 => w_X7_herd x1 x2 x3 x4 τ (fun r2 τ1 => r1 = r2 ∧ Rel σ1 τ1)) := by
  sorry
theorem op_times {σ τ : Sg} (h : Rel σ τ) (x1 x2 x3 : Int32) : w_X6_times x1 x2 x3 σ (fun r1 σ1 => w_X7_times x1 x2 x3 τ (fun r2 τ1 => r1 = r2 ∧ Rel σ1 τ1)) := by
  sorry
theorem op_sheet {σ τ : Sg} (h : Rel σ τ) (x1 x2 x3 : Int32) : w_X6_sheet x1 x2 x3 σ (fun r1 σ1 => w_X7_sheet x1 x2 x3 τ (fun r2 τ1 => r1 = r2 ∧ Rel σ1 τ1)) := by
  sorry
theorem op_lose {σ τ : Sg} (h : Rel σ τ) (x1 : Int32) : w_X6_lose x1 σ (fun r1 σ1 => w_X7_lose x1 τ (fun r2 τ1 => r1 = r2 ∧ Rel σ1 τ1)) := by
  sorry
theorem op_lay {σ τ : Sg} (h : Rel σ τ) (x1 x2 x3 x4 : Int32) : w_X6_lay x1 x2 x3 x4 σ (fun r1 σ1 => w_X7_lay x1 x2 x3 x4 τ (fun r2 τ1 => r1 = r2 ∧ Rel σ1 τ1)) := by
  sorry
theorem op_get {σ τ : Sg} (h : Rel σ τ) (x1 x2 x3 : Int32) : w_X6_get x1 x2 x3 σ (fun r1 σ1 => w_X7_get x1 x2 x3 τ (fun r2 τ1 => r1 = r2 ∧ Rel σ1 τ1)) := by
  sorry
theorem op_copy {σ τ : Sg} (h : Rel σ τ) (x1 x2 x3 x4 x5 : Int32) : w_X6_copy x1 x2 x3 x4 x5 σ (fun r1 σ1 => w_X7_copy x1 x2 x3 x4 x5 τ (fun r2 τ1 => r1 = r2 ∧ Rel σ1 τ1)) := by
  sorry
theorem op_write {σ τ : Sg} (h : Rel σ τ) (x1 x2 : Int32) : w_X6_write x1 x2 σ (fun r1 σ1 => w_X7_write x1 x2 τ (fun r2 τ1 => r1 = r2 ∧ Rel σ1 τ1)) := by
  sorry
theorem op_count {σ τ : Sg} (h : Rel σ τ) (x1 : Int32) : w_X6_count x1 σ (fun r1 => w_X7_count x1 τ (fun r2 τ1 => r1 = r2 ∧ Rel σ τ1)) := by
  sorry
theorem op_digest {σ τ : Sg} (h : Rel σ τ) : w_X6_digest σ (fun r1 σ1 => w_X7_digest τ (fun r2 τ1 => r1 = r2 ∧ Rel σ1 τ1)) := by
  sorry
