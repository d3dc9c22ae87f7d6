/-! FIELDS, ARRAYS, BRANCHES, RETURNS over the mini heap. -/
theorem inG0 : ∀ w ∈ u_ws RX0 TX0 6, w ∈ gtb := by decide +kernel
theorem inG1 : ∀ w ∈ u_ws RX1 TX1 2, w ∈ gtb := by decide +kernel
theorem inG2 : ∀ w ∈ u_ws RX2 TX2 7, w ∈ gtb := by decide +kernel
theorem inG3 : ∀ w ∈ u_ws RX3 TX3 11, w ∈ gtb := by decide +kernel
theorem inG4 : ∀ w ∈ u_ws RX4 TX4 11, w ∈ gtb := by decide +kernel
theorem inG5 : ∀ w ∈ u_ws RX5 TX5 13, w ∈ gtb := by decide +kernel
theorem inG6 : ∀ w ∈ u_ws RX6 TX6 2, w ∈ gtb := by decide +kernel
theorem inG7 : ∀ w ∈ u_ws RX7 TX7 4, w ∈ gtb := by decide +kernel
theorem inG8 : ∀ w ∈ u_ws RX8 TX8 4, w ∈ gtb := by decide +kernel
theorem inG9 : ∀ w ∈ u_ws RX9 TX9 7, w ∈ gtb := by decide +kernel
theorem inG10 : ∀ w ∈ u_ws RX10 TX10 10, w ∈ gtb := by decide +kernel
theorem inG11 : ∀ w ∈ u_ws RX11 TX11 5, w ∈ gtb := by decide +kernel
theorem inG12 : ∀ w ∈ u_ws RX12 TX12 25, w ∈ gtb := by decide +kernel
def ClsOk (r : vw_C) : Prop := (∀ w ∈ u_ws r.1 r.2.1 r.2.2, w ∈ gtb) ∧ (∃ ty0 : Nat → FieldType, ∀ k, k < r.2.2 → parseFieldDescriptor (r.2.1 k).2.2.1 = some (ty0 k)) ∧ ∀ a, a < r.2.2 → ∀ b, b < r.2.2 → a ≠ b → (r.2.1 a).2.1 ≠ (r.2.1 b).2.1
theorem clsOk : ∀ (ci : Nat) (r : vw_C), vwCl[ci]? = some r → ClsOk r := by
  intro ci r h
  match ci, h with
  | 0, h => cases h; exact ⟨inG0, ⟨tyX0, tyX0_ok⟩, nmX0⟩
  | 1, h => cases h; exact ⟨inG1, ⟨tyX1, tyX1_ok⟩, nmX1⟩
  | 2, h => cases h; exact ⟨inG2, ⟨tyX2, tyX2_ok⟩, nmX2⟩
  | 3, h => cases h; exact ⟨inG3, ⟨tyX3, tyX3_ok⟩, nmX3⟩
  | 4, h => cases h; exact ⟨inG4, ⟨tyX4, tyX4_ok⟩, nmX4⟩
  | 5, h => cases h; exact ⟨inG5, ⟨tyX5, tyX5_ok⟩, nmX5⟩
  | 6, h => cases h; exact ⟨inG6, ⟨tyX6, tyX6_ok⟩, nmX6⟩
  | 7, h => cases h; exact ⟨inG7, ⟨tyX7, tyX7_ok⟩, nmX7⟩
  | 8, h => cases h; exact ⟨inG8, ⟨tyX8, tyX8_ok⟩, nmX8⟩
  | 9, h => cases h; exact ⟨inG9, ⟨tyX9, tyX9_ok⟩, nmX9⟩
  | 10, h => cases h; exact ⟨inG10, ⟨tyX10, tyX10_ok⟩, nmX10⟩
  | 11, h => cases h; exact ⟨inG11, ⟨tyX11, tyX11_ok⟩, nmX11⟩
  | 12, h => cases h; exact ⟨inG12, ⟨tyX12, tyX12_ok⟩, nmX12⟩
  | c + 13, h => simp [vwCl] at h
