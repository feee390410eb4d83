/-! the start, by evaluation -/
theorem px_s0 : ∀ e ∈ px_l0, (vm_i wh_M e.1 e.2.1).toInt = e.2.2 := by decide +kernel
theorem px_s1 : ∀ e ∈ px_l1, ∀ k, k < e.2 → (vm_i wh_M e.1 k).toInt = 0 := by decide +kernel
theorem px_s2 : ∀ k, k < 720 → (vm_i wh_M 15 k).toInt = -1 := by decide +kernel
theorem px_s3 : ∀ k, k < 23 → (vm_l wh_M 17 k).toInt = px_kl.getD k 0 := by decide +kernel
theorem px_s4 : vm_rr wh_M 0 8 = none := by decide +kernel
theorem px_start : px_Inv 0 wh_M := px_start_of wh_M_Sh wh_M_n wh_M_s px_s0 px_s1 px_s2 px_s3 px_s4
