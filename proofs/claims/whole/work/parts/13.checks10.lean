/-! CHECKS 10 -/
theorem ck_178 : gchk gNt 181 (gM 178).1 178 = true := Bool.and_eq_true_iff.mpr ⟨by decide +kernel, cp_178_0⟩
theorem ch_178 : ghd gM gNt 178 = true := by decide +kernel
theorem cp_179_0 : gpiece gNt 181 k_J9_abs_0f7a4 179 0 7 = true := by decide +kernel
theorem ck_179 : gchk gNt 181 (gM 179).1 179 = true := Bool.and_eq_true_iff.mpr ⟨by decide +kernel, cp_179_0⟩
theorem ch_179 : ghd gM gNt 179 = true := by decide +kernel
theorem cp_180_0 : gpiece gNt 181 k_J9_min_7cf53 180 0 7 = true := by decide +kernel
theorem ck_180 : gchk gNt 181 (gM 180).1 180 = true := Bool.and_eq_true_iff.mpr ⟨by decide +kernel, cp_180_0⟩
theorem ch_180 : ghd gM gNt 180 = true := by decide +kernel
