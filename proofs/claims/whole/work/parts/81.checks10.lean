/-! CHECKS 10 -/
set_option maxRecDepth 100000 in
theorem ck_178 : gchk gNt 181 (gM 178).1 178 = true := gchk_of (C := k_J9_floorMod_7cf53) (n := 16) rfl (by decide +kernel) (by decide +kernel) (cp_178_0)
theorem ch_178 : ghd gM gNt 178 = true := by decide +kernel
theorem cp_179_0 : gpiece gNt 181 k_J9_abs_0f7a4 179 0 7 = true := by decide +kernel
set_option maxRecDepth 100000 in
theorem ck_179 : gchk gNt 181 (gM 179).1 179 = true := gchk_of (C := k_J9_abs_0f7a4) (n := 7) rfl (by decide +kernel) (by decide +kernel) (cp_179_0)
theorem ch_179 : ghd gM gNt 179 = true := by decide +kernel
theorem cp_180_0 : gpiece gNt 181 k_J9_min_7cf53 180 0 7 = true := by decide +kernel
set_option maxRecDepth 100000 in
theorem ck_180 : gchk gNt 181 (gM 180).1 180 = true := gchk_of (C := k_J9_min_7cf53) (n := 7) rfl (by decide +kernel) (by decide +kernel) (cp_180_0)
theorem ch_180 : ghd gM gNt 180 = true := by decide +kernel
