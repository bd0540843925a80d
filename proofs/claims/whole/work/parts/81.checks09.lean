/-! CHECKS 9 -/
theorem cp_163_1 : gpiece gNt 181 k_X8_weights 163 40 38 = true := by decide +kernel
theorem cq_163_1 : gpiece gNt 181 k_X8_weights 163 0 78 = true := gpiece_add (lo := 0) (n := 40) (m := 38) cp_163_0 cp_163_1
set_option maxRecDepth 100000 in
theorem ck_163 : gchk gNt 181 (gM 163).1 163 = true := gchk_of (C := k_X8_weights) (n := 78) rfl (by decide +kernel) (by decide +kernel) (cq_163_1)
theorem ch_163 : ghd gM gNt 163 = true := by decide +kernel
theorem cp_164_0 : gpiece gNt 181 k_X8_factorial 164 0 15 = true := by decide +kernel
set_option maxRecDepth 100000 in
theorem ck_164 : gchk gNt 181 (gM 164).1 164 = true := gchk_of (C := k_X8_factorial) (n := 15) rfl (by decide +kernel) (by decide +kernel) (cp_164_0)
theorem ch_164 : ghd gM gNt 164 = true := by decide +kernel
theorem cp_165_0 : gpiece gNt 181 k_X8_common 165 0 22 = true := by decide +kernel
set_option maxRecDepth 100000 in
theorem ck_165 : gchk gNt 181 (gM 165).1 165 = true := gchk_of (C := k_X8_common) (n := 22) rfl (by decide +kernel) (by decide +kernel) (cp_165_0)
theorem ch_165 : ghd gM gNt 165 = true := by decide +kernel
theorem cp_166_0 : gpiece gNt 181 k_X8_tonesBy 166 0 31 = true := by decide +kernel
set_option maxRecDepth 100000 in
theorem ck_166 : gchk gNt 181 (gM 166).1 166 = true := gchk_of (C := k_X8_tonesBy) (n := 31) rfl (by decide +kernel) (by decide +kernel) (cp_166_0)
theorem ch_166 : ghd gM gNt 166 = true := by decide +kernel
theorem cp_167_0 : gpiece gNt 181 k_X8_share 167 0 40 = true := by decide +kernel
theorem cp_167_1 : gpiece gNt 181 k_X8_share 167 40 35 = true := by decide +kernel
theorem cq_167_1 : gpiece gNt 181 k_X8_share 167 0 75 = true := gpiece_add (lo := 0) (n := 40) (m := 35) cp_167_0 cp_167_1
set_option maxRecDepth 100000 in
theorem ck_167 : gchk gNt 181 (gM 167).1 167 = true := gchk_of (C := k_X8_share) (n := 75) rfl (by decide +kernel) (by decide +kernel) (cq_167_1)
theorem ch_167 : ghd gM gNt 167 = true := by decide +kernel
theorem cp_168_0 : gpiece gNt 181 k_X8_gain 168 0 34 = true := by decide +kernel
set_option maxRecDepth 100000 in
theorem ck_168 : gchk gNt 181 (gM 168).1 168 = true := gchk_of (C := k_X8_gain) (n := 34) rfl (by decide +kernel) (by decide +kernel) (cp_168_0)
theorem ch_168 : ghd gM gNt 168 = true := by decide +kernel
theorem cp_169_0 : gpiece gNt 181 k_X8_isRest 169 0 40 = true := by decide +kernel
theorem cp_169_1 : gpiece gNt 181 k_X8_isRest 169 40 4 = true := by decide +kernel
theorem cq_169_1 : gpiece gNt 181 k_X8_isRest 169 0 44 = true := gpiece_add (lo := 0) (n := 40) (m := 4) cp_169_0 cp_169_1
set_option maxRecDepth 100000 in
theorem ck_169 : gchk gNt 181 (gM 169).1 169 = true := gchk_of (C := k_X8_isRest) (n := 44) rfl (by decide +kernel) (by decide +kernel) (cq_169_1)
theorem ch_169 : ghd gM gNt 169 = true := by decide +kernel
theorem cp_170_0 : gpiece gNt 181 k_X8_rests 170 0 40 = true := by decide +kernel
theorem cp_170_1 : gpiece gNt 181 k_X8_rests 170 40 32 = true := by decide +kernel
theorem cq_170_1 : gpiece gNt 181 k_X8_rests 170 0 72 = true := gpiece_add (lo := 0) (n := 40) (m := 32) cp_170_0 cp_170_1
set_option maxRecDepth 100000 in
theorem ck_170 : gchk gNt 181 (gM 170).1 170 = true := gchk_of (C := k_X8_rests) (n := 72) rfl (by decide +kernel) (by decide +kernel) (cq_170_1)
theorem ch_170 : ghd gM gNt 170 = true := by decide +kernel
theorem cp_171_0 : gpiece gNt 181 k_X8_drips 171 0 40 = true := by decide +kernel
theorem cp_171_1 : gpiece gNt 181 k_X8_drips 171 40 40 = true := by decide +kernel
theorem cp_171_2 : gpiece gNt 181 k_X8_drips 171 80 18 = true := by decide +kernel
theorem cq_171_1 : gpiece gNt 181 k_X8_drips 171 0 80 = true := gpiece_add (lo := 0) (n := 40) (m := 40) cp_171_0 cp_171_1
theorem cq_171_2 : gpiece gNt 181 k_X8_drips 171 0 98 = true := gpiece_add (lo := 0) (n := 80) (m := 18) cq_171_1 cp_171_2
set_option maxRecDepth 100000 in
theorem ck_171 : gchk gNt 181 (gM 171).1 171 = true := gchk_of (C := k_X8_drips) (n := 98) rfl (by decide +kernel) (by decide +kernel) (cq_171_2)
theorem ch_171 : ghd gM gNt 171 = true := by decide +kernel
theorem cp_172_0 : gpiece gNt 181 k_X8_seed 172 0 8 = true := by decide +kernel
set_option maxRecDepth 100000 in
theorem ck_172 : gchk gNt 181 (gM 172).1 172 = true := gchk_of (C := k_X8_seed) (n := 8) rfl (by decide +kernel) (by decide +kernel) (cp_172_0)
theorem ch_172 : ghd gM gNt 172 = true := by decide +kernel
theorem cp_173_0 : gpiece gNt 181 k_X8_winters 173 0 40 = true := by decide +kernel
theorem cp_173_1 : gpiece gNt 181 k_X8_winters 173 40 40 = true := by decide +kernel
theorem cp_173_2 : gpiece gNt 181 k_X8_winters 173 80 11 = true := by decide +kernel
theorem cq_173_1 : gpiece gNt 181 k_X8_winters 173 0 80 = true := gpiece_add (lo := 0) (n := 40) (m := 40) cp_173_0 cp_173_1
theorem cq_173_2 : gpiece gNt 181 k_X8_winters 173 0 91 = true := gpiece_add (lo := 0) (n := 80) (m := 11) cq_173_1 cp_173_2
set_option maxRecDepth 100000 in
theorem ck_173 : gchk gNt 181 (gM 173).1 173 = true := gchk_of (C := k_X8_winters) (n := 91) rfl (by decide +kernel) (by decide +kernel) (cq_173_2)
theorem ch_173 : ghd gM gNt 173 = true := by decide +kernel
theorem cp_174_0 : gpiece gNt 181 k_X8_keep 174 0 38 = true := by decide +kernel
set_option maxRecDepth 100000 in
theorem ck_174 : gchk gNt 181 (gM 174).1 174 = true := gchk_of (C := k_X8_keep) (n := 38) rfl (by decide +kernel) (by decide +kernel) (cp_174_0)
theorem ch_174 : ghd gM gNt 174 = true := by decide +kernel
theorem cp_175_0 : gpiece gNt 181 k_X8_again 175 0 40 = true := by decide +kernel
theorem cp_175_1 : gpiece gNt 181 k_X8_again 175 40 3 = true := by decide +kernel
theorem cq_175_1 : gpiece gNt 181 k_X8_again 175 0 43 = true := gpiece_add (lo := 0) (n := 40) (m := 3) cp_175_0 cp_175_1
set_option maxRecDepth 100000 in
theorem ck_175 : gchk gNt 181 (gM 175).1 175 = true := gchk_of (C := k_X8_again) (n := 43) rfl (by decide +kernel) (by decide +kernel) (cq_175_1)
theorem ch_175 : ghd gM gNt 175 = true := by decide +kernel
theorem cp_176_0 : gpiece gNt 181 k_X8_count 176 0 40 = true := by decide +kernel
set_option maxRecDepth 100000 in
theorem ck_176 : gchk gNt 181 (gM 176).1 176 = true := gchk_of (C := k_X8_count) (n := 40) rfl (by decide +kernel) (by decide +kernel) (cp_176_0)
theorem ch_176 : ghd gM gNt 176 = true := by decide +kernel
theorem cp_177_0 : gpiece gNt 181 k_J6_bitCount_0f7a4 177 0 40 = true := by decide +kernel
theorem cp_177_1 : gpiece gNt 181 k_J6_bitCount_0f7a4 177 40 2 = true := by decide +kernel
theorem cq_177_1 : gpiece gNt 181 k_J6_bitCount_0f7a4 177 0 42 = true := gpiece_add (lo := 0) (n := 40) (m := 2) cp_177_0 cp_177_1
set_option maxRecDepth 100000 in
theorem ck_177 : gchk gNt 181 (gM 177).1 177 = true := gchk_of (C := k_J6_bitCount_0f7a4) (n := 42) rfl (by decide +kernel) (by decide +kernel) (cq_177_1)
theorem ch_177 : ghd gM gNt 177 = true := by decide +kernel
theorem cp_178_0 : gpiece gNt 181 k_J9_floorMod_7cf53 178 0 16 = true := by decide +kernel
