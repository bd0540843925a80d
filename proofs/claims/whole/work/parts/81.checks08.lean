/-! CHECKS 8 -/
theorem cq_146_1 : gpiece gNt 181 k_X8_harmonyOf 146 0 50 = true := gpiece_add (lo := 0) (n := 40) (m := 10) cp_146_0 cp_146_1
set_option maxRecDepth 100000 in
theorem ck_146 : gchk gNt 181 (gM 146).1 146 = true := gchk_of (C := k_X8_harmonyOf) (n := 50) rfl (by decide +kernel) (by decide +kernel) (cq_146_1)
theorem ch_146 : ghd gM gNt 146 = true := by decide +kernel
theorem cp_147_0 : gpiece gNt 181 k_X8_harmony 147 0 35 = true := by decide +kernel
set_option maxRecDepth 100000 in
theorem ck_147 : gchk gNt 181 (gM 147).1 147 = true := gchk_of (C := k_X8_harmony) (n := 35) rfl (by decide +kernel) (by decide +kernel) (cp_147_0)
theorem ch_147 : ghd gM gNt 147 = true := by decide +kernel
theorem cp_148_0 : gpiece gNt 181 k_X8_layTrial 148 0 18 = true := by decide +kernel
set_option maxRecDepth 100000 in
theorem ck_148 : gchk gNt 181 (gM 148).1 148 = true := gchk_of (C := k_X8_layTrial) (n := 18) rfl (by decide +kernel) (by decide +kernel) (cp_148_0)
theorem ch_148 : ghd gM gNt 148 = true := by decide +kernel
theorem cp_149_0 : gpiece gNt 181 k_X8_power 149 0 15 = true := by decide +kernel
set_option maxRecDepth 100000 in
theorem ck_149 : gchk gNt 181 (gM 149).1 149 = true := gchk_of (C := k_X8_power) (n := 15) rfl (by decide +kernel) (by decide +kernel) (cp_149_0)
theorem ch_149 : ghd gM gNt 149 = true := by decide +kernel
theorem cp_150_0 : gpiece gNt 181 k_X8_driveRow 150 0 40 = true := by decide +kernel
theorem cp_150_1 : gpiece gNt 181 k_X8_driveRow 150 40 15 = true := by decide +kernel
theorem cq_150_1 : gpiece gNt 181 k_X8_driveRow 150 0 55 = true := gpiece_add (lo := 0) (n := 40) (m := 15) cp_150_0 cp_150_1
set_option maxRecDepth 100000 in
theorem ck_150 : gchk gNt 181 (gM 150).1 150 = true := gchk_of (C := k_X8_driveRow) (n := 55) rfl (by decide +kernel) (by decide +kernel) (cq_150_1)
theorem ch_150 : ghd gM gNt 150 = true := by decide +kernel
theorem cp_151_0 : gpiece gNt 181 k_X8_told 151 0 40 = true := by decide +kernel
theorem cp_151_1 : gpiece gNt 181 k_X8_told 151 40 9 = true := by decide +kernel
theorem cq_151_1 : gpiece gNt 181 k_X8_told 151 0 49 = true := gpiece_add (lo := 0) (n := 40) (m := 9) cp_151_0 cp_151_1
set_option maxRecDepth 100000 in
theorem ck_151 : gchk gNt 181 (gM 151).1 151 = true := gchk_of (C := k_X8_told) (n := 49) rfl (by decide +kernel) (by decide +kernel) (cq_151_1)
theorem ch_151 : ghd gM gNt 151 = true := by decide +kernel
theorem cp_152_0 : gpiece gNt 181 k_X8_bestFit 152 0 40 = true := by decide +kernel
theorem cp_152_1 : gpiece gNt 181 k_X8_bestFit 152 40 8 = true := by decide +kernel
theorem cq_152_1 : gpiece gNt 181 k_X8_bestFit 152 0 48 = true := gpiece_add (lo := 0) (n := 40) (m := 8) cp_152_0 cp_152_1
set_option maxRecDepth 100000 in
theorem ck_152 : gchk gNt 181 (gM 152).1 152 = true := gchk_of (C := k_X8_bestFit) (n := 48) rfl (by decide +kernel) (by decide +kernel) (cq_152_1)
theorem ch_152 : ghd gM gNt 152 = true := by decide +kernel
theorem cp_153_0 : gpiece gNt 181 k_X8_best 153 0 32 = true := by decide +kernel
set_option maxRecDepth 100000 in
theorem ck_153 : gchk gNt 181 (gM 153).1 153 = true := gchk_of (C := k_X8_best) (n := 32) rfl (by decide +kernel) (by decide +kernel) (cp_153_0)
theorem ch_153 : ghd gM gNt 153 = true := by decide +kernel
theorem cp_154_0 : gpiece gNt 181 k_X8_fewest 154 0 23 = true := by decide +kernel
set_option maxRecDepth 100000 in
theorem ck_154 : gchk gNt 181 (gM 154).1 154 = true := gchk_of (C := k_X8_fewest) (n := 23) rfl (by decide +kernel) (by decide +kernel) (cp_154_0)
theorem ch_154 : ghd gM gNt 154 = true := by decide +kernel
theorem cp_155_0 : gpiece gNt 181 k_X8_tonesIn 155 0 26 = true := by decide +kernel
set_option maxRecDepth 100000 in
theorem ck_155 : gchk gNt 181 (gM 155).1 155 = true := gchk_of (C := k_X8_tonesIn) (n := 26) rfl (by decide +kernel) (by decide +kernel) (cp_155_0)
theorem ch_155 : ghd gM gNt 155 = true := by decide +kernel
theorem cp_156_0 : gpiece gNt 181 k_X8_has 156 0 40 = true := by decide +kernel
theorem cp_156_1 : gpiece gNt 181 k_X8_has 156 40 30 = true := by decide +kernel
theorem cq_156_1 : gpiece gNt 181 k_X8_has 156 0 70 = true := gpiece_add (lo := 0) (n := 40) (m := 30) cp_156_0 cp_156_1
set_option maxRecDepth 100000 in
theorem ck_156 : gchk gNt 181 (gM 156).1 156 = true := gchk_of (C := k_X8_has) (n := 70) rfl (by decide +kernel) (by decide +kernel) (cq_156_1)
theorem ch_156 : ghd gM gNt 156 = true := by decide +kernel
theorem cp_157_0 : gpiece gNt 181 k_X8_isSilent 157 0 38 = true := by decide +kernel
set_option maxRecDepth 100000 in
theorem ck_157 : gchk gNt 181 (gM 157).1 157 = true := gchk_of (C := k_X8_isSilent) (n := 38) rfl (by decide +kernel) (by decide +kernel) (cp_157_0)
theorem ch_157 : ghd gM gNt 157 = true := by decide +kernel
theorem cp_158_0 : gpiece gNt 181 k_X8_silence 158 0 40 = true := by decide +kernel
theorem cp_158_1 : gpiece gNt 181 k_X8_silence 158 40 3 = true := by decide +kernel
theorem cq_158_1 : gpiece gNt 181 k_X8_silence 158 0 43 = true := gpiece_add (lo := 0) (n := 40) (m := 3) cp_158_0 cp_158_1
set_option maxRecDepth 100000 in
theorem ck_158 : gchk gNt 181 (gM 158).1 158 = true := gchk_of (C := k_X8_silence) (n := 43) rfl (by decide +kernel) (by decide +kernel) (cq_158_1)
theorem ch_158 : ghd gM gNt 158 = true := by decide +kernel
theorem cp_159_0 : gpiece gNt 181 k_X8_tryThing 159 0 40 = true := by decide +kernel
theorem cp_159_1 : gpiece gNt 181 k_X8_tryThing 159 40 40 = true := by decide +kernel
theorem cp_159_2 : gpiece gNt 181 k_X8_tryThing 159 80 32 = true := by decide +kernel
theorem cq_159_1 : gpiece gNt 181 k_X8_tryThing 159 0 80 = true := gpiece_add (lo := 0) (n := 40) (m := 40) cp_159_0 cp_159_1
theorem cq_159_2 : gpiece gNt 181 k_X8_tryThing 159 0 112 = true := gpiece_add (lo := 0) (n := 80) (m := 32) cq_159_1 cp_159_2
set_option maxRecDepth 100000 in
theorem ck_159 : gchk gNt 181 (gM 159).1 159 = true := gchk_of (C := k_X8_tryThing) (n := 112) rfl (by decide +kernel) (by decide +kernel) (cq_159_2)
theorem ch_159 : ghd gM gNt 159 = true := by decide +kernel
theorem cp_160_0 : gpiece gNt 181 k_X8_judge 160 0 40 = true := by decide +kernel
theorem cp_160_1 : gpiece gNt 181 k_X8_judge 160 40 13 = true := by decide +kernel
theorem cq_160_1 : gpiece gNt 181 k_X8_judge 160 0 53 = true := gpiece_add (lo := 0) (n := 40) (m := 13) cp_160_0 cp_160_1
set_option maxRecDepth 100000 in
theorem ck_160 : gchk gNt 181 (gM 160).1 160 = true := gchk_of (C := k_X8_judge) (n := 53) rfl (by decide +kernel) (by decide +kernel) (cq_160_1)
theorem ch_160 : ghd gM gNt 160 = true := by decide +kernel
theorem cp_161_0 : gpiece gNt 181 k_X8_hear 161 0 40 = true := by decide +kernel
theorem cp_161_1 : gpiece gNt 181 k_X8_hear 161 40 13 = true := by decide +kernel
theorem cq_161_1 : gpiece gNt 181 k_X8_hear 161 0 53 = true := gpiece_add (lo := 0) (n := 40) (m := 13) cp_161_0 cp_161_1
set_option maxRecDepth 100000 in
theorem ck_161 : gchk gNt 181 (gM 161).1 161 = true := gchk_of (C := k_X8_hear) (n := 53) rfl (by decide +kernel) (by decide +kernel) (cq_161_1)
theorem ch_161 : ghd gM gNt 161 = true := by decide +kernel
theorem cp_162_0 : gpiece gNt 181 k_X8_unhear 162 0 8 = true := by decide +kernel
set_option maxRecDepth 100000 in
theorem ck_162 : gchk gNt 181 (gM 162).1 162 = true := gchk_of (C := k_X8_unhear) (n := 8) rfl (by decide +kernel) (by decide +kernel) (cp_162_0)
theorem ch_162 : ghd gM gNt 162 = true := by decide +kernel
theorem cp_163_0 : gpiece gNt 181 k_X8_weights 163 0 40 = true := by decide +kernel
