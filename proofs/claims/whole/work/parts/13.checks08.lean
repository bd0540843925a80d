/-! CHECKS 8 -/
theorem ck_146 : gchk gNt 181 (gM 146).1 146 = true := Bool.and_eq_true_iff.mpr ⟨by decide +kernel, gpiece_add (cp_146_0) cp_146_1⟩
theorem ch_146 : ghd gM gNt 146 = true := by decide +kernel
theorem cp_147_0 : gpiece gNt 181 k_X8_harmony 147 0 35 = true := by decide +kernel
theorem ck_147 : gchk gNt 181 (gM 147).1 147 = true := Bool.and_eq_true_iff.mpr ⟨by decide +kernel, cp_147_0⟩
theorem ch_147 : ghd gM gNt 147 = true := by decide +kernel
theorem cp_148_0 : gpiece gNt 181 k_X8_layTrial 148 0 18 = true := by decide +kernel
theorem ck_148 : gchk gNt 181 (gM 148).1 148 = true := Bool.and_eq_true_iff.mpr ⟨by decide +kernel, cp_148_0⟩
theorem ch_148 : ghd gM gNt 148 = true := by decide +kernel
theorem cp_149_0 : gpiece gNt 181 k_X8_power 149 0 15 = true := by decide +kernel
theorem ck_149 : gchk gNt 181 (gM 149).1 149 = true := Bool.and_eq_true_iff.mpr ⟨by decide +kernel, cp_149_0⟩
theorem ch_149 : ghd gM gNt 149 = true := by decide +kernel
theorem cp_150_0 : gpiece gNt 181 k_X8_driveRow 150 0 40 = true := by decide +kernel
theorem cp_150_1 : gpiece gNt 181 k_X8_driveRow 150 40 15 = true := by decide +kernel
theorem ck_150 : gchk gNt 181 (gM 150).1 150 = true := Bool.and_eq_true_iff.mpr ⟨by decide +kernel, gpiece_add (cp_150_0) cp_150_1⟩
theorem ch_150 : ghd gM gNt 150 = true := by decide +kernel
theorem cp_151_0 : gpiece gNt 181 k_X8_told 151 0 40 = true := by decide +kernel
theorem cp_151_1 : gpiece gNt 181 k_X8_told 151 40 9 = true := by decide +kernel
theorem ck_151 : gchk gNt 181 (gM 151).1 151 = true := Bool.and_eq_true_iff.mpr ⟨by decide +kernel, gpiece_add (cp_151_0) cp_151_1⟩
theorem ch_151 : ghd gM gNt 151 = true := by decide +kernel
theorem cp_152_0 : gpiece gNt 181 k_X8_bestFit 152 0 40 = true := by decide +kernel
theorem cp_152_1 : gpiece gNt 181 k_X8_bestFit 152 40 8 = true := by decide +kernel
theorem ck_152 : gchk gNt 181 (gM 152).1 152 = true := Bool.and_eq_true_iff.mpr ⟨by decide +kernel, gpiece_add (cp_152_0) cp_152_1⟩
theorem ch_152 : ghd gM gNt 152 = true := by decide +kernel
theorem cp_153_0 : gpiece gNt 181 k_X8_best 153 0 32 = true := by decide +kernel
theorem ck_153 : gchk gNt 181 (gM 153).1 153 = true := Bool.and_eq_true_iff.mpr ⟨by decide +kernel, cp_153_0⟩
theorem ch_153 : ghd gM gNt 153 = true := by decide +kernel
theorem cp_154_0 : gpiece gNt 181 k_X8_fewest 154 0 23 = true := by decide +kernel
theorem ck_154 : gchk gNt 181 (gM 154).1 154 = true := Bool.and_eq_true_iff.mpr ⟨by decide +kernel, cp_154_0⟩
theorem ch_154 : ghd gM gNt 154 = true := by decide +kernel
theorem cp_155_0 : gpiece gNt 181 k_X8_tonesIn 155 0 26 = true := by decide +kernel
theorem ck_155 : gchk gNt 181 (gM 155).1 155 = true := Bool.and_eq_true_iff.mpr ⟨by decide +kernel, cp_155_0⟩
theorem ch_155 : ghd gM gNt 155 = true := by decide +kernel
theorem cp_156_0 : gpiece gNt 181 k_X8_has 156 0 40 = true := by decide +kernel
theorem cp_156_1 : gpiece gNt 181 k_X8_has 156 40 30 = true := by decide +kernel
theorem ck_156 : gchk gNt 181 (gM 156).1 156 = true := Bool.and_eq_true_iff.mpr ⟨by decide +kernel, gpiece_add (cp_156_0) cp_156_1⟩
theorem ch_156 : ghd gM gNt 156 = true := by decide +kernel
theorem cp_157_0 : gpiece gNt 181 k_X8_isSilent 157 0 38 = true := by decide +kernel
theorem ck_157 : gchk gNt 181 (gM 157).1 157 = true := Bool.and_eq_true_iff.mpr ⟨by decide +kernel, cp_157_0⟩
theorem ch_157 : ghd gM gNt 157 = true := by decide +kernel
theorem cp_158_0 : gpiece gNt 181 k_X8_silence 158 0 40 = true := by decide +kernel
theorem cp_158_1 : gpiece gNt 181 k_X8_silence 158 40 3 = true := by decide +kernel
theorem ck_158 : gchk gNt 181 (gM 158).1 158 = true := Bool.and_eq_true_iff.mpr ⟨by decide +kernel, gpiece_add (cp_158_0) cp_158_1⟩
theorem ch_158 : ghd gM gNt 158 = true := by decide +kernel
theorem cp_159_0 : gpiece gNt 181 k_X8_tryThing 159 0 40 = true := by decide +kernel
theorem cp_159_1 : gpiece gNt 181 k_X8_tryThing 159 40 40 = true := by decide +kernel
theorem cp_159_2 : gpiece gNt 181 k_X8_tryThing 159 80 32 = true := by decide +kernel
theorem ck_159 : gchk gNt 181 (gM 159).1 159 = true := Bool.and_eq_true_iff.mpr ⟨by decide +kernel, gpiece_add (gpiece_add (cp_159_0) cp_159_1) cp_159_2⟩
theorem ch_159 : ghd gM gNt 159 = true := by decide +kernel
theorem cp_160_0 : gpiece gNt 181 k_X8_judge 160 0 40 = true := by decide +kernel
theorem cp_160_1 : gpiece gNt 181 k_X8_judge 160 40 13 = true := by decide +kernel
theorem ck_160 : gchk gNt 181 (gM 160).1 160 = true := Bool.and_eq_true_iff.mpr ⟨by decide +kernel, gpiece_add (cp_160_0) cp_160_1⟩
theorem ch_160 : ghd gM gNt 160 = true := by decide +kernel
theorem cp_161_0 : gpiece gNt 181 k_X8_hear 161 0 40 = true := by decide +kernel
theorem cp_161_1 : gpiece gNt 181 k_X8_hear 161 40 13 = true := by decide +kernel
theorem ck_161 : gchk gNt 181 (gM 161).1 161 = true := Bool.and_eq_true_iff.mpr ⟨by decide +kernel, gpiece_add (cp_161_0) cp_161_1⟩
theorem ch_161 : ghd gM gNt 161 = true := by decide +kernel
theorem cp_162_0 : gpiece gNt 181 k_X8_unhear 162 0 8 = true := by decide +kernel
theorem ck_162 : gchk gNt 181 (gM 162).1 162 = true := Bool.and_eq_true_iff.mpr ⟨by decide +kernel, cp_162_0⟩
theorem ch_162 : ghd gM gNt 162 = true := by decide +kernel
theorem cp_163_0 : gpiece gNt 181 k_X8_weights 163 0 40 = true := by decide +kernel
