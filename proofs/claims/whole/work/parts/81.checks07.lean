/-! CHECKS 7 -/
theorem cp_125_1 : gpiece gNt 181 k_X8_addSung 125 40 29 = true := by decide +kernel
theorem cq_125_1 : gpiece gNt 181 k_X8_addSung 125 0 69 = true := gpiece_add (lo := 0) (n := 40) (m := 29) cp_125_0 cp_125_1
set_option maxRecDepth 100000 in
theorem ck_125 : gchk gNt 181 (gM 125).1 125 = true := gchk_of (C := k_X8_addSung) (n := 69) rfl (by decide +kernel) (by decide +kernel) (cq_125_1)
theorem ch_125 : ghd gM gNt 125 = true := by decide +kernel
theorem cp_126_0 : gpiece gNt 181 k_X8_driveOn 126 0 40 = true := by decide +kernel
theorem cp_126_1 : gpiece gNt 181 k_X8_driveOn 126 40 38 = true := by decide +kernel
theorem cq_126_1 : gpiece gNt 181 k_X8_driveOn 126 0 78 = true := gpiece_add (lo := 0) (n := 40) (m := 38) cp_126_0 cp_126_1
set_option maxRecDepth 100000 in
theorem ck_126 : gchk gNt 181 (gM 126).1 126 = true := gchk_of (C := k_X8_driveOn) (n := 78) rfl (by decide +kernel) (by decide +kernel) (cq_126_1)
theorem ch_126 : ghd gM gNt 126 = true := by decide +kernel
theorem cp_127_0 : gpiece gNt 181 k_X8_lanesOf 127 0 30 = true := by decide +kernel
set_option maxRecDepth 100000 in
theorem ck_127 : gchk gNt 181 (gM 127).1 127 = true := gchk_of (C := k_X8_lanesOf) (n := 30) rfl (by decide +kernel) (by decide +kernel) (cp_127_0)
theorem ch_127 : ghd gM gNt 127 = true := by decide +kernel
theorem cp_128_0 : gpiece gNt 181 k_X8_gate 128 0 40 = true := by decide +kernel
theorem cp_128_1 : gpiece gNt 181 k_X8_gate 128 40 9 = true := by decide +kernel
theorem cq_128_1 : gpiece gNt 181 k_X8_gate 128 0 49 = true := gpiece_add (lo := 0) (n := 40) (m := 9) cp_128_0 cp_128_1
set_option maxRecDepth 100000 in
theorem ck_128 : gchk gNt 181 (gM 128).1 128 = true := gchk_of (C := k_X8_gate) (n := 49) rfl (by decide +kernel) (by decide +kernel) (cq_128_1)
theorem ch_128 : ghd gM gNt 128 = true := by decide +kernel
theorem cp_129_0 : gpiece gNt 181 k_X8_beast 129 0 35 = true := by decide +kernel
set_option maxRecDepth 100000 in
theorem ck_129 : gchk gNt 181 (gM 129).1 129 = true := gchk_of (C := k_X8_beast) (n := 35) rfl (by decide +kernel) (by decide +kernel) (cp_129_0)
theorem ch_129 : ghd gM gNt 129 = true := by decide +kernel
theorem cp_130_0 : gpiece gNt 181 k_X8_tone 130 0 23 = true := by decide +kernel
set_option maxRecDepth 100000 in
theorem ck_130 : gchk gNt 181 (gM 130).1 130 = true := gchk_of (C := k_X8_tone) (n := 23) rfl (by decide +kernel) (by decide +kernel) (cp_130_0)
theorem ch_130 : ghd gM gNt 130 = true := by decide +kernel
theorem cp_131_0 : gpiece gNt 181 k_X8_song 131 0 40 = true := by decide +kernel
set_option maxRecDepth 100000 in
theorem ck_131 : gchk gNt 181 (gM 131).1 131 = true := gchk_of (C := k_X8_song) (n := 40) rfl (by decide +kernel) (by decide +kernel) (cp_131_0)
theorem ch_131 : ghd gM gNt 131 = true := by decide +kernel
theorem cp_132_0 : gpiece gNt 181 k_X8_sungOn 132 0 32 = true := by decide +kernel
set_option maxRecDepth 100000 in
theorem ck_132 : gchk gNt 181 (gM 132).1 132 = true := gchk_of (C := k_X8_sungOn) (n := 32) rfl (by decide +kernel) (by decide +kernel) (cp_132_0)
theorem ch_132 : ghd gM gNt 132 = true := by decide +kernel
theorem cp_133_0 : gpiece gNt 181 k_X8_sung 133 0 13 = true := by decide +kernel
set_option maxRecDepth 100000 in
theorem ck_133 : gchk gNt 181 (gM 133).1 133 = true := gchk_of (C := k_X8_sung) (n := 13) rfl (by decide +kernel) (by decide +kernel) (cp_133_0)
theorem ch_133 : ghd gM gNt 133 = true := by decide +kernel
theorem cp_134_0 : gpiece gNt 181 k_X8_keepAct 134 0 40 = true := by decide +kernel
theorem cp_134_1 : gpiece gNt 181 k_X8_keepAct 134 40 1 = true := by decide +kernel
theorem cq_134_1 : gpiece gNt 181 k_X8_keepAct 134 0 41 = true := gpiece_add (lo := 0) (n := 40) (m := 1) cp_134_0 cp_134_1
set_option maxRecDepth 100000 in
theorem ck_134 : gchk gNt 181 (gM 134).1 134 = true := gchk_of (C := k_X8_keepAct) (n := 41) rfl (by decide +kernel) (by decide +kernel) (cq_134_1)
theorem ch_134 : ghd gM gNt 134 = true := by decide +kernel
theorem cp_135_0 : gpiece gNt 181 k_X8_canDrive 135 0 23 = true := by decide +kernel
set_option maxRecDepth 100000 in
theorem ck_135 : gchk gNt 181 (gM 135).1 135 = true := gchk_of (C := k_X8_canDrive) (n := 23) rfl (by decide +kernel) (by decide +kernel) (cp_135_0)
theorem ch_135 : ghd gM gNt 135 = true := by decide +kernel
theorem cp_136_0 : gpiece gNt 181 k_X8_drive 136 0 26 = true := by decide +kernel
set_option maxRecDepth 100000 in
theorem ck_136 : gchk gNt 181 (gM 136).1 136 = true := gchk_of (C := k_X8_drive) (n := 26) rfl (by decide +kernel) (by decide +kernel) (cp_136_0)
theorem ch_136 : ghd gM gNt 136 = true := by decide +kernel
theorem cp_137_0 : gpiece gNt 181 k_X8_open 137 0 27 = true := by decide +kernel
set_option maxRecDepth 100000 in
theorem ck_137 : gchk gNt 181 (gM 137).1 137 = true := gchk_of (C := k_X8_open) (n := 27) rfl (by decide +kernel) (by decide +kernel) (cp_137_0)
theorem ch_137 : ghd gM gNt 137 = true := by decide +kernel
theorem cp_138_0 : gpiece gNt 181 k_X8_oil 138 0 27 = true := by decide +kernel
set_option maxRecDepth 100000 in
theorem ck_138 : gchk gNt 181 (gM 138).1 138 = true := gchk_of (C := k_X8_oil) (n := 27) rfl (by decide +kernel) (by decide +kernel) (cp_138_0)
theorem ch_138 : ghd gM gNt 138 = true := by decide +kernel
theorem cp_139_0 : gpiece gNt 181 k_X8_hang 139 0 29 = true := by decide +kernel
set_option maxRecDepth 100000 in
theorem ck_139 : gchk gNt 181 (gM 139).1 139 = true := gchk_of (C := k_X8_hang) (n := 29) rfl (by decide +kernel) (by decide +kernel) (cp_139_0)
theorem ch_139 : ghd gM gNt 139 = true := by decide +kernel
theorem cp_140_0 : gpiece gNt 181 k_X8_turnOut 140 0 35 = true := by decide +kernel
set_option maxRecDepth 100000 in
theorem ck_140 : gchk gNt 181 (gM 140).1 140 = true := gchk_of (C := k_X8_turnOut) (n := 35) rfl (by decide +kernel) (by decide +kernel) (cp_140_0)
theorem ch_140 : ghd gM gNt 140 = true := by decide +kernel
theorem cp_141_0 : gpiece gNt 181 k_X8_frost 141 0 17 = true := by decide +kernel
set_option maxRecDepth 100000 in
theorem ck_141 : gchk gNt 181 (gM 141).1 141 = true := gchk_of (C := k_X8_frost) (n := 17) rfl (by decide +kernel) (by decide +kernel) (cp_141_0)
theorem ch_141 : ghd gM gNt 141 = true := by decide +kernel
theorem cp_142_0 : gpiece gNt 181 k_X8_undo 142 0 40 = true := by decide +kernel
theorem cp_142_1 : gpiece gNt 181 k_X8_undo 142 40 2 = true := by decide +kernel
theorem cq_142_1 : gpiece gNt 181 k_X8_undo 142 0 42 = true := gpiece_add (lo := 0) (n := 40) (m := 2) cp_142_0 cp_142_1
set_option maxRecDepth 100000 in
theorem ck_142 : gchk gNt 181 (gM 142).1 142 = true := gchk_of (C := k_X8_undo) (n := 42) rfl (by decide +kernel) (by decide +kernel) (cq_142_1)
theorem ch_142 : ghd gM gNt 142 = true := by decide +kernel
theorem cp_143_0 : gpiece gNt 181 k_X8_fitOn 143 0 32 = true := by decide +kernel
set_option maxRecDepth 100000 in
theorem ck_143 : gchk gNt 181 (gM 143).1 143 = true := gchk_of (C := k_X8_fitOn) (n := 32) rfl (by decide +kernel) (by decide +kernel) (cp_143_0)
theorem ch_143 : ghd gM gNt 143 = true := by decide +kernel
theorem cp_144_0 : gpiece gNt 181 k_X8_fit 144 0 11 = true := by decide +kernel
set_option maxRecDepth 100000 in
theorem ck_144 : gchk gNt 181 (gM 144).1 144 = true := gchk_of (C := k_X8_fit) (n := 11) rfl (by decide +kernel) (by decide +kernel) (cp_144_0)
theorem ch_144 : ghd gM gNt 144 = true := by decide +kernel
theorem cp_145_0 : gpiece gNt 181 k_X8_isSweet 145 0 18 = true := by decide +kernel
set_option maxRecDepth 100000 in
theorem ck_145 : gchk gNt 181 (gM 145).1 145 = true := gchk_of (C := k_X8_isSweet) (n := 18) rfl (by decide +kernel) (by decide +kernel) (cp_145_0)
theorem ch_145 : ghd gM gNt 145 = true := by decide +kernel
theorem cp_146_0 : gpiece gNt 181 k_X8_harmonyOf 146 0 40 = true := by decide +kernel
theorem cp_146_1 : gpiece gNt 181 k_X8_harmonyOf 146 40 10 = true := by decide +kernel
