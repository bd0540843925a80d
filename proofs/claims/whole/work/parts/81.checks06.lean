/-! CHECKS 6 -/
theorem cq_112_1 : gpiece gNt 181 k_X8_letterTone 112 0 73 = true := gpiece_add (lo := 0) (n := 40) (m := 33) cp_112_0 cp_112_1
set_option maxRecDepth 100000 in
theorem ck_112 : gchk gNt 181 (gM 112).1 112 = true := gchk_of (C := k_X8_letterTone) (n := 73) rfl (by decide +kernel) (by decide +kernel) (cq_112_1)
theorem ch_112 : ghd gM gNt 112 = true := by decide +kernel
theorem cp_113_0 : gpiece gNt 181 k_X8_readText 113 0 40 = true := by decide +kernel
theorem cp_113_1 : gpiece gNt 181 k_X8_readText 113 40 18 = true := by decide +kernel
theorem cq_113_1 : gpiece gNt 181 k_X8_readText 113 0 58 = true := gpiece_add (lo := 0) (n := 40) (m := 18) cp_113_0 cp_113_1
set_option maxRecDepth 100000 in
theorem ck_113 : gchk gNt 181 (gM 113).1 113 = true := gchk_of (C := k_X8_readText) (n := 58) rfl (by decide +kernel) (by decide +kernel) (cq_113_1)
theorem ch_113 : ghd gM gNt 113 = true := by decide +kernel
theorem cp_114_0 : gpiece gNt 181 k_X8_readPart 114 0 40 = true := by decide +kernel
theorem cp_114_1 : gpiece gNt 181 k_X8_readPart 114 40 40 = true := by decide +kernel
theorem cp_114_2 : gpiece gNt 181 k_X8_readPart 114 80 40 = true := by decide +kernel
theorem cp_114_3 : gpiece gNt 181 k_X8_readPart 114 120 40 = true := by decide +kernel
theorem cp_114_4 : gpiece gNt 181 k_X8_readPart 114 160 17 = true := by decide +kernel
theorem cq_114_1 : gpiece gNt 181 k_X8_readPart 114 0 80 = true := gpiece_add (lo := 0) (n := 40) (m := 40) cp_114_0 cp_114_1
theorem cq_114_2 : gpiece gNt 181 k_X8_readPart 114 0 120 = true := gpiece_add (lo := 0) (n := 80) (m := 40) cq_114_1 cp_114_2
theorem cq_114_3 : gpiece gNt 181 k_X8_readPart 114 0 160 = true := gpiece_add (lo := 0) (n := 120) (m := 40) cq_114_2 cp_114_3
theorem cq_114_4 : gpiece gNt 181 k_X8_readPart 114 0 177 = true := gpiece_add (lo := 0) (n := 160) (m := 17) cq_114_3 cp_114_4
set_option maxRecDepth 100000 in
theorem ck_114 : gchk gNt 181 (gM 114).1 114 = true := gchk_of (C := k_X8_readPart) (n := 177) rfl (by decide +kernel) (by decide +kernel) (cq_114_4)
theorem ch_114 : ghd gM gNt 114 = true := by decide +kernel
theorem cp_115_0 : gpiece gNt 181 k_X8_fault 115 0 3 = true := by decide +kernel
set_option maxRecDepth 100000 in
theorem ck_115 : gchk gNt 181 (gM 115).1 115 = true := gchk_of (C := k_X8_fault) (n := 3) rfl (by decide +kernel) (by decide +kernel) (cp_115_0)
theorem ch_115 : ghd gM gNt 115 = true := by decide +kernel
theorem cp_116_0 : gpiece gNt 181 k_X8_fen 116 0 40 = true := by decide +kernel
theorem cp_116_1 : gpiece gNt 181 k_X8_fen 116 40 40 = true := by decide +kernel
theorem cp_116_2 : gpiece gNt 181 k_X8_fen 116 80 40 = true := by decide +kernel
theorem cp_116_3 : gpiece gNt 181 k_X8_fen 116 120 40 = true := by decide +kernel
theorem cp_116_4 : gpiece gNt 181 k_X8_fen 116 160 1 = true := by decide +kernel
theorem cq_116_1 : gpiece gNt 181 k_X8_fen 116 0 80 = true := gpiece_add (lo := 0) (n := 40) (m := 40) cp_116_0 cp_116_1
theorem cq_116_2 : gpiece gNt 181 k_X8_fen 116 0 120 = true := gpiece_add (lo := 0) (n := 80) (m := 40) cq_116_1 cp_116_2
theorem cq_116_3 : gpiece gNt 181 k_X8_fen 116 0 160 = true := gpiece_add (lo := 0) (n := 120) (m := 40) cq_116_2 cp_116_3
theorem cq_116_4 : gpiece gNt 181 k_X8_fen 116 0 161 = true := gpiece_add (lo := 0) (n := 160) (m := 1) cq_116_3 cp_116_4
set_option maxRecDepth 100000 in
theorem ck_116 : gchk gNt 181 (gM 116).1 116 = true := gchk_of (C := k_X8_fen) (n := 161) rfl (by decide +kernel) (by decide +kernel) (cq_116_4)
theorem ch_116 : ghd gM gNt 116 = true := by decide +kernel
theorem cp_117_0 : gpiece gNt 181 k_X8_isGate 117 0 10 = true := by decide +kernel
set_option maxRecDepth 100000 in
theorem ck_117 : gchk gNt 181 (gM 117).1 117 = true := gchk_of (C := k_X8_isGate) (n := 10) rfl (by decide +kernel) (by decide +kernel) (cp_117_0)
theorem ch_117 : ghd gM gNt 117 = true := by decide +kernel
theorem cp_118_0 : gpiece gNt 181 k_X8_isLane 118 0 10 = true := by decide +kernel
set_option maxRecDepth 100000 in
theorem ck_118 : gchk gNt 181 (gM 118).1 118 = true := gchk_of (C := k_X8_isLane) (n := 10) rfl (by decide +kernel) (by decide +kernel) (cp_118_0)
theorem ch_118 : ghd gM gNt 118 = true := by decide +kernel
theorem cp_119_0 : gpiece gNt 181 k_X8_isBeast 119 0 10 = true := by decide +kernel
set_option maxRecDepth 100000 in
theorem ck_119 : gchk gNt 181 (gM 119).1 119 = true := gchk_of (C := k_X8_isBeast) (n := 10) rfl (by decide +kernel) (by decide +kernel) (cp_119_0)
theorem ch_119 : ghd gM gNt 119 = true := by decide +kernel
theorem cp_120_0 : gpiece gNt 181 k_X8_isVerse 120 0 10 = true := by decide +kernel
set_option maxRecDepth 100000 in
theorem ck_120 : gchk gNt 181 (gM 120).1 120 = true := gchk_of (C := k_X8_isVerse) (n := 10) rfl (by decide +kernel) (by decide +kernel) (cp_120_0)
theorem ch_120 : ghd gM gNt 120 = true := by decide +kernel
theorem cp_121_0 : gpiece gNt 181 k_X8_toneOf 121 0 40 = true := by decide +kernel
theorem cp_121_1 : gpiece gNt 181 k_X8_toneOf 121 40 40 = true := by decide +kernel
theorem cp_121_2 : gpiece gNt 181 k_X8_toneOf 121 80 17 = true := by decide +kernel
theorem cq_121_1 : gpiece gNt 181 k_X8_toneOf 121 0 80 = true := gpiece_add (lo := 0) (n := 40) (m := 40) cp_121_0 cp_121_1
theorem cq_121_2 : gpiece gNt 181 k_X8_toneOf 121 0 97 = true := gpiece_add (lo := 0) (n := 80) (m := 17) cq_121_1 cp_121_2
set_option maxRecDepth 100000 in
theorem ck_121 : gchk gNt 181 (gM 121).1 121 = true := gchk_of (C := k_X8_toneOf) (n := 97) rfl (by decide +kernel) (by decide +kernel) (cq_121_2)
theorem ch_121 : ghd gM gNt 121 = true := by decide +kernel
theorem cp_122_0 : gpiece gNt 181 k_X8_sing 122 0 40 = true := by decide +kernel
theorem cp_122_1 : gpiece gNt 181 k_X8_sing 122 40 2 = true := by decide +kernel
theorem cq_122_1 : gpiece gNt 181 k_X8_sing 122 0 42 = true := gpiece_add (lo := 0) (n := 40) (m := 2) cp_122_0 cp_122_1
set_option maxRecDepth 100000 in
theorem ck_122 : gchk gNt 181 (gM 122).1 122 = true := gchk_of (C := k_X8_sing) (n := 42) rfl (by decide +kernel) (by decide +kernel) (cq_122_1)
theorem ch_122 : ghd gM gNt 122 = true := by decide +kernel
theorem cp_123_0 : gpiece gNt 181 k_X8_laySong 123 0 40 = true := by decide +kernel
theorem cp_123_1 : gpiece gNt 181 k_X8_laySong 123 40 21 = true := by decide +kernel
theorem cq_123_1 : gpiece gNt 181 k_X8_laySong 123 0 61 = true := gpiece_add (lo := 0) (n := 40) (m := 21) cp_123_0 cp_123_1
set_option maxRecDepth 100000 in
theorem ck_123 : gchk gNt 181 (gM 123).1 123 = true := gchk_of (C := k_X8_laySong) (n := 61) rfl (by decide +kernel) (by decide +kernel) (cq_123_1)
theorem ch_123 : ghd gM gNt 123 = true := by decide +kernel
theorem cp_124_0 : gpiece gNt 181 k_X8_loud 124 0 27 = true := by decide +kernel
set_option maxRecDepth 100000 in
theorem ck_124 : gchk gNt 181 (gM 124).1 124 = true := gchk_of (C := k_X8_loud) (n := 27) rfl (by decide +kernel) (by decide +kernel) (cp_124_0)
theorem ch_124 : ghd gM gNt 124 = true := by decide +kernel
theorem cp_125_0 : gpiece gNt 181 k_X8_addSung 125 0 40 = true := by decide +kernel
