/-! CHECKS 5 -/
theorem cp_86_1 : gpiece gNt 181 k_X7_winters 86 40 6 = true := by decide +kernel
theorem cq_86_1 : gpiece gNt 181 k_X7_winters 86 0 46 = true := gpiece_add (lo := 0) (n := 40) (m := 6) cp_86_0 cp_86_1
set_option maxRecDepth 100000 in
theorem ck_86 : gchk gNt 181 (gM 86).1 86 = true := gchk_of (C := k_X7_winters) (n := 46) rfl (by decide +kernel) (by decide +kernel) (cq_86_1)
theorem ch_86 : ghd gM gNt 86 = true := by decide +kernel
theorem cp_87_0 : gpiece gNt 181 k_X7_keep 87 0 21 = true := by decide +kernel
set_option maxRecDepth 100000 in
theorem ck_87 : gchk gNt 181 (gM 87).1 87 = true := gchk_of (C := k_X7_keep) (n := 21) rfl (by decide +kernel) (by decide +kernel) (cp_87_0)
theorem ch_87 : ghd gM gNt 87 = true := by decide +kernel
theorem cp_88_0 : gpiece gNt 181 k_X7_again 88 0 26 = true := by decide +kernel
set_option maxRecDepth 100000 in
theorem ck_88 : gchk gNt 181 (gM 88).1 88 = true := gchk_of (C := k_X7_again) (n := 26) rfl (by decide +kernel) (by decide +kernel) (cp_88_0)
theorem ch_88 : ghd gM gNt 88 = true := by decide +kernel
theorem cp_89_0 : gpiece gNt 181 k_X7_count 89 0 40 = true := by decide +kernel
theorem cp_89_1 : gpiece gNt 181 k_X7_count 89 40 3 = true := by decide +kernel
theorem cq_89_1 : gpiece gNt 181 k_X7_count 89 0 43 = true := gpiece_add (lo := 0) (n := 40) (m := 3) cp_89_0 cp_89_1
set_option maxRecDepth 100000 in
theorem ck_89 : gchk gNt 181 (gM 89).1 89 = true := gchk_of (C := k_X7_count) (n := 43) rfl (by decide +kernel) (by decide +kernel) (cq_89_1)
theorem ch_89 : ghd gM gNt 89 = true := by decide +kernel
theorem cp_90_0 : gpiece gNt 181 k_X7_isSlot 90 0 9 = true := by decide +kernel
set_option maxRecDepth 100000 in
theorem ck_90 : gchk gNt 181 (gM 90).1 90 = true := gchk_of (C := k_X7_isSlot) (n := 9) rfl (by decide +kernel) (by decide +kernel) (cp_90_0)
theorem ch_90 : ghd gM gNt 90 = true := by decide +kernel
theorem cp_91_0 : gpiece gNt 181 k_X7_isKind 91 0 9 = true := by decide +kernel
set_option maxRecDepth 100000 in
theorem ck_91 : gchk gNt 181 (gM 91).1 91 = true := gchk_of (C := k_X7_isKind) (n := 9) rfl (by decide +kernel) (by decide +kernel) (cp_91_0)
theorem ch_91 : ghd gM gNt 91 = true := by decide +kernel
theorem cp_92_0 : gpiece gNt 181 k_X7_fitIn 92 0 12 = true := by decide +kernel
set_option maxRecDepth 100000 in
theorem ck_92 : gchk gNt 181 (gM 92).1 92 = true := gchk_of (C := k_X7_fitIn) (n := 12) rfl (by decide +kernel) (by decide +kernel) (cp_92_0)
theorem ch_92 : ghd gM gNt 92 = true := by decide +kernel
theorem cp_93_0 : gpiece gNt 181 k_X7_sounds 93 0 31 = true := by decide +kernel
set_option maxRecDepth 100000 in
theorem ck_93 : gchk gNt 181 (gM 93).1 93 = true := gchk_of (C := k_X7_sounds) (n := 31) rfl (by decide +kernel) (by decide +kernel) (cp_93_0)
theorem ch_93 : ghd gM gNt 93 = true := by decide +kernel
theorem cp_94_0 : gpiece gNt 181 k_X7_doesDoing 94 0 38 = true := by decide +kernel
set_option maxRecDepth 100000 in
theorem ck_94 : gchk gNt 181 (gM 94).1 94 = true := gchk_of (C := k_X7_doesDoing) (n := 38) rfl (by decide +kernel) (by decide +kernel) (cp_94_0)
theorem ch_94 : ghd gM gNt 94 = true := by decide +kernel
theorem cp_95_0 : gpiece gNt 181 k_X7_togglesOpen 95 0 17 = true := by decide +kernel
set_option maxRecDepth 100000 in
theorem ck_95 : gchk gNt 181 (gM 95).1 95 = true := gchk_of (C := k_X7_togglesOpen) (n := 17) rfl (by decide +kernel) (by decide +kernel) (cp_95_0)
theorem ch_95 : ghd gM gNt 95 = true := by decide +kernel
theorem cp_96_0 : gpiece gNt 181 k_X7_togglesOil 96 0 17 = true := by decide +kernel
set_option maxRecDepth 100000 in
theorem ck_96 : gchk gNt 181 (gM 96).1 96 = true := gchk_of (C := k_X7_togglesOil) (n := 17) rfl (by decide +kernel) (by decide +kernel) (cp_96_0)
theorem ch_96 : ghd gM gNt 96 = true := by decide +kernel
theorem cp_97_0 : gpiece gNt 181 k_X7_turnsOut 97 0 21 = true := by decide +kernel
set_option maxRecDepth 100000 in
theorem ck_97 : gchk gNt 181 (gM 97).1 97 = true := gchk_of (C := k_X7_turnsOut) (n := 21) rfl (by decide +kernel) (by decide +kernel) (cp_97_0)
theorem ch_97 : ghd gM gNt 97 = true := by decide +kernel
theorem cp_98_0 : gpiece gNt 181 k_X7_goesHome 98 0 19 = true := by decide +kernel
set_option maxRecDepth 100000 in
theorem ck_98 : gchk gNt 181 (gM 98).1 98 = true := gchk_of (C := k_X7_goesHome) (n := 19) rfl (by decide +kernel) (by decide +kernel) (cp_98_0)
theorem ch_98 : ghd gM gNt 98 = true := by decide +kernel
theorem cp_99_0 : gpiece gNt 181 k_X7_singersOf 99 0 32 = true := by decide +kernel
set_option maxRecDepth 100000 in
theorem ck_99 : gchk gNt 181 (gM 99).1 99 = true := gchk_of (C := k_X7_singersOf) (n := 32) rfl (by decide +kernel) (by decide +kernel) (cp_99_0)
theorem ch_99 : ghd gM gNt 99 = true := by decide +kernel
theorem cp_100_0 : gpiece gNt 181 k_X7_chanceOf 100 0 31 = true := by decide +kernel
set_option maxRecDepth 100000 in
theorem ck_100 : gchk gNt 181 (gM 100).1 100 = true := gchk_of (C := k_X7_chanceOf) (n := 31) rfl (by decide +kernel) (by decide +kernel) (cp_100_0)
theorem ch_100 : ghd gM gNt 100 = true := by decide +kernel
theorem cp_101_0 : gpiece gNt 181 k_X7_tonesWhenOiled 101 0 25 = true := by decide +kernel
set_option maxRecDepth 100000 in
theorem ck_101 : gchk gNt 181 (gM 101).1 101 = true := gchk_of (C := k_X7_tonesWhenOiled) (n := 25) rfl (by decide +kernel) (by decide +kernel) (cp_101_0)
theorem ch_101 : ghd gM gNt 101 = true := by decide +kernel
theorem cp_102_0 : gpiece gNt 181 k_X7_doChance 102 0 37 = true := by decide +kernel
set_option maxRecDepth 100000 in
theorem ck_102 : gchk gNt 181 (gM 102).1 102 = true := gchk_of (C := k_X7_doChance) (n := 37) rfl (by decide +kernel) (by decide +kernel) (cp_102_0)
theorem ch_102 : ghd gM gNt 102 = true := by decide +kernel
theorem cp_103_0 : gpiece gNt 181 k_X7_fraction 103 0 22 = true := by decide +kernel
set_option maxRecDepth 100000 in
theorem ck_103 : gchk gNt 181 (gM 103).1 103 = true := gchk_of (C := k_X7_fraction) (n := 22) rfl (by decide +kernel) (by decide +kernel) (cp_103_0)
theorem ch_103 : ghd gM gNt 103 = true := by decide +kernel
theorem cp_104_0 : gpiece gNt 181 k_X7_greatestCommon 104 0 23 = true := by decide +kernel
set_option maxRecDepth 100000 in
theorem ck_104 : gchk gNt 181 (gM 104).1 104 = true := gchk_of (C := k_X7_greatestCommon) (n := 23) rfl (by decide +kernel) (by decide +kernel) (cp_104_0)
theorem ch_104 : ghd gM gNt 104 = true := by decide +kernel
theorem cp_105_0 : gpiece gNt 181 k_X8_init 105 0 40 = true := by decide +kernel
theorem cp_105_1 : gpiece gNt 181 k_X8_init 105 40 35 = true := by decide +kernel
theorem cq_105_1 : gpiece gNt 181 k_X8_init 105 0 75 = true := gpiece_add (lo := 0) (n := 40) (m := 35) cp_105_0 cp_105_1
set_option maxRecDepth 100000 in
theorem ck_105 : gchk gNt 181 (gM 105).1 105 = true := gchk_of (C := k_X8_init) (n := 75) rfl (by decide +kernel) (by decide +kernel) (cq_105_1)
theorem ch_105 : ghd gM gNt 105 = true := by decide +kernel
theorem cp_106_0 : gpiece gNt 181 k_X8_in 106 0 12 = true := by decide +kernel
set_option maxRecDepth 100000 in
theorem ck_106 : gchk gNt 181 (gM 106).1 106 = true := gchk_of (C := k_X8_in) (n := 12) rfl (by decide +kernel) (by decide +kernel) (cp_106_0)
theorem ch_106 : ghd gM gNt 106 = true := by decide +kernel
theorem cp_107_0 : gpiece gNt 181 k_X8_bit 107 0 11 = true := by decide +kernel
set_option maxRecDepth 100000 in
theorem ck_107 : gchk gNt 181 (gM 107).1 107 = true := gchk_of (C := k_X8_bit) (n := 11) rfl (by decide +kernel) (by decide +kernel) (cp_107_0)
theorem ch_107 : ghd gM gNt 107 = true := by decide +kernel
theorem cp_108_0 : gpiece gNt 181 k_X8_ones 108 0 19 = true := by decide +kernel
set_option maxRecDepth 100000 in
theorem ck_108 : gchk gNt 181 (gM 108).1 108 = true := gchk_of (C := k_X8_ones) (n := 19) rfl (by decide +kernel) (by decide +kernel) (cp_108_0)
theorem ch_108 : ghd gM gNt 108 = true := by decide +kernel
theorem cp_109_0 : gpiece gNt 181 k_X8_write 109 0 29 = true := by decide +kernel
set_option maxRecDepth 100000 in
theorem ck_109 : gchk gNt 181 (gM 109).1 109 = true := gchk_of (C := k_X8_write) (n := 29) rfl (by decide +kernel) (by decide +kernel) (cp_109_0)
theorem ch_109 : ghd gM gNt 109 = true := by decide +kernel
theorem cp_110_0 : gpiece gNt 181 k_X8_wipe 110 0 8 = true := by decide +kernel
set_option maxRecDepth 100000 in
theorem ck_110 : gchk gNt 181 (gM 110).1 110 = true := gchk_of (C := k_X8_wipe) (n := 8) rfl (by decide +kernel) (by decide +kernel) (cp_110_0)
theorem ch_110 : ghd gM gNt 110 = true := by decide +kernel
theorem cp_111_0 : gpiece gNt 181 k_X8_figure 111 0 40 = true := by decide +kernel
theorem cp_111_1 : gpiece gNt 181 k_X8_figure 111 40 16 = true := by decide +kernel
theorem cq_111_1 : gpiece gNt 181 k_X8_figure 111 0 56 = true := gpiece_add (lo := 0) (n := 40) (m := 16) cp_111_0 cp_111_1
set_option maxRecDepth 100000 in
theorem ck_111 : gchk gNt 181 (gM 111).1 111 = true := gchk_of (C := k_X8_figure) (n := 56) rfl (by decide +kernel) (by decide +kernel) (cq_111_1)
theorem ch_111 : ghd gM gNt 111 = true := by decide +kernel
theorem cp_112_0 : gpiece gNt 181 k_X8_letterTone 112 0 40 = true := by decide +kernel
theorem cp_112_1 : gpiece gNt 181 k_X8_letterTone 112 40 33 = true := by decide +kernel
