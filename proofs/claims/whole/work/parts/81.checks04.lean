/-! CHECKS 4 -/
set_option maxRecDepth 100000 in
theorem ck_68 : gchk gNt 181 (gM 68).1 68 = true := gchk_of (C := k_X7_hang) (n := 35) rfl (by decide +kernel) (by decide +kernel) (cp_68_0)
theorem ch_68 : ghd gM gNt 68 = true := by decide +kernel
theorem cp_69_0 : gpiece gNt 181 k_X7_turnOut 69 0 32 = true := by decide +kernel
set_option maxRecDepth 100000 in
theorem ck_69 : gchk gNt 181 (gM 69).1 69 = true := gchk_of (C := k_X7_turnOut) (n := 32) rfl (by decide +kernel) (by decide +kernel) (cp_69_0)
theorem ch_69 : ghd gM gNt 69 = true := by decide +kernel
theorem cp_70_0 : gpiece gNt 181 k_X7_frost 70 0 16 = true := by decide +kernel
set_option maxRecDepth 100000 in
theorem ck_70 : gchk gNt 181 (gM 70).1 70 = true := gchk_of (C := k_X7_frost) (n := 16) rfl (by decide +kernel) (by decide +kernel) (cp_70_0)
theorem ch_70 : ghd gM gNt 70 = true := by decide +kernel
theorem cp_71_0 : gpiece gNt 181 k_X7_undo 71 0 15 = true := by decide +kernel
set_option maxRecDepth 100000 in
theorem ck_71 : gchk gNt 181 (gM 71).1 71 = true := gchk_of (C := k_X7_undo) (n := 15) rfl (by decide +kernel) (by decide +kernel) (cp_71_0)
theorem ch_71 : ghd gM gNt 71 = true := by decide +kernel
theorem cp_72_0 : gpiece gNt 181 k_X7_fit 72 0 13 = true := by decide +kernel
set_option maxRecDepth 100000 in
theorem ck_72 : gchk gNt 181 (gM 72).1 72 = true := gchk_of (C := k_X7_fit) (n := 13) rfl (by decide +kernel) (by decide +kernel) (cp_72_0)
theorem ch_72 : ghd gM gNt 72 = true := by decide +kernel
theorem cp_73_0 : gpiece gNt 181 k_X7_harmony 73 0 40 = true := by decide +kernel
theorem cp_73_1 : gpiece gNt 181 k_X7_harmony 73 40 6 = true := by decide +kernel
theorem cq_73_1 : gpiece gNt 181 k_X7_harmony 73 0 46 = true := gpiece_add (lo := 0) (n := 40) (m := 6) cp_73_0 cp_73_1
set_option maxRecDepth 100000 in
theorem ck_73 : gchk gNt 181 (gM 73).1 73 = true := gchk_of (C := k_X7_harmony) (n := 46) rfl (by decide +kernel) (by decide +kernel) (cq_73_1)
theorem ch_73 : ghd gM gNt 73 = true := by decide +kernel
theorem cp_74_0 : gpiece gNt 181 k_X7_best 74 0 34 = true := by decide +kernel
set_option maxRecDepth 100000 in
theorem ck_74 : gchk gNt 181 (gM 74).1 74 = true := gchk_of (C := k_X7_best) (n := 34) rfl (by decide +kernel) (by decide +kernel) (cp_74_0)
theorem ch_74 : ghd gM gNt 74 = true := by decide +kernel
theorem cp_75_0 : gpiece gNt 181 k_X7_fewest 75 0 40 = true := by decide +kernel
theorem cp_75_1 : gpiece gNt 181 k_X7_fewest 75 40 1 = true := by decide +kernel
theorem cq_75_1 : gpiece gNt 181 k_X7_fewest 75 0 41 = true := gpiece_add (lo := 0) (n := 40) (m := 1) cp_75_0 cp_75_1
set_option maxRecDepth 100000 in
theorem ck_75 : gchk gNt 181 (gM 75).1 75 = true := gchk_of (C := k_X7_fewest) (n := 41) rfl (by decide +kernel) (by decide +kernel) (cq_75_1)
theorem ch_75 : ghd gM gNt 75 = true := by decide +kernel
theorem cp_76_0 : gpiece gNt 181 k_X7_has 76 0 40 = true := by decide +kernel
theorem cp_76_1 : gpiece gNt 181 k_X7_has 76 40 13 = true := by decide +kernel
theorem cq_76_1 : gpiece gNt 181 k_X7_has 76 0 53 = true := gpiece_add (lo := 0) (n := 40) (m := 13) cp_76_0 cp_76_1
set_option maxRecDepth 100000 in
theorem ck_76 : gchk gNt 181 (gM 76).1 76 = true := gchk_of (C := k_X7_has) (n := 53) rfl (by decide +kernel) (by decide +kernel) (cq_76_1)
theorem ch_76 : ghd gM gNt 76 = true := by decide +kernel
theorem cp_77_0 : gpiece gNt 181 k_X7_silence 77 0 39 = true := by decide +kernel
set_option maxRecDepth 100000 in
theorem ck_77 : gchk gNt 181 (gM 77).1 77 = true := gchk_of (C := k_X7_silence) (n := 39) rfl (by decide +kernel) (by decide +kernel) (cp_77_0)
theorem ch_77 : ghd gM gNt 77 = true := by decide +kernel
theorem cp_78_0 : gpiece gNt 181 k_X7_judge 78 0 40 = true := by decide +kernel
theorem cp_78_1 : gpiece gNt 181 k_X7_judge 78 40 29 = true := by decide +kernel
theorem cq_78_1 : gpiece gNt 181 k_X7_judge 78 0 69 = true := gpiece_add (lo := 0) (n := 40) (m := 29) cp_78_0 cp_78_1
set_option maxRecDepth 100000 in
theorem ck_78 : gchk gNt 181 (gM 78).1 78 = true := gchk_of (C := k_X7_judge) (n := 69) rfl (by decide +kernel) (by decide +kernel) (cq_78_1)
theorem ch_78 : ghd gM gNt 78 = true := by decide +kernel
theorem cp_79_0 : gpiece gNt 181 k_X7_hear 79 0 34 = true := by decide +kernel
set_option maxRecDepth 100000 in
theorem ck_79 : gchk gNt 181 (gM 79).1 79 = true := gchk_of (C := k_X7_hear) (n := 34) rfl (by decide +kernel) (by decide +kernel) (cp_79_0)
theorem ch_79 : ghd gM gNt 79 = true := by decide +kernel
theorem cp_80_0 : gpiece gNt 181 k_X7_unhear 80 0 10 = true := by decide +kernel
set_option maxRecDepth 100000 in
theorem ck_80 : gchk gNt 181 (gM 80).1 80 = true := gchk_of (C := k_X7_unhear) (n := 10) rfl (by decide +kernel) (by decide +kernel) (cp_80_0)
theorem ch_80 : ghd gM gNt 80 = true := by decide +kernel
theorem cp_81_0 : gpiece gNt 181 k_X7_weights 81 0 32 = true := by decide +kernel
set_option maxRecDepth 100000 in
theorem ck_81 : gchk gNt 181 (gM 81).1 81 = true := gchk_of (C := k_X7_weights) (n := 32) rfl (by decide +kernel) (by decide +kernel) (cp_81_0)
theorem ch_81 : ghd gM gNt 81 = true := by decide +kernel
theorem cp_82_0 : gpiece gNt 181 k_X7_share 82 0 40 = true := by decide +kernel
theorem cp_82_1 : gpiece gNt 181 k_X7_share 82 40 20 = true := by decide +kernel
theorem cq_82_1 : gpiece gNt 181 k_X7_share 82 0 60 = true := gpiece_add (lo := 0) (n := 40) (m := 20) cp_82_0 cp_82_1
set_option maxRecDepth 100000 in
theorem ck_82 : gchk gNt 181 (gM 82).1 82 = true := gchk_of (C := k_X7_share) (n := 60) rfl (by decide +kernel) (by decide +kernel) (cq_82_1)
theorem ch_82 : ghd gM gNt 82 = true := by decide +kernel
theorem cp_83_0 : gpiece gNt 181 k_X7_rests 83 0 40 = true := by decide +kernel
theorem cp_83_1 : gpiece gNt 181 k_X7_rests 83 40 40 = true := by decide +kernel
theorem cp_83_2 : gpiece gNt 181 k_X7_rests 83 80 3 = true := by decide +kernel
theorem cq_83_1 : gpiece gNt 181 k_X7_rests 83 0 80 = true := gpiece_add (lo := 0) (n := 40) (m := 40) cp_83_0 cp_83_1
theorem cq_83_2 : gpiece gNt 181 k_X7_rests 83 0 83 = true := gpiece_add (lo := 0) (n := 80) (m := 3) cq_83_1 cp_83_2
set_option maxRecDepth 100000 in
theorem ck_83 : gchk gNt 181 (gM 83).1 83 = true := gchk_of (C := k_X7_rests) (n := 83) rfl (by decide +kernel) (by decide +kernel) (cq_83_2)
theorem ch_83 : ghd gM gNt 83 = true := by decide +kernel
theorem cp_84_0 : gpiece gNt 181 k_X7_drips 84 0 40 = true := by decide +kernel
theorem cp_84_1 : gpiece gNt 181 k_X7_drips 84 40 39 = true := by decide +kernel
theorem cq_84_1 : gpiece gNt 181 k_X7_drips 84 0 79 = true := gpiece_add (lo := 0) (n := 40) (m := 39) cp_84_0 cp_84_1
set_option maxRecDepth 100000 in
theorem ck_84 : gchk gNt 181 (gM 84).1 84 = true := gchk_of (C := k_X7_drips) (n := 79) rfl (by decide +kernel) (by decide +kernel) (cq_84_1)
theorem ch_84 : ghd gM gNt 84 = true := by decide +kernel
theorem cp_85_0 : gpiece gNt 181 k_X7_seed 85 0 8 = true := by decide +kernel
set_option maxRecDepth 100000 in
theorem ck_85 : gchk gNt 181 (gM 85).1 85 = true := gchk_of (C := k_X7_seed) (n := 8) rfl (by decide +kernel) (by decide +kernel) (cp_85_0)
theorem ch_85 : ghd gM gNt 85 = true := by decide +kernel
theorem cp_86_0 : gpiece gNt 181 k_X7_winters 86 0 40 = true := by decide +kernel
