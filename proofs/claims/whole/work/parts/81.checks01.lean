/-! CHECKS 1 -/
theorem cp_0_18 : gpiece gNt 181 k_L_law 0 720 40 = true := by decide +kernel
theorem cp_0_19 : gpiece gNt 181 k_L_law 0 760 40 = true := by decide +kernel
theorem cp_0_20 : gpiece gNt 181 k_L_law 0 800 40 = true := by decide +kernel
theorem cp_0_21 : gpiece gNt 181 k_L_law 0 840 1 = true := by decide +kernel
theorem cq_0_1 : gpiece gNt 181 k_L_law 0 0 80 = true := gpiece_add (lo := 0) (n := 40) (m := 40) cp_0_0 cp_0_1
theorem cq_0_2 : gpiece gNt 181 k_L_law 0 0 120 = true := gpiece_add (lo := 0) (n := 80) (m := 40) cq_0_1 cp_0_2
theorem cq_0_3 : gpiece gNt 181 k_L_law 0 0 160 = true := gpiece_add (lo := 0) (n := 120) (m := 40) cq_0_2 cp_0_3
theorem cq_0_4 : gpiece gNt 181 k_L_law 0 0 200 = true := gpiece_add (lo := 0) (n := 160) (m := 40) cq_0_3 cp_0_4
theorem cq_0_5 : gpiece gNt 181 k_L_law 0 0 240 = true := gpiece_add (lo := 0) (n := 200) (m := 40) cq_0_4 cp_0_5
theorem cq_0_6 : gpiece gNt 181 k_L_law 0 0 280 = true := gpiece_add (lo := 0) (n := 240) (m := 40) cq_0_5 cp_0_6
theorem cq_0_7 : gpiece gNt 181 k_L_law 0 0 320 = true := gpiece_add (lo := 0) (n := 280) (m := 40) cq_0_6 cp_0_7
theorem cq_0_8 : gpiece gNt 181 k_L_law 0 0 360 = true := gpiece_add (lo := 0) (n := 320) (m := 40) cq_0_7 cp_0_8
theorem cq_0_9 : gpiece gNt 181 k_L_law 0 0 400 = true := gpiece_add (lo := 0) (n := 360) (m := 40) cq_0_8 cp_0_9
theorem cq_0_10 : gpiece gNt 181 k_L_law 0 0 440 = true := gpiece_add (lo := 0) (n := 400) (m := 40) cq_0_9 cp_0_10
theorem cq_0_11 : gpiece gNt 181 k_L_law 0 0 480 = true := gpiece_add (lo := 0) (n := 440) (m := 40) cq_0_10 cp_0_11
theorem cq_0_12 : gpiece gNt 181 k_L_law 0 0 520 = true := gpiece_add (lo := 0) (n := 480) (m := 40) cq_0_11 cp_0_12
theorem cq_0_13 : gpiece gNt 181 k_L_law 0 0 560 = true := gpiece_add (lo := 0) (n := 520) (m := 40) cq_0_12 cp_0_13
theorem cq_0_14 : gpiece gNt 181 k_L_law 0 0 600 = true := gpiece_add (lo := 0) (n := 560) (m := 40) cq_0_13 cp_0_14
theorem cq_0_15 : gpiece gNt 181 k_L_law 0 0 640 = true := gpiece_add (lo := 0) (n := 600) (m := 40) cq_0_14 cp_0_15
theorem cq_0_16 : gpiece gNt 181 k_L_law 0 0 680 = true := gpiece_add (lo := 0) (n := 640) (m := 40) cq_0_15 cp_0_16
theorem cq_0_17 : gpiece gNt 181 k_L_law 0 0 720 = true := gpiece_add (lo := 0) (n := 680) (m := 40) cq_0_16 cp_0_17
theorem cq_0_18 : gpiece gNt 181 k_L_law 0 0 760 = true := gpiece_add (lo := 0) (n := 720) (m := 40) cq_0_17 cp_0_18
theorem cq_0_19 : gpiece gNt 181 k_L_law 0 0 800 = true := gpiece_add (lo := 0) (n := 760) (m := 40) cq_0_18 cp_0_19
theorem cq_0_20 : gpiece gNt 181 k_L_law 0 0 840 = true := gpiece_add (lo := 0) (n := 800) (m := 40) cq_0_19 cp_0_20
theorem cq_0_21 : gpiece gNt 181 k_L_law 0 0 841 = true := gpiece_add (lo := 0) (n := 840) (m := 1) cq_0_20 cp_0_21
set_option maxRecDepth 100000 in
theorem ck_0 : gchk gNt 181 (gM 0).1 0 = true := gchk_of (C := k_L_law) (n := 841) rfl (by decide +kernel) (by decide +kernel) (cq_0_21)
theorem cp_1_0 : gpiece gNt 181 k_X0_init 1 0 21 = true := by decide +kernel
set_option maxRecDepth 100000 in
theorem ck_1 : gchk gNt 181 (gM 1).1 1 = true := gchk_of (C := k_X0_init) (n := 21) rfl (by decide +kernel) (by decide +kernel) (cp_1_0)
theorem ch_1 : ghd gM gNt 1 = true := by decide +kernel
theorem cp_2_0 : gpiece gNt 181 k_X0_forgetAll 2 0 7 = true := by decide +kernel
set_option maxRecDepth 100000 in
theorem ck_2 : gchk gNt 181 (gM 2).1 2 = true := gchk_of (C := k_X0_forgetAll) (n := 7) rfl (by decide +kernel) (by decide +kernel) (cp_2_0)
theorem ch_2 : ghd gM gNt 2 = true := by decide +kernel
theorem cp_3_0 : gpiece gNt 181 k_X0_add 3 0 32 = true := by decide +kernel
set_option maxRecDepth 100000 in
theorem ck_3 : gchk gNt 181 (gM 3).1 3 = true := gchk_of (C := k_X0_add) (n := 32) rfl (by decide +kernel) (by decide +kernel) (cp_3_0)
theorem ch_3 : ghd gM gNt 3 = true := by decide +kernel
theorem cp_4_0 : gpiece gNt 181 k_X0_takeLast 4 0 22 = true := by decide +kernel
set_option maxRecDepth 100000 in
theorem ck_4 : gchk gNt 181 (gM 4).1 4 = true := gchk_of (C := k_X0_takeLast) (n := 22) rfl (by decide +kernel) (by decide +kernel) (cp_4_0)
theorem ch_4 : ghd gM gNt 4 = true := by decide +kernel
theorem cp_5_0 : gpiece gNt 181 k_X1_init 5 0 27 = true := by decide +kernel
set_option maxRecDepth 100000 in
theorem ck_5 : gchk gNt 181 (gM 5).1 5 = true := gchk_of (C := k_X1_init) (n := 27) rfl (by decide +kernel) (by decide +kernel) (cp_5_0)
theorem ch_5 : ghd gM gNt 5 = true := by decide +kernel
theorem cp_6_0 : gpiece gNt 181 k_X1_read 6 0 40 = true := by decide +kernel
theorem cp_6_1 : gpiece gNt 181 k_X1_read 6 40 5 = true := by decide +kernel
theorem cq_6_1 : gpiece gNt 181 k_X1_read 6 0 45 = true := gpiece_add (lo := 0) (n := 40) (m := 5) cp_6_0 cp_6_1
set_option maxRecDepth 100000 in
theorem ck_6 : gchk gNt 181 (gM 6).1 6 = true := gchk_of (C := k_X1_read) (n := 45) rfl (by decide +kernel) (by decide +kernel) (cq_6_1)
theorem ch_6 : ghd gM gNt 6 = true := by decide +kernel
theorem cp_7_0 : gpiece gNt 181 k_X1_takes 7 0 40 = true := by decide +kernel
theorem cp_7_1 : gpiece gNt 181 k_X1_takes 7 40 4 = true := by decide +kernel
theorem cq_7_1 : gpiece gNt 181 k_X1_takes 7 0 44 = true := gpiece_add (lo := 0) (n := 40) (m := 4) cp_7_0 cp_7_1
set_option maxRecDepth 100000 in
theorem ck_7 : gchk gNt 181 (gM 7).1 7 = true := gchk_of (C := k_X1_takes) (n := 44) rfl (by decide +kernel) (by decide +kernel) (cq_7_1)
theorem ch_7 : ghd gM gNt 7 = true := by decide +kernel
theorem cp_8_0 : gpiece gNt 181 k_X1_mayStart 8 0 39 = true := by decide +kernel
set_option maxRecDepth 100000 in
theorem ck_8 : gchk gNt 181 (gM 8).1 8 = true := gchk_of (C := k_X1_mayStart) (n := 39) rfl (by decide +kernel) (by decide +kernel) (cp_8_0)
theorem ch_8 : ghd gM gNt 8 = true := by decide +kernel
theorem cp_9_0 : gpiece gNt 181 k_X1_goesOn 9 0 21 = true := by decide +kernel
set_option maxRecDepth 100000 in
theorem ck_9 : gchk gNt 181 (gM 9).1 9 = true := gchk_of (C := k_X1_goesOn) (n := 21) rfl (by decide +kernel) (by decide +kernel) (cp_9_0)
theorem ch_9 : ghd gM gNt 9 = true := by decide +kernel
theorem cp_10_0 : gpiece gNt 181 k_X1_takesGate 10 0 40 = true := by decide +kernel
theorem cp_10_1 : gpiece gNt 181 k_X1_takesGate 10 40 5 = true := by decide +kernel
theorem cq_10_1 : gpiece gNt 181 k_X1_takesGate 10 0 45 = true := gpiece_add (lo := 0) (n := 40) (m := 5) cp_10_0 cp_10_1
set_option maxRecDepth 100000 in
theorem ck_10 : gchk gNt 181 (gM 10).1 10 = true := gchk_of (C := k_X1_takesGate) (n := 45) rfl (by decide +kernel) (by decide +kernel) (cq_10_1)
theorem ch_10 : ghd gM gNt 10 = true := by decide +kernel
theorem cp_11_0 : gpiece gNt 181 k_X1_takesLane 11 0 40 = true := by decide +kernel
theorem cp_11_1 : gpiece gNt 181 k_X1_takesLane 11 40 9 = true := by decide +kernel
theorem cq_11_1 : gpiece gNt 181 k_X1_takesLane 11 0 49 = true := gpiece_add (lo := 0) (n := 40) (m := 9) cp_11_0 cp_11_1
set_option maxRecDepth 100000 in
theorem ck_11 : gchk gNt 181 (gM 11).1 11 = true := gchk_of (C := k_X1_takesLane) (n := 49) rfl (by decide +kernel) (by decide +kernel) (cq_11_1)
theorem ch_11 : ghd gM gNt 11 = true := by decide +kernel
theorem cp_12_0 : gpiece gNt 181 k_X1_takesBeast 12 0 40 = true := by decide +kernel
theorem cp_12_1 : gpiece gNt 181 k_X1_takesBeast 12 40 12 = true := by decide +kernel
theorem cq_12_1 : gpiece gNt 181 k_X1_takesBeast 12 0 52 = true := gpiece_add (lo := 0) (n := 40) (m := 12) cp_12_0 cp_12_1
set_option maxRecDepth 100000 in
theorem ck_12 : gchk gNt 181 (gM 12).1 12 = true := gchk_of (C := k_X1_takesBeast) (n := 52) rfl (by decide +kernel) (by decide +kernel) (cq_12_1)
theorem ch_12 : ghd gM gNt 12 = true := by decide +kernel
theorem cp_13_0 : gpiece gNt 181 k_X1_takesVerse 13 0 40 = true := by decide +kernel
theorem cp_13_1 : gpiece gNt 181 k_X1_takesVerse 13 40 14 = true := by decide +kernel
theorem cq_13_1 : gpiece gNt 181 k_X1_takesVerse 13 0 54 = true := gpiece_add (lo := 0) (n := 40) (m := 14) cp_13_0 cp_13_1
set_option maxRecDepth 100000 in
theorem ck_13 : gchk gNt 181 (gM 13).1 13 = true := gchk_of (C := k_X1_takesVerse) (n := 54) rfl (by decide +kernel) (by decide +kernel) (cq_13_1)
theorem ch_13 : ghd gM gNt 13 = true := by decide +kernel
theorem cp_14_0 : gpiece gNt 181 k_X1_isNote 14 0 10 = true := by decide +kernel
set_option maxRecDepth 100000 in
theorem ck_14 : gchk gNt 181 (gM 14).1 14 = true := gchk_of (C := k_X1_isNote) (n := 10) rfl (by decide +kernel) (by decide +kernel) (cp_14_0)
theorem ch_14 : ghd gM gNt 14 = true := by decide +kernel
theorem cp_15_0 : gpiece gNt 181 k_X1_isGate 15 0 10 = true := by decide +kernel
set_option maxRecDepth 100000 in
theorem ck_15 : gchk gNt 181 (gM 15).1 15 = true := gchk_of (C := k_X1_isGate) (n := 10) rfl (by decide +kernel) (by decide +kernel) (cp_15_0)
theorem ch_15 : ghd gM gNt 15 = true := by decide +kernel
theorem cp_16_0 : gpiece gNt 181 k_X1_isLane 16 0 10 = true := by decide +kernel
set_option maxRecDepth 100000 in
theorem ck_16 : gchk gNt 181 (gM 16).1 16 = true := gchk_of (C := k_X1_isLane) (n := 10) rfl (by decide +kernel) (by decide +kernel) (cp_16_0)
theorem ch_16 : ghd gM gNt 16 = true := by decide +kernel
theorem cp_17_0 : gpiece gNt 181 k_X1_isBeast 17 0 10 = true := by decide +kernel
set_option maxRecDepth 100000 in
theorem ck_17 : gchk gNt 181 (gM 17).1 17 = true := gchk_of (C := k_X1_isBeast) (n := 10) rfl (by decide +kernel) (by decide +kernel) (cp_17_0)
theorem ch_17 : ghd gM gNt 17 = true := by decide +kernel
theorem cp_18_0 : gpiece gNt 181 k_X1_isVerse 18 0 10 = true := by decide +kernel
set_option maxRecDepth 100000 in
theorem ck_18 : gchk gNt 181 (gM 18).1 18 = true := gchk_of (C := k_X1_isVerse) (n := 10) rfl (by decide +kernel) (by decide +kernel) (cp_18_0)
theorem ch_18 : ghd gM gNt 18 = true := by decide +kernel
theorem cp_19_0 : gpiece gNt 181 k_X1_gatesOf 19 0 24 = true := by decide +kernel
set_option maxRecDepth 100000 in
theorem ck_19 : gchk gNt 181 (gM 19).1 19 = true := gchk_of (C := k_X1_gatesOf) (n := 24) rfl (by decide +kernel) (by decide +kernel) (cp_19_0)
theorem ch_19 : ghd gM gNt 19 = true := by decide +kernel
theorem cp_20_0 : gpiece gNt 181 k_X1_lanesWith 20 0 24 = true := by decide +kernel
set_option maxRecDepth 100000 in
theorem ck_20 : gchk gNt 181 (gM 20).1 20 = true := gchk_of (C := k_X1_lanesWith) (n := 24) rfl (by decide +kernel) (by decide +kernel) (cp_20_0)
theorem ch_20 : ghd gM gNt 20 = true := by decide +kernel
theorem cp_21_0 : gpiece gNt 181 k_X1_verseBits 21 0 26 = true := by decide +kernel
