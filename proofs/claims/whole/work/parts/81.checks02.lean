/-! CHECKS 2 -/
set_option maxRecDepth 100000 in
theorem ck_21 : gchk gNt 181 (gM 21).1 21 = true := gchk_of (C := k_X1_verseBits) (n := 26) rfl (by decide +kernel) (by decide +kernel) (cp_21_0)
theorem ch_21 : ghd gM gNt 21 = true := by decide +kernel
theorem cp_22_0 : gpiece gNt 181 k_X1_toneBy 22 0 40 = true := by decide +kernel
theorem cp_22_1 : gpiece gNt 181 k_X1_toneBy 22 40 25 = true := by decide +kernel
theorem cq_22_1 : gpiece gNt 181 k_X1_toneBy 22 0 65 = true := gpiece_add (lo := 0) (n := 40) (m := 25) cp_22_0 cp_22_1
set_option maxRecDepth 100000 in
theorem ck_22 : gchk gNt 181 (gM 22).1 22 = true := gchk_of (C := k_X1_toneBy) (n := 65) rfl (by decide +kernel) (by decide +kernel) (cq_22_1)
theorem ch_22 : ghd gM gNt 22 = true := by decide +kernel
theorem cp_23_0 : gpiece gNt 181 k_X1_sing 23 0 40 = true := by decide +kernel
theorem cp_23_1 : gpiece gNt 181 k_X1_sing 23 40 29 = true := by decide +kernel
theorem cq_23_1 : gpiece gNt 181 k_X1_sing 23 0 69 = true := gpiece_add (lo := 0) (n := 40) (m := 29) cp_23_0 cp_23_1
set_option maxRecDepth 100000 in
theorem ck_23 : gchk gNt 181 (gM 23).1 23 = true := gchk_of (C := k_X1_sing) (n := 69) rfl (by decide +kernel) (by decide +kernel) (cq_23_1)
theorem ch_23 : ghd gM gNt 23 = true := by decide +kernel
theorem cp_24_0 : gpiece gNt 181 k_X1_canGoHome 24 0 16 = true := by decide +kernel
set_option maxRecDepth 100000 in
theorem ck_24 : gchk gNt 181 (gM 24).1 24 = true := gchk_of (C := k_X1_canGoHome) (n := 16) rfl (by decide +kernel) (by decide +kernel) (cp_24_0)
theorem ch_24 : ghd gM gNt 24 = true := by decide +kernel
theorem cp_25_0 : gpiece gNt 181 k_X1_sendHome 25 0 40 = true := by decide +kernel
theorem cp_25_1 : gpiece gNt 181 k_X1_sendHome 25 40 6 = true := by decide +kernel
theorem cq_25_1 : gpiece gNt 181 k_X1_sendHome 25 0 46 = true := gpiece_add (lo := 0) (n := 40) (m := 6) cp_25_0 cp_25_1
set_option maxRecDepth 100000 in
theorem ck_25 : gchk gNt 181 (gM 25).1 25 = true := gchk_of (C := k_X1_sendHome) (n := 46) rfl (by decide +kernel) (by decide +kernel) (cq_25_1)
theorem ch_25 : ghd gM gNt 25 = true := by decide +kernel
theorem cp_26_0 : gpiece gNt 181 k_X1_fitBehind 26 0 40 = true := by decide +kernel
theorem cp_26_1 : gpiece gNt 181 k_X1_fitBehind 26 40 7 = true := by decide +kernel
theorem cq_26_1 : gpiece gNt 181 k_X1_fitBehind 26 0 47 = true := gpiece_add (lo := 0) (n := 40) (m := 7) cp_26_0 cp_26_1
set_option maxRecDepth 100000 in
theorem ck_26 : gchk gNt 181 (gM 26).1 26 = true := gchk_of (C := k_X1_fitBehind) (n := 47) rfl (by decide +kernel) (by decide +kernel) (cq_26_1)
theorem ch_26 : ghd gM gNt 26 = true := by decide +kernel
theorem cp_27_0 : gpiece gNt 181 k_X2_init 27 0 15 = true := by decide +kernel
set_option maxRecDepth 100000 in
theorem ck_27 : gchk gNt 181 (gM 27).1 27 = true := gchk_of (C := k_X2_init) (n := 15) rfl (by decide +kernel) (by decide +kernel) (cp_27_0)
theorem ch_27 : ghd gM gNt 27 = true := by decide +kernel
theorem cp_28_0 : gpiece gNt 181 k_X2_add 28 0 29 = true := by decide +kernel
set_option maxRecDepth 100000 in
theorem ck_28 : gchk gNt 181 (gM 28).1 28 = true := gchk_of (C := k_X2_add) (n := 29) rfl (by decide +kernel) (by decide +kernel) (cp_28_0)
theorem ch_28 : ghd gM gNt 28 = true := by decide +kernel
theorem cp_29_0 : gpiece gNt 181 k_X2_agrees 29 0 40 = true := by decide +kernel
theorem cp_29_1 : gpiece gNt 181 k_X2_agrees 29 40 5 = true := by decide +kernel
theorem cq_29_1 : gpiece gNt 181 k_X2_agrees 29 0 45 = true := gpiece_add (lo := 0) (n := 40) (m := 5) cp_29_0 cp_29_1
set_option maxRecDepth 100000 in
theorem ck_29 : gchk gNt 181 (gM 29).1 29 = true := gchk_of (C := k_X2_agrees) (n := 45) rfl (by decide +kernel) (by decide +kernel) (cq_29_1)
theorem ch_29 : ghd gM gNt 29 = true := by decide +kernel
theorem cp_30_0 : gpiece gNt 181 k_X3_init 30 0 11 = true := by decide +kernel
set_option maxRecDepth 100000 in
theorem ck_30 : gchk gNt 181 (gM 30).1 30 = true := gchk_of (C := k_X3_init) (n := 11) rfl (by decide +kernel) (by decide +kernel) (cp_30_0)
theorem ch_30 : ghd gM gNt 30 = true := by decide +kernel
theorem cp_31_0 : gpiece gNt 181 k_X3_meet 31 0 40 = true := by decide +kernel
theorem cp_31_1 : gpiece gNt 181 k_X3_meet 31 40 17 = true := by decide +kernel
theorem cq_31_1 : gpiece gNt 181 k_X3_meet 31 0 57 = true := gpiece_add (lo := 0) (n := 40) (m := 17) cp_31_0 cp_31_1
set_option maxRecDepth 100000 in
theorem ck_31 : gchk gNt 181 (gM 31).1 31 = true := gchk_of (C := k_X3_meet) (n := 57) rfl (by decide +kernel) (by decide +kernel) (cq_31_1)
theorem ch_31 : ghd gM gNt 31 = true := by decide +kernel
theorem cp_32_0 : gpiece gNt 181 k_X3_settle 32 0 40 = true := by decide +kernel
theorem cp_32_1 : gpiece gNt 181 k_X3_settle 32 40 6 = true := by decide +kernel
theorem cq_32_1 : gpiece gNt 181 k_X3_settle 32 0 46 = true := gpiece_add (lo := 0) (n := 40) (m := 6) cp_32_0 cp_32_1
set_option maxRecDepth 100000 in
theorem ck_32 : gchk gNt 181 (gM 32).1 32 = true := gchk_of (C := k_X3_settle) (n := 46) rfl (by decide +kernel) (by decide +kernel) (cq_32_1)
theorem ch_32 : ghd gM gNt 32 = true := by decide +kernel
theorem cp_33_0 : gpiece gNt 181 k_X3_isAtRest 33 0 40 = true := by decide +kernel
theorem cp_33_1 : gpiece gNt 181 k_X3_isAtRest 33 40 3 = true := by decide +kernel
theorem cq_33_1 : gpiece gNt 181 k_X3_isAtRest 33 0 43 = true := gpiece_add (lo := 0) (n := 40) (m := 3) cp_33_0 cp_33_1
set_option maxRecDepth 100000 in
theorem ck_33 : gchk gNt 181 (gM 33).1 33 = true := gchk_of (C := k_X3_isAtRest) (n := 43) rfl (by decide +kernel) (by decide +kernel) (cq_33_1)
theorem ch_33 : ghd gM gNt 33 = true := by decide +kernel
theorem cp_34_0 : gpiece gNt 181 k_X3_isUnbroken 34 0 9 = true := by decide +kernel
set_option maxRecDepth 100000 in
theorem ck_34 : gchk gNt 181 (gM 34).1 34 = true := gchk_of (C := k_X3_isUnbroken) (n := 9) rfl (by decide +kernel) (by decide +kernel) (cp_34_0)
theorem ch_34 : ghd gM gNt 34 = true := by decide +kernel
theorem cp_35_0 : gpiece gNt 181 k_X4_init 35 0 3 = true := by decide +kernel
set_option maxRecDepth 100000 in
theorem ck_35 : gchk gNt 181 (gM 35).1 35 = true := gchk_of (C := k_X4_init) (n := 3) rfl (by decide +kernel) (by decide +kernel) (cp_35_0)
theorem ch_35 : ghd gM gNt 35 = true := by decide +kernel
theorem cp_36_0 : gpiece gNt 181 k_X4_begin 36 0 40 = true := by decide +kernel
theorem cp_36_1 : gpiece gNt 181 k_X4_begin 36 40 1 = true := by decide +kernel
theorem cq_36_1 : gpiece gNt 181 k_X4_begin 36 0 41 = true := gpiece_add (lo := 0) (n := 40) (m := 1) cp_36_0 cp_36_1
set_option maxRecDepth 100000 in
theorem ck_36 : gchk gNt 181 (gM 36).1 36 = true := gchk_of (C := k_X4_begin) (n := 41) rfl (by decide +kernel) (by decide +kernel) (cq_36_1)
theorem ch_36 : ghd gM gNt 36 = true := by decide +kernel
theorem cp_37_0 : gpiece gNt 181 k_X4_become 37 0 33 = true := by decide +kernel
set_option maxRecDepth 100000 in
theorem ck_37 : gchk gNt 181 (gM 37).1 37 = true := gchk_of (C := k_X4_become) (n := 33) rfl (by decide +kernel) (by decide +kernel) (cp_37_0)
theorem ch_37 : ghd gM gNt 37 = true := by decide +kernel
theorem cp_38_0 : gpiece gNt 181 k_X4_noteOf 38 0 9 = true := by decide +kernel
set_option maxRecDepth 100000 in
theorem ck_38 : gchk gNt 181 (gM 38).1 38 = true := gchk_of (C := k_X4_noteOf) (n := 9) rfl (by decide +kernel) (by decide +kernel) (cp_38_0)
theorem ch_38 : ghd gM gNt 38 = true := by decide +kernel
theorem cp_39_0 : gpiece gNt 181 k_X4_setNote 39 0 19 = true := by decide +kernel
set_option maxRecDepth 100000 in
theorem ck_39 : gchk gNt 181 (gM 39).1 39 = true := gchk_of (C := k_X4_setNote) (n := 19) rfl (by decide +kernel) (by decide +kernel) (cp_39_0)
theorem ch_39 : ghd gM gNt 39 = true := by decide +kernel
theorem cp_40_0 : gpiece gNt 181 k_X4_passedOf 40 0 9 = true := by decide +kernel
set_option maxRecDepth 100000 in
theorem ck_40 : gchk gNt 181 (gM 40).1 40 = true := gchk_of (C := k_X4_passedOf) (n := 9) rfl (by decide +kernel) (by decide +kernel) (cp_40_0)
theorem ch_40 : ghd gM gNt 40 = true := by decide +kernel
theorem cp_41_0 : gpiece gNt 181 k_X4_pass 41 0 16 = true := by decide +kernel
set_option maxRecDepth 100000 in
theorem ck_41 : gchk gNt 181 (gM 41).1 41 = true := gchk_of (C := k_X4_pass) (n := 16) rfl (by decide +kernel) (by decide +kernel) (cp_41_0)
theorem ch_41 : ghd gM gNt 41 = true := by decide +kernel
theorem cp_42_0 : gpiece gNt 181 k_X4_isHome 42 0 11 = true := by decide +kernel
set_option maxRecDepth 100000 in
theorem ck_42 : gchk gNt 181 (gM 42).1 42 = true := gchk_of (C := k_X4_isHome) (n := 11) rfl (by decide +kernel) (by decide +kernel) (cp_42_0)
theorem ch_42 : ghd gM gNt 42 = true := by decide +kernel
theorem cp_43_0 : gpiece gNt 181 k_X4_homeCount 43 0 4 = true := by decide +kernel
set_option maxRecDepth 100000 in
theorem ck_43 : gchk gNt 181 (gM 43).1 43 = true := gchk_of (C := k_X4_homeCount) (n := 4) rfl (by decide +kernel) (by decide +kernel) (cp_43_0)
theorem ch_43 : ghd gM gNt 43 = true := by decide +kernel
theorem cp_44_0 : gpiece gNt 181 k_X4_addSung 44 0 18 = true := by decide +kernel
set_option maxRecDepth 100000 in
theorem ck_44 : gchk gNt 181 (gM 44).1 44 = true := gchk_of (C := k_X4_addSung) (n := 18) rfl (by decide +kernel) (by decide +kernel) (cp_44_0)
theorem ch_44 : ghd gM gNt 44 = true := by decide +kernel
theorem cp_45_0 : gpiece gNt 181 k_X4_fromLast 45 0 16 = true := by decide +kernel
set_option maxRecDepth 100000 in
theorem ck_45 : gchk gNt 181 (gM 45).1 45 = true := gchk_of (C := k_X4_fromLast) (n := 16) rfl (by decide +kernel) (by decide +kernel) (cp_45_0)
theorem ch_45 : ghd gM gNt 45 = true := by decide +kernel
theorem cp_46_0 : gpiece gNt 181 k_X5_init 46 0 28 = true := by decide +kernel
