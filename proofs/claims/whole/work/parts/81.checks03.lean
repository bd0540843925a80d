/-! CHECKS 3 -/
set_option maxRecDepth 100000 in
theorem ck_46 : gchk gNt 181 (gM 46).1 46 = true := gchk_of (C := k_X5_init) (n := 28) rfl (by decide +kernel) (by decide +kernel) (cp_46_0)
theorem ch_46 : ghd gM gNt 46 = true := by decide +kernel
theorem cp_47_0 : gpiece gNt 181 k_X5_look 47 0 16 = true := by decide +kernel
set_option maxRecDepth 100000 in
theorem ck_47 : gchk gNt 181 (gM 47).1 47 = true := gchk_of (C := k_X5_look) (n := 16) rfl (by decide +kernel) (by decide +kernel) (cp_47_0)
theorem ch_47 : ghd gM gNt 47 = true := by decide +kernel
theorem cp_48_0 : gpiece gNt 181 k_X5_tryRows 48 0 40 = true := by decide +kernel
theorem cp_48_1 : gpiece gNt 181 k_X5_tryRows 48 40 40 = true := by decide +kernel
theorem cp_48_2 : gpiece gNt 181 k_X5_tryRows 48 80 6 = true := by decide +kernel
theorem cq_48_1 : gpiece gNt 181 k_X5_tryRows 48 0 80 = true := gpiece_add (lo := 0) (n := 40) (m := 40) cp_48_0 cp_48_1
theorem cq_48_2 : gpiece gNt 181 k_X5_tryRows 48 0 86 = true := gpiece_add (lo := 0) (n := 80) (m := 6) cq_48_1 cp_48_2
set_option maxRecDepth 100000 in
theorem ck_48 : gchk gNt 181 (gM 48).1 48 = true := gchk_of (C := k_X5_tryRows) (n := 86) rfl (by decide +kernel) (by decide +kernel) (cq_48_2)
theorem ch_48 : ghd gM gNt 48 = true := by decide +kernel
theorem cp_49_0 : gpiece gNt 181 k_X5_take 49 0 11 = true := by decide +kernel
set_option maxRecDepth 100000 in
theorem ck_49 : gchk gNt 181 (gM 49).1 49 = true := gchk_of (C := k_X5_take) (n := 11) rfl (by decide +kernel) (by decide +kernel) (cp_49_0)
theorem ch_49 : ghd gM gNt 49 = true := by decide +kernel
theorem cp_50_0 : gpiece gNt 181 k_X6_init 50 0 7 = true := by decide +kernel
set_option maxRecDepth 100000 in
theorem ck_50 : gchk gNt 181 (gM 50).1 50 = true := gchk_of (C := k_X6_init) (n := 7) rfl (by decide +kernel) (by decide +kernel) (cp_50_0)
theorem ch_50 : ghd gM gNt 50 = true := by decide +kernel
theorem cp_51_0 : gpiece gNt 181 k_X6_add 51 0 17 = true := by decide +kernel
set_option maxRecDepth 100000 in
theorem ck_51 : gchk gNt 181 (gM 51).1 51 = true := gchk_of (C := k_X6_add) (n := 17) rfl (by decide +kernel) (by decide +kernel) (cp_51_0)
theorem ch_51 : ghd gM gNt 51 = true := by decide +kernel
theorem cp_52_0 : gpiece gNt 181 k_X6_toneCount 52 0 24 = true := by decide +kernel
set_option maxRecDepth 100000 in
theorem ck_52 : gchk gNt 181 (gM 52).1 52 = true := gchk_of (C := k_X6_toneCount) (n := 24) rfl (by decide +kernel) (by decide +kernel) (cp_52_0)
theorem ch_52 : ghd gM gNt 52 = true := by decide +kernel
theorem cp_53_0 : gpiece gNt 181 k_X6_toneBits 53 0 23 = true := by decide +kernel
set_option maxRecDepth 100000 in
theorem ck_53 : gchk gNt 181 (gM 53).1 53 = true := gchk_of (C := k_X6_toneBits) (n := 23) rfl (by decide +kernel) (by decide +kernel) (cp_53_0)
theorem ch_53 : ghd gM gNt 53 = true := by decide +kernel
theorem cp_54_0 : gpiece gNt 181 k_X6_harmonyWith 54 0 40 = true := by decide +kernel
theorem cp_54_1 : gpiece gNt 181 k_X6_harmonyWith 54 40 6 = true := by decide +kernel
theorem cq_54_1 : gpiece gNt 181 k_X6_harmonyWith 54 0 46 = true := gpiece_add (lo := 0) (n := 40) (m := 6) cp_54_0 cp_54_1
set_option maxRecDepth 100000 in
theorem ck_54 : gchk gNt 181 (gM 54).1 54 = true := gchk_of (C := k_X6_harmonyWith) (n := 46) rfl (by decide +kernel) (by decide +kernel) (cq_54_1)
theorem ch_54 : ghd gM gNt 54 = true := by decide +kernel
theorem cp_55_0 : gpiece gNt 181 k_X7_init 55 0 40 = true := by decide +kernel
theorem cp_55_1 : gpiece gNt 181 k_X7_init 55 40 39 = true := by decide +kernel
theorem cq_55_1 : gpiece gNt 181 k_X7_init 55 0 79 = true := gpiece_add (lo := 0) (n := 40) (m := 39) cp_55_0 cp_55_1
set_option maxRecDepth 100000 in
theorem ck_55 : gchk gNt 181 (gM 55).1 55 = true := gchk_of (C := k_X7_init) (n := 79) rfl (by decide +kernel) (by decide +kernel) (cq_55_1)
theorem ch_55 : ghd gM gNt 55 = true := by decide +kernel
theorem cp_56_0 : gpiece gNt 181 k_X7_write 56 0 28 = true := by decide +kernel
set_option maxRecDepth 100000 in
theorem ck_56 : gchk gNt 181 (gM 56).1 56 = true := gchk_of (C := k_X7_write) (n := 28) rfl (by decide +kernel) (by decide +kernel) (cp_56_0)
theorem ch_56 : ghd gM gNt 56 = true := by decide +kernel
theorem cp_57_0 : gpiece gNt 181 k_X7_wipe 57 0 8 = true := by decide +kernel
set_option maxRecDepth 100000 in
theorem ck_57 : gchk gNt 181 (gM 57).1 57 = true := gchk_of (C := k_X7_wipe) (n := 8) rfl (by decide +kernel) (by decide +kernel) (cp_57_0)
theorem ch_57 : ghd gM gNt 57 = true := by decide +kernel
theorem cp_58_0 : gpiece gNt 181 k_X7_fault 58 0 8 = true := by decide +kernel
set_option maxRecDepth 100000 in
theorem ck_58 : gchk gNt 181 (gM 58).1 58 = true := gchk_of (C := k_X7_fault) (n := 8) rfl (by decide +kernel) (by decide +kernel) (cp_58_0)
theorem ch_58 : ghd gM gNt 58 = true := by decide +kernel
theorem cp_59_0 : gpiece gNt 181 k_X7_fen 59 0 40 = true := by decide +kernel
theorem cp_59_1 : gpiece gNt 181 k_X7_fen 59 40 23 = true := by decide +kernel
theorem cq_59_1 : gpiece gNt 181 k_X7_fen 59 0 63 = true := gpiece_add (lo := 0) (n := 40) (m := 23) cp_59_0 cp_59_1
set_option maxRecDepth 100000 in
theorem ck_59 : gchk gNt 181 (gM 59).1 59 = true := gchk_of (C := k_X7_fen) (n := 63) rfl (by decide +kernel) (by decide +kernel) (cq_59_1)
theorem ch_59 : ghd gM gNt 59 = true := by decide +kernel
theorem cp_60_0 : gpiece gNt 181 k_X7_gate 60 0 40 = true := by decide +kernel
theorem cp_60_1 : gpiece gNt 181 k_X7_gate 60 40 8 = true := by decide +kernel
theorem cq_60_1 : gpiece gNt 181 k_X7_gate 60 0 48 = true := gpiece_add (lo := 0) (n := 40) (m := 8) cp_60_0 cp_60_1
set_option maxRecDepth 100000 in
theorem ck_60 : gchk gNt 181 (gM 60).1 60 = true := gchk_of (C := k_X7_gate) (n := 48) rfl (by decide +kernel) (by decide +kernel) (cq_60_1)
theorem ch_60 : ghd gM gNt 60 = true := by decide +kernel
theorem cp_61_0 : gpiece gNt 181 k_X7_beast 61 0 31 = true := by decide +kernel
set_option maxRecDepth 100000 in
theorem ck_61 : gchk gNt 181 (gM 61).1 61 = true := gchk_of (C := k_X7_beast) (n := 31) rfl (by decide +kernel) (by decide +kernel) (cp_61_0)
theorem ch_61 : ghd gM gNt 61 = true := by decide +kernel
theorem cp_62_0 : gpiece gNt 181 k_X7_tone 62 0 29 = true := by decide +kernel
set_option maxRecDepth 100000 in
theorem ck_62 : gchk gNt 181 (gM 62).1 62 = true := gchk_of (C := k_X7_tone) (n := 29) rfl (by decide +kernel) (by decide +kernel) (cp_62_0)
theorem ch_62 : ghd gM gNt 62 = true := by decide +kernel
theorem cp_63_0 : gpiece gNt 181 k_X7_song 63 0 40 = true := by decide +kernel
theorem cp_63_1 : gpiece gNt 181 k_X7_song 63 40 8 = true := by decide +kernel
theorem cq_63_1 : gpiece gNt 181 k_X7_song 63 0 48 = true := gpiece_add (lo := 0) (n := 40) (m := 8) cp_63_0 cp_63_1
set_option maxRecDepth 100000 in
theorem ck_63 : gchk gNt 181 (gM 63).1 63 = true := gchk_of (C := k_X7_song) (n := 48) rfl (by decide +kernel) (by decide +kernel) (cq_63_1)
theorem ch_63 : ghd gM gNt 63 = true := by decide +kernel
theorem cp_64_0 : gpiece gNt 181 k_X7_sung 64 0 12 = true := by decide +kernel
set_option maxRecDepth 100000 in
theorem ck_64 : gchk gNt 181 (gM 64).1 64 = true := gchk_of (C := k_X7_sung) (n := 12) rfl (by decide +kernel) (by decide +kernel) (cp_64_0)
theorem ch_64 : ghd gM gNt 64 = true := by decide +kernel
theorem cp_65_0 : gpiece gNt 181 k_X7_drive 65 0 37 = true := by decide +kernel
set_option maxRecDepth 100000 in
theorem ck_65 : gchk gNt 181 (gM 65).1 65 = true := gchk_of (C := k_X7_drive) (n := 37) rfl (by decide +kernel) (by decide +kernel) (cp_65_0)
theorem ch_65 : ghd gM gNt 65 = true := by decide +kernel
theorem cp_66_0 : gpiece gNt 181 k_X7_open 66 0 29 = true := by decide +kernel
set_option maxRecDepth 100000 in
theorem ck_66 : gchk gNt 181 (gM 66).1 66 = true := gchk_of (C := k_X7_open) (n := 29) rfl (by decide +kernel) (by decide +kernel) (cp_66_0)
theorem ch_66 : ghd gM gNt 66 = true := by decide +kernel
theorem cp_67_0 : gpiece gNt 181 k_X7_oil 67 0 29 = true := by decide +kernel
set_option maxRecDepth 100000 in
theorem ck_67 : gchk gNt 181 (gM 67).1 67 = true := gchk_of (C := k_X7_oil) (n := 29) rfl (by decide +kernel) (by decide +kernel) (cp_67_0)
theorem ch_67 : ghd gM gNt 67 = true := by decide +kernel
theorem cp_68_0 : gpiece gNt 181 k_X7_hang 68 0 35 = true := by decide +kernel
