/-! FUNCTIONS (dec.py, dec2.py) -/
def f_X7_isSlot (I : Nat → Nat → Int32) (L : Nat → Nat → Int64) (a0 : Int32) : Int32 := (if a0 < 0 then (nI 0) else (if (nI 2) ≤ a0 then (nI 0) else (nI 1)))
set_option maxHeartbeats 4000000 in
set_option maxRecDepth 100000 in
theorem s_X7_isSlot {n f g d : Nat} {Q : gP} {I : Nat → Nat → Int32} {L : Nat → Nat → Int64} {a0 : Int32}  (hQ : Q (some (.int (f_X7_isSlot I L a0))) (gKn n, gRf f g, I, L)) : gR gM (d + 0) 90 [.int a0] (gKn n, gRf f g, I, L) Q := by
  unfold f_X7_isSlot at hQ
  show gW gM (d + 0) 0 0 k_X7_isSlot 0 [.int a0] [] (gKn n, gRf f g, I, L) Q
  refine r_iload rfl rfl ?_
  have j3 : gW gM (d + 0) 0 0 k_X7_isSlot 8 [.int a0] [.int (if a0 < 0 then (nI 0) else (if (nI 2) ≤ a0 then (nI 0) else (nI 1)))] (gKn n, gRf f g, I, L) Q := by
    refine r_zret rfl (by split <;> (try split) <;> (try split) <;> decide) ?_
    first | exact hQ | simpa only [if_true] using hQ
  refine r_if_lt 7 rfl rfl (fun c1 => ?_) (fun c1 => ?_)
  · try simp only [if_pos c1] at hQ
    refine r_const rfl (gcst 0) ?_
    simpa only [if_pos c1] using j3
  · try simp only [if_neg c1] at hQ
    refine r_iload rfl rfl ?_
    refine r_const rfl (gcst 2) ?_
    refine r_icmp_ge 7 rfl rfl (fun c2 => ?_) (fun c2 => ?_)
    · try simp only [if_pos c2] at hQ
      refine r_const rfl (gcst 0) ?_
      simpa only [if_neg c1, if_pos c2] using j3
    · try simp only [if_neg c2] at hQ
      refine r_const rfl (gcst 1) ?_
      refine r_goto 8 rfl rfl ?_
      simpa only [if_neg c1, if_neg c2] using j3
def r_X7_keep (f g : Nat) (I : Nat → Nat → Int32) (L : Nat → Nat → Int64) (a1 : Int32) : Option gRs := (if ¬ (f_X7_isSlot I L a1) = 0 then (if gvp a1 2 = true then (if gvp a1 2 = true then some ((f_X4_homeCount (gu2 (i_X4_become I L (37 + gx a1) 18) 39 (gx a1) (nI 1)) (l_X4_become I L (37 + gx a1) 18) 18), (gu2 (i_X4_become I L (37 + gx a1) 18) 39 (gx a1) (nI 1)), (l_X4_become I L (37 + gx a1) 18)) else none) else none) else some ((-1 : Int32), I, L))
set_option maxHeartbeats 4000000 in
set_option maxRecDepth 100000 in
theorem s_X7_keep {n f g d : Nat} {Q : gP} {I : Nat → Nat → Int32} {L : Nat → Nat → Int64} {a1 : Int32} {z : gRs} (hw : gfw f g)  (hr : r_X7_keep f g I L a1 = some z) (hQ : Q (some (.int z.1)) (gKn n, gRf f g, z.2.1, z.2.2)) : gR gM (d + 2) 87 [.ref 2, .int a1] (gKn n, gRf f g, I, L) Q := by
  have hfe := hw.f
  have hfd := hw.g
  unfold r_X7_keep at hr
  show gW gM (d + 2) 0 0 k_X7_keep 0 [.ref 2, .int a1] [] (gKn n, gRf f g, I, L) Q
  refine r_iload rfl rfl ?_
  refine r_invs [.int a1] rfl rfl rfl rfl (Nat.le_of_ble_eq_true rfl) ⟨rfl, rfl⟩ ?_
  refine s_X7_isSlot  ?_
  show gW _ _ _ _ _ 2 [.ref 2, .int a1] [.int (f_X7_isSlot I L a1)] (gKn n, gRf f g, I, L) _
  refine r_if_ne 5 rfl rfl (fun c4 => ?_) (fun c4 => ?_)
  · rw [if_pos c4] at hr
    refine r_aload rfl rfl ?_
    refine r_getR (c := 7) (k := 7) (v := 36) rfl rfl ⟨rfl, rfl⟩ rfl ?_
    refine r_iload rfl rfl ?_
    obtain ⟨b5, hr⟩ := gopt hr
    refine r_aaload (n := 2) (v := (37 + gx a1)) rfl rfl (gvp_in b5) (rfKept (gvp_in b5)) ?_
    refine r_aload rfl rfl ?_
    refine r_getR (c := 7) (k := 4) (v := 18) rfl rfl ⟨rfl, rfl⟩ rfl ?_
    refine r_invv (a := (37 + gx a1)) [.ref 18] rfl rfl (shMom (moKept (gvp_in b5))) rfl rfl (Nat.le_of_ble_eq_true rfl) ⟨rfl, rfl⟩ ?_
    refine s_X4_become (moKept (gvp_in b5)) rfl ?_
    show gW _ _ _ _ _ 12 [.ref 2, .int a1] [] (gKn n, gRf f g, (i_X4_become I L (37 + gx a1) 18), (l_X4_become I L (37 + gx a1) 18)) _
    refine r_aload rfl rfl ?_
    refine r_getR (c := 7) (k := 8) (v := 39) rfl rfl ⟨rfl, rfl⟩ rfl ?_
    refine r_iload rfl rfl ?_
    refine r_const rfl (gcst 1) ?_
    obtain ⟨b6, hr⟩ := gopt hr
    refine r_bastore (n := 2) rfl rfl (gvp_in b6) (Or.inr rfl) ?_
    refine r_aload rfl rfl ?_
    refine r_getR (c := 7) (k := 4) (v := 18) rfl rfl ⟨rfl, rfl⟩ rfl ?_
    refine r_invv (a := 18) [] rfl rfl rfl rfl rfl (Nat.le_of_ble_eq_true rfl) ⟨rfl, rfl⟩ ?_
    refine s_X4_homeCount rfl ?_
    show gW _ _ _ _ _ 20 [.ref 2, .int a1] [.int (f_X4_homeCount (gu2 (i_X4_become I L (37 + gx a1) 18) 39 (gx a1) (nI 1)) (l_X4_become I L (37 + gx a1) 18) 18)] (gKn n, gRf f g, (gu2 (i_X4_become I L (37 + gx a1) 18) 39 (gx a1) (nI 1)), (l_X4_become I L (37 + gx a1) 18)) _
    refine r_iret rfl ?_
    cases hr
    exact hQ
  · rw [if_neg c4] at hr
    refine r_const rfl (v := -1) (by decide) ?_
    refine r_iret rfl ?_
    cases hr
    exact hQ
def r_X7_again (f g : Nat) (I : Nat → Nat → Int32) (L : Nat → Nat → Int64) (a1 : Int32) : Option gRs := (if ¬ (f_X7_isSlot I L a1) = 0 then (if gvp a1 2 = true then (if ¬ (I 39 (gx a1)) = 0 then (if gvp a1 2 = true then some ((f_X4_homeCount (i_X0_forgetAll (i_X4_become I L 18 (37 + gx a1)) (l_X4_become I L 18 (37 + gx a1))) (l_X4_become I L 18 (37 + gx a1)) 18), (i_X0_forgetAll (i_X4_become I L 18 (37 + gx a1)) (l_X4_become I L 18 (37 + gx a1))), (l_X4_become I L 18 (37 + gx a1))) else none) else some ((-3 : Int32), I, L)) else none) else some ((-1 : Int32), I, L))
set_option maxHeartbeats 4000000 in
set_option maxRecDepth 100000 in
theorem s_X7_again {n f g d : Nat} {Q : gP} {I : Nat → Nat → Int32} {L : Nat → Nat → Int64} {a1 : Int32} {z : gRs} (hw : gfw f g)  (hr : r_X7_again f g I L a1 = some z) (hQ : Q (some (.int z.1)) (gKn n, gRf f g, z.2.1, z.2.2)) : gR gM (d + 2) 88 [.ref 2, .int a1] (gKn n, gRf f g, I, L) Q := by
  have hfe := hw.f
  have hfd := hw.g
  unfold r_X7_again at hr
  show gW gM (d + 2) 0 0 k_X7_again 0 [.ref 2, .int a1] [] (gKn n, gRf f g, I, L) Q
  refine r_iload rfl rfl ?_
  refine r_invs [.int a1] rfl rfl rfl rfl (Nat.le_of_ble_eq_true rfl) ⟨rfl, rfl⟩ ?_
  refine s_X7_isSlot  ?_
  show gW _ _ _ _ _ 2 [.ref 2, .int a1] [.int (f_X7_isSlot I L a1)] (gKn n, gRf f g, I, L) _
  refine r_if_ne 5 rfl rfl (fun c5 => ?_) (fun c5 => ?_)
  · rw [if_pos c5] at hr
    refine r_aload rfl rfl ?_
    refine r_getR (c := 7) (k := 8) (v := 39) rfl rfl ⟨rfl, rfl⟩ rfl ?_
    refine r_iload rfl rfl ?_
    obtain ⟨b6, hr⟩ := gopt hr
    refine r_baload (n := 2) rfl rfl (gvp_in b6) ?_
    refine r_if_ne 12 rfl rfl (fun c7 => ?_) (fun c7 => ?_)
    · rw [if_pos c7] at hr
      refine r_aload rfl rfl ?_
      refine r_getR (c := 7) (k := 4) (v := 18) rfl rfl ⟨rfl, rfl⟩ rfl ?_
      refine r_aload rfl rfl ?_
      refine r_getR (c := 7) (k := 7) (v := 36) rfl rfl ⟨rfl, rfl⟩ rfl ?_
      refine r_iload rfl rfl ?_
      obtain ⟨b8, hr⟩ := gopt hr
      refine r_aaload (n := 2) (v := (37 + gx a1)) rfl rfl (gvp_in b8) (rfKept (gvp_in b8)) ?_
      refine r_invv (a := 18) [.ref (37 + gx a1)] rfl rfl rfl rfl rfl (Nat.le_of_ble_eq_true rfl) ⟨rfl, rfl⟩ ?_
      refine s_X4_become rfl (moKept (gvp_in b8)) ?_
      show gW _ _ _ _ _ 19 [.ref 2, .int a1] [] (gKn n, gRf f g, (i_X4_become I L 18 (37 + gx a1)), (l_X4_become I L 18 (37 + gx a1))) _
      refine r_aload rfl rfl ?_
      refine r_getR (c := 7) (k := 6) (v := 20) rfl rfl ⟨rfl, rfl⟩ rfl ?_
      refine r_invv (a := 20) [] rfl rfl rfl rfl rfl (Nat.le_of_ble_eq_true rfl) ⟨rfl, rfl⟩ ?_
      refine s_X0_forgetAll  ?_
      show gW _ _ _ _ _ 22 [.ref 2, .int a1] [] (gKn n, gRf f g, (i_X0_forgetAll (i_X4_become I L 18 (37 + gx a1)) (l_X4_become I L 18 (37 + gx a1))), (l_X4_become I L 18 (37 + gx a1))) _
      refine r_aload rfl rfl ?_
      refine r_getR (c := 7) (k := 4) (v := 18) rfl rfl ⟨rfl, rfl⟩ rfl ?_
      refine r_invv (a := 18) [] rfl rfl rfl rfl rfl (Nat.le_of_ble_eq_true rfl) ⟨rfl, rfl⟩ ?_
      refine s_X4_homeCount rfl ?_
      show gW _ _ _ _ _ 25 [.ref 2, .int a1] [.int (f_X4_homeCount (i_X0_forgetAll (i_X4_become I L 18 (37 + gx a1)) (l_X4_become I L 18 (37 + gx a1))) (l_X4_become I L 18 (37 + gx a1)) 18)] (gKn n, gRf f g, (i_X0_forgetAll (i_X4_become I L 18 (37 + gx a1)) (l_X4_become I L 18 (37 + gx a1))), (l_X4_become I L 18 (37 + gx a1))) _
      refine r_iret rfl ?_
      cases hr
      exact hQ
    · rw [if_neg c7] at hr
      refine r_const rfl (v := -3) (by decide) ?_
      refine r_iret rfl ?_
      cases hr
      exact hQ
  · rw [if_neg c5] at hr
    refine r_const rfl (v := -1) (by decide) ?_
    refine r_iret rfl ?_
    cases hr
    exact hQ
def f_X7_count (f g : Nat) (I : Nat → Nat → Int32) (L : Nat → Nat → Int64) (a1 : Int32) : Int32 := (if a1 = (nI 0) then (I 2 1) else (if a1 = (nI 1) then (I f 0) else (if a1 = (nI 2) then (I f 1) else (if a1 = (nI 3) then (I f 2) else (if a1 = (nI 4) then (I f 3) else (if a1 = (nI 5) then (I 18 5) else (if a1 = (nI 6) then (I 18 7) else (if a1 = (nI 7) then (I 18 4) else (if a1 = (nI 8) then (I 20 2) else (if a1 = (nI 9) then (I 40 3) else (-2 : Int32)))))))))))
set_option maxHeartbeats 4000000 in
set_option maxRecDepth 100000 in
theorem s_X7_count {n f g d : Nat} {Q : gP} {I : Nat → Nat → Int32} {L : Nat → Nat → Int64} {a1 : Int32} (hw : gfw f g)  (hQ : Q (some (.int (f_X7_count f g I L a1))) (gKn n, gRf f g, I, L)) : gR gM (d + 0) 89 [.ref 2, .int a1] (gKn n, gRf f g, I, L) Q := by
  have hfe := hw.f
  have hfd := hw.g
  unfold f_X7_count at hQ
  show gW gM (d + 0) 0 0 k_X7_count 0 [.ref 2, .int a1] [] (gKn n, gRf f g, I, L) Q
  refine r_iload rfl rfl ?_
  by_cases c1 : a1 = (nI 0)
  · try simp only [if_pos c1] at hQ
    refine r_tsw 2 rfl (by rw [c1]; decide +kernel) ?_
    refine r_aload rfl rfl ?_
    refine r_getI (c := 7) (k := 1) rfl rfl ⟨rfl, rfl⟩ ?_
    refine r_iret rfl ?_
    try simp only [Bool.false_eq_true, if_false] at hQ
    first | exact hQ | simpa only [if_pos c1] using hQ
  · try simp only [if_neg c1] at hQ
    by_cases c2 : a1 = (nI 1)
    · try simp only [if_pos c2] at hQ
      refine r_tsw 5 rfl (by rw [c2]; decide +kernel) ?_
      refine r_aload rfl rfl ?_
      refine r_getR (c := 7) (k := 2) (v := f) rfl rfl ⟨rfl, rfl⟩ rfl ?_
      refine r_getI (c := 1) (k := 0) rfl (shFen hfe) ⟨rfl, rfl⟩ ?_
      refine r_iret rfl ?_
      try simp only [Bool.false_eq_true, if_false] at hQ
      first | exact hQ | simpa only [if_neg c1, if_pos c2] using hQ
    · try simp only [if_neg c2] at hQ
      by_cases c3 : a1 = (nI 2)
      · try simp only [if_pos c3] at hQ
        refine r_tsw 9 rfl (by rw [c3]; decide +kernel) ?_
        refine r_aload rfl rfl ?_
        refine r_getR (c := 7) (k := 2) (v := f) rfl rfl ⟨rfl, rfl⟩ rfl ?_
        refine r_getI (c := 1) (k := 1) rfl (shFen hfe) ⟨rfl, rfl⟩ ?_
        refine r_iret rfl ?_
        try simp only [Bool.false_eq_true, if_false] at hQ
        first | exact hQ | simpa only [if_neg c1, if_neg c2, if_pos c3] using hQ
      · try simp only [if_neg c3] at hQ
        by_cases c4 : a1 = (nI 3)
        · try simp only [if_pos c4] at hQ
          refine r_tsw 13 rfl (by rw [c4]; decide +kernel) ?_
          refine r_aload rfl rfl ?_
          refine r_getR (c := 7) (k := 2) (v := f) rfl rfl ⟨rfl, rfl⟩ rfl ?_
          refine r_getI (c := 1) (k := 2) rfl (shFen hfe) ⟨rfl, rfl⟩ ?_
          refine r_iret rfl ?_
          try simp only [Bool.false_eq_true, if_false] at hQ
          first | exact hQ | simpa only [if_neg c1, if_neg c2, if_neg c3, if_pos c4] using hQ
        · try simp only [if_neg c4] at hQ
          by_cases c5 : a1 = (nI 4)
          · try simp only [if_pos c5] at hQ
            refine r_tsw 17 rfl (by rw [c5]; decide +kernel) ?_
            refine r_aload rfl rfl ?_
            refine r_getR (c := 7) (k := 2) (v := f) rfl rfl ⟨rfl, rfl⟩ rfl ?_
            refine r_getI (c := 1) (k := 3) rfl (shFen hfe) ⟨rfl, rfl⟩ ?_
            refine r_iret rfl ?_
            try simp only [Bool.false_eq_true, if_false] at hQ
            first | exact hQ | simpa only [if_neg c1, if_neg c2, if_neg c3, if_neg c4, if_pos c5] using hQ
          · try simp only [if_neg c5] at hQ
            by_cases c6 : a1 = (nI 5)
            · try simp only [if_pos c6] at hQ
              refine r_tsw 21 rfl (by rw [c6]; decide +kernel) ?_
              refine r_aload rfl rfl ?_
              refine r_getR (c := 7) (k := 4) (v := 18) rfl rfl ⟨rfl, rfl⟩ rfl ?_
              refine r_getI (c := 4) (k := 5) rfl rfl ⟨rfl, rfl⟩ ?_
              refine r_iret rfl ?_
              try simp only [Bool.false_eq_true, if_false] at hQ
              first | exact hQ | simpa only [if_neg c1, if_neg c2, if_neg c3, if_neg c4, if_neg c5, if_pos c6] using hQ
            · try simp only [if_neg c6] at hQ
              by_cases c7 : a1 = (nI 6)
              · try simp only [if_pos c7] at hQ
                refine r_tsw 25 rfl (by rw [c7]; decide +kernel) ?_
                refine r_aload rfl rfl ?_
                refine r_getR (c := 7) (k := 4) (v := 18) rfl rfl ⟨rfl, rfl⟩ rfl ?_
                refine r_getI (c := 4) (k := 7) rfl rfl ⟨rfl, rfl⟩ ?_
                refine r_iret rfl ?_
                try simp only [Bool.false_eq_true, if_false] at hQ
                first | exact hQ | simpa only [if_neg c1, if_neg c2, if_neg c3, if_neg c4, if_neg c5, if_neg c6, if_pos c7] using hQ
              · try simp only [if_neg c7] at hQ
                by_cases c8 : a1 = (nI 7)
                · try simp only [if_pos c8] at hQ
                  refine r_tsw 29 rfl (by rw [c8]; decide +kernel) ?_
                  refine r_aload rfl rfl ?_
                  refine r_getR (c := 7) (k := 4) (v := 18) rfl rfl ⟨rfl, rfl⟩ rfl ?_
                  refine r_getI (c := 4) (k := 4) rfl rfl ⟨rfl, rfl⟩ ?_
                  refine r_iret rfl ?_
                  try simp only [Bool.false_eq_true, if_false] at hQ
                  first | exact hQ | simpa only [if_neg c1, if_neg c2, if_neg c3, if_neg c4, if_neg c5, if_neg c6, if_neg c7, if_pos c8] using hQ
                · try simp only [if_neg c8] at hQ
                  by_cases c9 : a1 = (nI 8)
                  · try simp only [if_pos c9] at hQ
                    refine r_tsw 33 rfl (by rw [c9]; decide +kernel) ?_
                    refine r_aload rfl rfl ?_
                    refine r_getR (c := 7) (k := 6) (v := 20) rfl rfl ⟨rfl, rfl⟩ rfl ?_
                    refine r_getI (c := 0) (k := 2) rfl rfl ⟨rfl, rfl⟩ ?_
                    refine r_iret rfl ?_
                    try simp only [Bool.false_eq_true, if_false] at hQ
                    first | exact hQ | simpa only [if_neg c1, if_neg c2, if_neg c3, if_neg c4, if_neg c5, if_neg c6, if_neg c7, if_neg c8, if_pos c9] using hQ
                  · try simp only [if_neg c9] at hQ
                    by_cases c10 : a1 = (nI 9)
                    · try simp only [if_pos c10] at hQ
                      refine r_tsw 37 rfl (by rw [c10]; decide +kernel) ?_
                      refine r_aload rfl rfl ?_
                      refine r_getR (c := 7) (k := 9) (v := 40) rfl rfl ⟨rfl, rfl⟩ rfl ?_
                      refine r_getI (c := 2) (k := 3) rfl rfl ⟨rfl, rfl⟩ ?_
                      refine r_iret rfl ?_
                      try simp only [Bool.false_eq_true, if_false] at hQ
                      first | exact hQ | simpa only [if_neg c1, if_neg c2, if_neg c3, if_neg c4, if_neg c5, if_neg c6, if_neg c7, if_neg c8, if_neg c9, if_pos c10] using hQ
                    · try simp only [if_neg c10] at hQ
                      refine r_tsw 41 rfl (gtab_df rfl (fun z h1 h2 e => by
                          rcases (by omega : z = 0 ∨ z = 1 ∨ z = 2 ∨ z = 3 ∨ z = 4 ∨ z = 5 ∨ z = 6 ∨ z = 7 ∨ z = 8 ∨ z = 9) with rfl | rfl | rfl | rfl | rfl | rfl | rfl | rfl | rfl | rfl
                          · exact c1 (gI_of_toInt e)
                          · exact c2 (gI_of_toInt e)
                          · exact c3 (gI_of_toInt e)
                          · exact c4 (gI_of_toInt e)
                          · exact c5 (gI_of_toInt e)
                          · exact c6 (gI_of_toInt e)
                          · exact c7 (gI_of_toInt e)
                          · exact c8 (gI_of_toInt e)
                          · exact c9 (gI_of_toInt e)
                          · exact c10 (gI_of_toInt e))) ?_
                      refine r_const rfl (v := -2) (by decide) ?_
                      refine r_iret rfl ?_
                      try simp only [Bool.false_eq_true, if_false] at hQ
                      first | exact hQ | simpa only [if_neg c1, if_neg c2, if_neg c3, if_neg c4, if_neg c5, if_neg c6, if_neg c7, if_neg c8, if_neg c9, if_neg c10] using hQ
def f_X8_in (I : Nat → Nat → Int32) (L : Nat → Nat → Int64) (a0 : Int64) (a1 : Int64) (a2 : Int64) : Int32 := (if (lg_cmp a0 a1) < 0 then (nI 0) else (if 0 < (lg_cmp a0 a2) then (nI 0) else (nI 1)))
set_option maxHeartbeats 4000000 in
set_option maxRecDepth 100000 in
theorem s_X8_in {n f g d : Nat} {Q : gP} {I : Nat → Nat → Int32} {L : Nat → Nat → Int64} {a0 : Int64} {a1 : Int64} {a2 : Int64}  (hQ : Q (some (.int (f_X8_in I L a0 a1 a2))) (gKn n, gRf f g, I, L)) : gR gM (d + 0) 106 [.long a0, .long a1, .long a2] (gKn n, gRf f g, I, L) Q := by
  unfold f_X8_in at hQ
  show gW gM (d + 0) 0 0 k_X8_in 0 [.long a0, .null, .long a1, .null, .long a2, .null] [] (gKn n, gRf f g, I, L) Q
  refine r_lload rfl rfl ?_
  refine r_lload rfl rfl ?_
  refine r_lcmp rfl ?_
  have j3 : gW gM (d + 0) 0 0 k_X8_in 11 [.long a0, .null, .long a1, .null, .long a2, .null] [.int (if (lg_cmp a0 a1) < 0 then (nI 0) else (if 0 < (lg_cmp a0 a2) then (nI 0) else (nI 1)))] (gKn n, gRf f g, I, L) Q := by
    refine r_zret rfl (by split <;> (try split) <;> (try split) <;> decide) ?_
    first | exact hQ | simpa only [if_true] using hQ
  refine r_if_lt 10 rfl rfl (fun c1 => ?_) (fun c1 => ?_)
  · try simp only [if_pos c1] at hQ
    refine r_const rfl (gcst 0) ?_
    simpa only [if_pos c1] using j3
  · try simp only [if_neg c1] at hQ
    refine r_lload rfl rfl ?_
    refine r_lload rfl rfl ?_
    refine r_lcmp rfl ?_
    refine r_if_gt 10 rfl rfl (fun c2 => ?_) (fun c2 => ?_)
    · try simp only [if_pos c2] at hQ
      refine r_const rfl (gcst 0) ?_
      simpa only [if_neg c1, if_pos c2] using j3
    · try simp only [if_neg c2] at hQ
      refine r_const rfl (gcst 1) ?_
      refine r_goto 11 rfl rfl ?_
      simpa only [if_neg c1, if_neg c2] using j3
def f_X8_bit (I : Nat → Nat → Int32) (L : Nat → Nat → Int64) (a0 : Int32) (a1 : Int32) : Int32 := (if ¬ ((gshr a0 a1) &&& (nI 1)) = (nI 1) then (nI 0) else (nI 1))
set_option maxHeartbeats 4000000 in
set_option maxRecDepth 100000 in
theorem s_X8_bit {n f g d : Nat} {Q : gP} {I : Nat → Nat → Int32} {L : Nat → Nat → Int64} {a0 : Int32} {a1 : Int32}  (hQ : Q (some (.int (f_X8_bit I L a0 a1))) (gKn n, gRf f g, I, L)) : gR gM (d + 0) 107 [.int a0, .int a1] (gKn n, gRf f g, I, L) Q := by
  unfold f_X8_bit at hQ
  show gW gM (d + 0) 0 0 k_X8_bit 0 [.int a0, .int a1] [] (gKn n, gRf f g, I, L) Q
  refine r_iload rfl rfl ?_
  refine r_iload rfl rfl ?_
  refine r_ishr rfl ?_
  refine r_const rfl (gcst 1) ?_
  refine r_iand rfl ?_
  refine r_const rfl (gcst 1) ?_
  have j2 : gW gM (d + 0) 0 0 k_X8_bit 10 [.int a0, .int a1] [.int (if ¬ ((gshr a0 a1) &&& (nI 1)) = (nI 1) then (nI 0) else (nI 1))] (gKn n, gRf f g, I, L) Q := by
    refine r_zret rfl (by split <;> (try split) <;> (try split) <;> decide) ?_
    first | exact hQ | simpa only [if_true] using hQ
  refine r_icmp_ne 9 rfl rfl (fun c1 => ?_) (fun c1 => ?_)
  · try simp only [if_pos c1] at hQ
    refine r_const rfl (gcst 0) ?_
    simpa only [if_pos c1] using j2
  · try simp only [if_neg c1] at hQ
    refine r_const rfl (gcst 1) ?_
    refine r_goto 10 rfl rfl ?_
    simpa only [if_neg c1] using j2
def r_X8_ones_4   : Nat → Int32 → Int32 → Int32 → (Nat → Nat → Int32) → (Nat → Nat → Int64) → Option gRs
  | 0, _, _, _, _, _ => none
  | m + 1, v0, v1, v2, I, L => (if (nI 13) ≤ v2 then some (v1, I, L) else (r_X8_ones_4  m v0 (v1 + ((gshr v0 v2) &&& (nI 1))) (v2 + (nI 1)) I L))
set_option maxHeartbeats 4000000 in
set_option maxRecDepth 100000 in
theorem t_X8_ones_4 {n f g d : Nat} {Q : gP} {z : gRs}    : ∀ {m : Nat} {v0 : Int32} {v1 : Int32} {v2 : Int32} {I : Nat → Nat → Int32} {L : Nat → Nat → Int64}, r_X8_ones_4 m v0 v1 v2 I L = some z → Q (some (.int z.1)) (gKn n, gRf f g, z.2.1, z.2.2) → gW gM (d + 0) 0 0 k_X8_ones 4 [.int v0, .int v1, .int v2] [] (gKn n, gRf f g, I, L) Q := by
  intro m
  induction m with
  | zero =>
    intro v0 v1 v2 I L hr _
    cases hr
  | succ m ih =>
    intro v0 v1 v2 I L hr hQ
    have hK4 : ∀ v0 v1 v2 I L, r_X8_ones_4 m v0 v1 v2 I L = some z → gW gM (d + 0) 0 0 k_X8_ones 4 [.int v0, .int v1, .int v2] [] (gKn n, gRf f g, I, L) Q := fun v0 v1 v2 I L hr => ih hr hQ
    unfold r_X8_ones_4 at hr
    refine r_iload rfl rfl ?_
    refine r_const rfl (gcst 13) ?_
    refine r_icmp_ge 17 rfl rfl (fun c2 => ?_) (fun c2 => ?_)
    · rw [if_pos c2] at hr
      refine r_iload rfl rfl ?_
      refine r_iret rfl ?_
      cases hr
      exact hQ
    · rw [if_neg c2] at hr
      refine r_iload rfl rfl ?_
      refine r_iload rfl rfl ?_
      refine r_iload rfl rfl ?_
      refine r_ishr rfl ?_
      refine r_const rfl (gcst 1) ?_
      refine r_iand rfl ?_
      refine r_iadd rfl ?_
      refine r_istore [.int v0, .int (v1 + ((gshr v0 v2) &&& (nI 1))), .int v2] rfl rfl (Nat.le_of_ble_eq_true rfl) rfl ?_
      refine r_iinc (y := (v2 + (nI 1))) [.int v0, .int (v1 + ((gshr v0 v2) &&& (nI 1))), .int (v2 + (nI 1))] rfl rfl rfl (ginc _ 1) rfl ?_
      refine r_goto 4 rfl rfl ?_
      exact hK4 _ _ _ _ _ hr
def r_X8_ones (I : Nat → Nat → Int32) (L : Nat → Nat → Int64) (a0 : Int32) : Option gRs := (r_X8_ones_4 100 a0 (nI 0) (nI 0) I L)
set_option maxHeartbeats 4000000 in
set_option maxRecDepth 100000 in
theorem s_X8_ones {n f g d : Nat} {Q : gP} {I : Nat → Nat → Int32} {L : Nat → Nat → Int64} {a0 : Int32} {z : gRs}  (hr : r_X8_ones I L a0 = some z) (hQ : Q (some (.int z.1)) (gKn n, gRf f g, z.2.1, z.2.2)) : gR gM (d + 0) 108 [.int a0] (gKn n, gRf f g, I, L) Q := by
  unfold r_X8_ones at hr
  show gW gM (d + 0) 0 0 k_X8_ones 0 [.int a0, .null, .null] [] (gKn n, gRf f g, I, L) Q
  refine r_const rfl (gcst 0) ?_
  refine r_istore [.int a0, .int (nI 0), .null] rfl rfl (Nat.le_of_ble_eq_true rfl) rfl ?_
  refine r_const rfl (gcst 0) ?_
  refine r_istore [.int a0, .int (nI 0), .int (nI 0)] rfl rfl (Nat.le_of_ble_eq_true rfl) rfl ?_
  exact t_X8_ones_4  hr hQ
def r_X8_write (I : Nat → Nat → Int32) (L : Nat → Nat → Int64) (a1 : Int32) : Option gRs := (if ¬ (f_X8_in I L (Int32.toInt64 a1) (lN 0) (lN 255)) = 0 then (if ¬ (I 57 20) = (nI 60) then (if gvp (I 57 20) 60 = true then some (((gu2 (gu2 I 68 (gx (I 57 20)) a1) 57 20 (((gu2 I 68 (gx (I 57 20)) a1) 57 20) + (nI 1))) 57 20), (gu2 (gu2 I 68 (gx (I 57 20)) a1) 57 20 (((gu2 I 68 (gx (I 57 20)) a1) 57 20) + (nI 1))), L) else none) else some ((-4 : Int32), I, L)) else some ((-2 : Int32), I, L))
set_option maxHeartbeats 4000000 in
set_option maxRecDepth 100000 in
theorem s_X8_write {n f g d : Nat} {Q : gP} {I : Nat → Nat → Int32} {L : Nat → Nat → Int64} {a1 : Int32} {z : gRs}  (hr : r_X8_write I L a1 = some z) (hQ : Q (some (.int z.1)) (gKn n, gRf f g, z.2.1, z.2.2)) : gR gM (d + 1) 109 [.ref 57, .int a1] (gKn n, gRf f g, I, L) Q := by
  unfold r_X8_write at hr
  show gW gM (d + 1) 0 0 k_X8_write 0 [.ref 57, .int a1] [] (gKn n, gRf f g, I, L) Q
  refine r_iload rfl rfl ?_
  refine r_i2l rfl ?_
  refine r_lconst (v := lN 0) rfl rfl ?_
  refine r_lconst (v := lN 255) rfl rfl ?_
  refine r_invs [.long (Int32.toInt64 a1), .long (lN 0), .long (lN 255)] rfl rfl rfl rfl (Nat.le_of_ble_eq_true rfl) ⟨rfl, rfl⟩ ?_
  refine s_X8_in  ?_
  show gW _ _ _ _ _ 5 [.ref 57, .int a1] [.int (f_X8_in I L (Int32.toInt64 a1) (lN 0) (lN 255))] (gKn n, gRf f g, I, L) _
  refine r_if_ne 8 rfl rfl (fun c4 => ?_) (fun c4 => ?_)
  · rw [if_pos c4] at hr
    refine r_aload rfl rfl ?_
    refine r_getI (c := 8) (k := 20) rfl rfl ⟨rfl, rfl⟩ ?_
    refine r_const rfl (gcst 60) ?_
    refine r_icmp_ne 14 rfl rfl (fun c5 => ?_) (fun c5 => ?_)
    · rw [if_pos c5] at hr
      refine r_aload rfl rfl ?_
      refine r_getR (c := 8) (k := 19) (v := 68) rfl rfl ⟨rfl, rfl⟩ rfl ?_
      refine r_aload rfl rfl ?_
      refine r_getI (c := 8) (k := 20) rfl rfl ⟨rfl, rfl⟩ ?_
      refine r_iload rfl rfl ?_
      obtain ⟨b6, hr⟩ := gopt hr
      refine r_iastore (n := 60) rfl rfl (gvp_in b6) (by decide) ?_
      refine r_aload rfl rfl ?_
      refine r_dup rfl rfl ?_
      refine r_getI (c := 8) (k := 20) rfl rfl ⟨rfl, rfl⟩ ?_
      refine r_const rfl (gcst 1) ?_
      refine r_iadd rfl ?_
      refine r_putI (c := 8) (k := 20) rfl rfl ⟨rfl, rfl⟩ ?_
      refine r_aload rfl rfl ?_
      refine r_getI (c := 8) (k := 20) rfl rfl ⟨rfl, rfl⟩ ?_
      refine r_iret rfl ?_
      cases hr
      exact hQ
    · rw [if_neg c5] at hr
      refine r_const rfl (v := -4) (by decide) ?_
      refine r_iret rfl ?_
      cases hr
      exact hQ
  · rw [if_neg c4] at hr
    refine r_const rfl (v := -2) (by decide) ?_
    refine r_iret rfl ?_
    cases hr
    exact hQ
def f_X8_wipe (I : Nat → Nat → Int32) (L : Nat → Nat → Int64)  : Int32 := (I 57 20)
def i_X8_wipe (I : Nat → Nat → Int32) (L : Nat → Nat → Int64)  : Nat → Nat → Int32 := (gu2 I 57 20 (nI 0))
set_option maxHeartbeats 4000000 in
set_option maxRecDepth 100000 in
theorem s_X8_wipe {n f g d : Nat} {Q : gP} {I : Nat → Nat → Int32} {L : Nat → Nat → Int64}   (hQ : Q (some (.int (f_X8_wipe I L ))) (gKn n, gRf f g, i_X8_wipe I L , L)) : gR gM (d + 0) 110 [.ref 57] (gKn n, gRf f g, I, L) Q := by
  unfold f_X8_wipe i_X8_wipe at hQ
  show gW gM (d + 0) 0 0 k_X8_wipe 0 [.ref 57, .null] [] (gKn n, gRf f g, I, L) Q
  refine r_aload rfl rfl ?_
  refine r_getI (c := 8) (k := 20) rfl rfl ⟨rfl, rfl⟩ ?_
  refine r_istore [.ref 57, .int (I 57 20)] rfl rfl (Nat.le_of_ble_eq_true rfl) rfl ?_
  refine r_aload rfl rfl ?_
  refine r_const rfl (gcst 0) ?_
  refine r_putI (c := 8) (k := 20) rfl rfl ⟨rfl, rfl⟩ ?_
  refine r_iload rfl rfl ?_
  refine r_iret rfl ?_
  first | exact hQ | simpa only [if_true] using hQ
def r_X8_figure_35   (v1 : Int32) (I : Nat → Nat → Int32) (L : Nat → Nat → Int64) : Option gRs := some (v1, (gu2 I 57 22 (if ¬ (I 57 22) = (-9 : Int32) then (I 57 22) else (I 57 21))), L)
set_option maxHeartbeats 4000000 in
set_option maxRecDepth 100000 in
theorem t_X8_figure_35 {n f g d : Nat} {Q : gP} {z : gRs}    {v1 : Int32} {I : Nat → Nat → Int32} {L : Nat → Nat → Int64} (hr : r_X8_figure_35 v1 I L = some z) (hQ : Q (some (.int z.1)) (gKn n, gRf f g, z.2.1, z.2.2)) : gW gM (d + 1) 0 0 k_X8_figure 35 [.ref 57, .int v1, .null, .null, .null] [] (gKn n, gRf f g, I, L) Q := by
  unfold r_X8_figure_35 at hr
  refine r_aload rfl rfl ?_
  refine r_aload rfl rfl ?_
  refine r_getI (c := 8) (k := 22) rfl rfl ⟨rfl, rfl⟩ ?_
  refine r_const rfl (v := -9) (by decide) ?_
  have j19 : gW gM (d + 1) 0 0 k_X8_figure 45 [.ref 57, .int v1, .null, .null, .null] [.int (if ¬ (I 57 22) = (-9 : Int32) then (I 57 22) else (I 57 21)), .ref 57] (gKn n, gRf f g, I, L) Q := by
    refine r_putI (c := 8) (k := 22) rfl rfl ⟨rfl, rfl⟩ ?_
    refine r_iload rfl rfl ?_
    refine r_iret rfl ?_
    cases hr
    exact hQ
  refine r_icmp_ne 43 rfl rfl (fun c18 => ?_) (fun c18 => ?_)
  · refine r_aload rfl rfl ?_
    refine r_getI (c := 8) (k := 22) rfl rfl ⟨rfl, rfl⟩ ?_
    first | contradiction | simpa only [if_pos c18] using j19
  · refine r_aload rfl rfl ?_
    refine r_getI (c := 8) (k := 21) rfl rfl ⟨rfl, rfl⟩ ?_
    refine r_goto 45 rfl rfl ?_
    first | contradiction | simpa only [if_neg c18] using j19
def r_X8_figure_24   (v1 : Int32) (v2 : Int32) (v3 : Int32) (s0 : Int32) (I : Nat → Nat → Int32) (L : Nat → Nat → Int64) : Option gRs := (if v3 = 0 then (r_X8_figure_35 v1 I L) else (if ¬ (f_X8_in I L (Int32.toInt64 s0) (Int32.toInt64 v1) (Int32.toInt64 v2)) = 0 then some (s0, (gu2 I 57 21 ((I 57 21) + (nI 1))), L) else (r_X8_figure_35 v1 I L)))
set_option maxHeartbeats 4000000 in
set_option maxRecDepth 100000 in
theorem t_X8_figure_24 {n f g d : Nat} {Q : gP} {z : gRs}    {v1 : Int32} {v2 : Int32} {v3 : Int32} {s0 : Int32} {I : Nat → Nat → Int32} {L : Nat → Nat → Int64} (hr : r_X8_figure_24 v1 v2 v3 s0 I L = some z) (hQ : Q (some (.int z.1)) (gKn n, gRf f g, z.2.1, z.2.2)) : gW gM (d + 1) 0 0 k_X8_figure 24 [.ref 57, .int v1, .int v2, .int v3, .null] [.int s0] (gKn n, gRf f g, I, L) Q := by
  unfold r_X8_figure_24 at hr
  refine r_istore [.ref 57, .int v1, .int v2, .int v3, .int s0] rfl rfl (Nat.le_of_ble_eq_true rfl) rfl ?_
  refine r_iload rfl rfl ?_
  refine r_if_eq 35 rfl rfl (fun c20 => ?_) (fun c20 => ?_)
  · rw [if_pos c20] at hr
    refine gforget (ls := [.ref 57, .int v1, .null, .null, .null]) ⟨(Or.inl rfl), ⟨(Or.inl rfl), ⟨(Or.inr (Or.inl ⟨rfl, _, rfl⟩)), ⟨(Or.inr (Or.inl ⟨rfl, _, rfl⟩)), ⟨(Or.inr (Or.inl ⟨rfl, _, rfl⟩)), trivial⟩⟩⟩⟩⟩ ?_
    exact t_X8_figure_35  hr hQ
  · rw [if_neg c20] at hr
    refine r_iload rfl rfl ?_
    refine r_i2l rfl ?_
    refine r_iload rfl rfl ?_
    refine r_i2l rfl ?_
    refine r_iload rfl rfl ?_
    refine r_i2l rfl ?_
    refine r_invs [.long (Int32.toInt64 s0), .long (Int32.toInt64 v1), .long (Int32.toInt64 v2)] rfl rfl rfl rfl (Nat.le_of_ble_eq_true rfl) ⟨rfl, rfl⟩ ?_
    refine s_X8_in  ?_
    show gW _ _ _ _ _ 34 [.ref 57, .int v1, .int v2, .int v3, .int s0] [.int (f_X8_in I L (Int32.toInt64 s0) (Int32.toInt64 v1) (Int32.toInt64 v2))] (gKn n, gRf f g, I, L) _
    refine r_if_ne 48 rfl rfl (fun c21 => ?_) (fun c21 => ?_)
    · rw [if_pos c21] at hr
      refine r_aload rfl rfl ?_
      refine r_dup rfl rfl ?_
      refine r_getI (c := 8) (k := 21) rfl rfl ⟨rfl, rfl⟩ ?_
      refine r_const rfl (gcst 1) ?_
      refine r_iadd rfl ?_
      refine r_putI (c := 8) (k := 21) rfl rfl ⟨rfl, rfl⟩ ?_
      refine r_iload rfl rfl ?_
      refine r_iret rfl ?_
      cases hr
      exact hQ
    · rw [if_neg c21] at hr
      refine gforget (ls := [.ref 57, .int v1, .null, .null, .null]) ⟨(Or.inl rfl), ⟨(Or.inl rfl), ⟨(Or.inr (Or.inl ⟨rfl, _, rfl⟩)), ⟨(Or.inr (Or.inl ⟨rfl, _, rfl⟩)), ⟨(Or.inr (Or.inl ⟨rfl, _, rfl⟩)), trivial⟩⟩⟩⟩⟩ ?_
      exact t_X8_figure_35  hr hQ
def r_X8_figure (I : Nat → Nat → Int32) (L : Nat → Nat → Int64) (a1 : Int32) (a2 : Int32) : Option gRs := (if (if ¬ (I 57 22) = (-9 : Int32) then (nI 0) else (if (I 57 20) ≤ (I 57 21) then (nI 0) else (nI 1))) = 0 then (r_X8_figure_24 a1 a2 (if ¬ (I 57 22) = (-9 : Int32) then (nI 0) else (if (I 57 20) ≤ (I 57 21) then (nI 0) else (nI 1))) (nI 0) I L) else (if gvp (I 57 21) 60 = true then (r_X8_figure_24 a1 a2 (if ¬ (I 57 22) = (-9 : Int32) then (nI 0) else (if (I 57 20) ≤ (I 57 21) then (nI 0) else (nI 1))) ((I 68 (gx (I 57 21))) - (nI 48)) I L) else none))
set_option maxHeartbeats 4000000 in
set_option maxRecDepth 100000 in
theorem s_X8_figure {n f g d : Nat} {Q : gP} {I : Nat → Nat → Int32} {L : Nat → Nat → Int64} {a1 : Int32} {a2 : Int32} {z : gRs}  (hr : r_X8_figure I L a1 a2 = some z) (hQ : Q (some (.int z.1)) (gKn n, gRf f g, z.2.1, z.2.2)) : gR gM (d + 1) 111 [.ref 57, .int a1, .int a2] (gKn n, gRf f g, I, L) Q := by
  unfold r_X8_figure at hr
  show gW gM (d + 1) 0 0 k_X8_figure 0 [.ref 57, .int a1, .int a2, .null, .null] [] (gKn n, gRf f g, I, L) Q
  refine r_aload rfl rfl ?_
  refine r_getI (c := 8) (k := 22) rfl rfl ⟨rfl, rfl⟩ ?_
  refine r_const rfl (v := -9) (by decide) ?_
  have j26 : gW gM (d + 1) 0 0 k_X8_figure 12 [.ref 57, .int a1, .int a2, .null, .null] [.int (if ¬ (I 57 22) = (-9 : Int32) then (nI 0) else (if (I 57 20) ≤ (I 57 21) then (nI 0) else (nI 1)))] (gKn n, gRf f g, I, L) Q := by
    refine r_istore [.ref 57, .int a1, .int a2, .int (if ¬ (I 57 22) = (-9 : Int32) then (nI 0) else (if (I 57 20) ≤ (I 57 21) then (nI 0) else (nI 1))), .null] rfl rfl (Nat.le_of_ble_eq_true rfl) rfl ?_
    refine r_iload rfl rfl ?_
    refine r_if_eq 23 rfl rfl (fun c24 => ?_) (fun c24 => ?_)
    · rw [if_pos c24] at hr
      refine r_const rfl (gcst 0) ?_
      exact t_X8_figure_24  hr hQ
    · rw [if_neg c24] at hr
      refine r_aload rfl rfl ?_
      refine r_getR (c := 8) (k := 19) (v := 68) rfl rfl ⟨rfl, rfl⟩ rfl ?_
      refine r_aload rfl rfl ?_
      refine r_getI (c := 8) (k := 21) rfl rfl ⟨rfl, rfl⟩ ?_
      obtain ⟨b25, hr⟩ := gopt hr
      refine r_iaload (n := 60) rfl rfl (gvp_in b25) ?_
      refine r_const rfl (gcst 48) ?_
      refine r_isub rfl ?_
      refine r_goto 24 rfl rfl ?_
      exact t_X8_figure_24  hr hQ
  refine r_icmp_ne 11 rfl rfl (fun c22 => ?_) (fun c22 => ?_)
  · refine r_const rfl (gcst 0) ?_
    first | contradiction | simpa only [if_pos c22] using j26
  · refine r_aload rfl rfl ?_
    refine r_getI (c := 8) (k := 21) rfl rfl ⟨rfl, rfl⟩ ?_
    refine r_aload rfl rfl ?_
    refine r_getI (c := 8) (k := 20) rfl rfl ⟨rfl, rfl⟩ ?_
    refine r_icmp_ge 11 rfl rfl (fun c23 => ?_) (fun c23 => ?_)
    · refine r_const rfl (gcst 0) ?_
      first | contradiction | simpa only [if_neg c22, if_pos c23] using j26
    · refine r_const rfl (gcst 1) ?_
      refine r_goto 12 rfl rfl ?_
      first | contradiction | simpa only [if_neg c22, if_neg c23] using j26
def r_X8_letterTone_44    (I : Nat → Nat → Int32) (L : Nat → Nat → Int64) : Option gRs := some ((nI 0), (gu2 I 57 22 (if ¬ (I 57 22) = (-9 : Int32) then (I 57 22) else (I 57 21))), L)
set_option maxHeartbeats 4000000 in
set_option maxRecDepth 100000 in
theorem t_X8_letterTone_44 {n f g d : Nat} {Q : gP} {z : gRs}     {I : Nat → Nat → Int32} {L : Nat → Nat → Int64} (hr : r_X8_letterTone_44 I L = some z) (hQ : Q (some (.int z.1)) (gKn n, gRf f g, z.2.1, z.2.2)) : gW gM (d + 1) 0 0 k_X8_letterTone 44 [.ref 57, .null, .null] [] (gKn n, gRf f g, I, L) Q := by
  unfold r_X8_letterTone_44 at hr
  refine r_aload rfl rfl ?_
  refine r_aload rfl rfl ?_
  refine r_getI (c := 8) (k := 22) rfl rfl ⟨rfl, rfl⟩ ?_
  refine r_const rfl (v := -9) (by decide) ?_
  have j29 : gW gM (d + 1) 0 0 k_X8_letterTone 54 [.ref 57, .null, .null] [.int (if ¬ (I 57 22) = (-9 : Int32) then (I 57 22) else (I 57 21)), .ref 57] (gKn n, gRf f g, I, L) Q := by
    refine r_putI (c := 8) (k := 22) rfl rfl ⟨rfl, rfl⟩ ?_
    refine r_const rfl (gcst 0) ?_
    refine r_iret rfl ?_
    cases hr
    exact hQ
  refine r_icmp_ne 52 rfl rfl (fun c28 => ?_) (fun c28 => ?_)
  · refine r_aload rfl rfl ?_
    refine r_getI (c := 8) (k := 22) rfl rfl ⟨rfl, rfl⟩ ?_
    first | contradiction | simpa only [if_pos c28] using j29
  · refine r_aload rfl rfl ?_
    refine r_getI (c := 8) (k := 21) rfl rfl ⟨rfl, rfl⟩ ?_
    refine r_goto 54 rfl rfl ?_
    first | contradiction | simpa only [if_neg c28] using j29
def r_X8_letterTone_32   (v2 : Int32) (I : Nat → Nat → Int32) (L : Nat → Nat → Int64) : Option gRs := (if v2 = 0 then (r_X8_letterTone_44 I L) else (if gvp (I 57 21) 60 = true then (if ¬ (f_X8_in I L (Int32.toInt64 (I 68 (gx (I 57 21)))) (lN 97) (lN 108)) = 0 then (if gvp (((gu2 I 57 21 ((I 57 21) + (nI 1))) 57 21) - (nI 1)) 60 = true then some ((((gu2 I 57 21 ((I 57 21) + (nI 1))) 68 (gx (((gu2 I 57 21 ((I 57 21) + (nI 1))) 57 21) - (nI 1)))) - (nI 97)), (gu2 I 57 21 ((I 57 21) + (nI 1))), L) else none) else (r_X8_letterTone_44 I L)) else none))
set_option maxHeartbeats 4000000 in
set_option maxRecDepth 100000 in
theorem t_X8_letterTone_32 {n f g d : Nat} {Q : gP} {z : gRs}    {v2 : Int32} {I : Nat → Nat → Int32} {L : Nat → Nat → Int64} (hr : r_X8_letterTone_32 v2 I L = some z) (hQ : Q (some (.int z.1)) (gKn n, gRf f g, z.2.1, z.2.2)) : gW gM (d + 1) 0 0 k_X8_letterTone 32 [.ref 57, .null, .int v2] [] (gKn n, gRf f g, I, L) Q := by
  unfold r_X8_letterTone_32 at hr
  refine r_iload rfl rfl ?_
  refine r_if_eq 44 rfl rfl (fun c30 => ?_) (fun c30 => ?_)
  · rw [if_pos c30] at hr
    refine gforget (ls := [.ref 57, .null, .null]) ⟨(Or.inl rfl), ⟨(Or.inl rfl), ⟨(Or.inr (Or.inl ⟨rfl, _, rfl⟩)), trivial⟩⟩⟩ ?_
    exact t_X8_letterTone_44  hr hQ
  · rw [if_neg c30] at hr
    refine r_aload rfl rfl ?_
    refine r_getR (c := 8) (k := 19) (v := 68) rfl rfl ⟨rfl, rfl⟩ rfl ?_
    refine r_aload rfl rfl ?_
    refine r_getI (c := 8) (k := 21) rfl rfl ⟨rfl, rfl⟩ ?_
    obtain ⟨b31, hr⟩ := gopt hr
    refine r_iaload (n := 60) rfl rfl (gvp_in b31) ?_
    refine r_i2l rfl ?_
    refine r_lconst (v := lN 97) rfl rfl ?_
    refine r_lconst (v := lN 108) rfl rfl ?_
    refine r_invs [.long (Int32.toInt64 (I 68 (gx (I 57 21)))), .long (lN 97), .long (lN 108)] rfl rfl rfl rfl (Nat.le_of_ble_eq_true rfl) ⟨rfl, rfl⟩ ?_
    refine s_X8_in  ?_
    show gW _ _ _ _ _ 43 [.ref 57, .null, .int v2] [.int (f_X8_in I L (Int32.toInt64 (I 68 (gx (I 57 21)))) (lN 97) (lN 108))] (gKn n, gRf f g, I, L) _
    refine r_if_ne 57 rfl rfl (fun c32 => ?_) (fun c32 => ?_)
    · rw [if_pos c32] at hr
      refine r_aload rfl rfl ?_
      refine r_dup rfl rfl ?_
      refine r_getI (c := 8) (k := 21) rfl rfl ⟨rfl, rfl⟩ ?_
      refine r_const rfl (gcst 1) ?_
      refine r_iadd rfl ?_
      refine r_putI (c := 8) (k := 21) rfl rfl ⟨rfl, rfl⟩ ?_
      refine r_aload rfl rfl ?_
      refine r_getR (c := 8) (k := 19) (v := 68) rfl rfl ⟨rfl, rfl⟩ rfl ?_
      refine r_aload rfl rfl ?_
      refine r_getI (c := 8) (k := 21) rfl rfl ⟨rfl, rfl⟩ ?_
      refine r_const rfl (gcst 1) ?_
      refine r_isub rfl ?_
      obtain ⟨b33, hr⟩ := gopt hr
      refine r_iaload (n := 60) rfl rfl (gvp_in b33) ?_
      refine r_const rfl (gcst 97) ?_
      refine r_isub rfl ?_
      refine r_iret rfl ?_
      cases hr
      exact hQ
    · rw [if_neg c32] at hr
      refine gforget (ls := [.ref 57, .null, .null]) ⟨(Or.inl rfl), ⟨(Or.inl rfl), ⟨(Or.inr (Or.inl ⟨rfl, _, rfl⟩)), trivial⟩⟩⟩ ?_
      exact t_X8_letterTone_44  hr hQ
def r_X8_letterTone (I : Nat → Nat → Int32) (L : Nat → Nat → Int64) (a1 : Int32) : Option gRs := (if (if ¬ (I 57 22) = (-9 : Int32) then (nI 0) else (if (I 57 20) ≤ (I 57 21) then (nI 0) else (nI 1))) = 0 then (r_X8_letterTone_32 (if ¬ (I 57 22) = (-9 : Int32) then (nI 0) else (if (I 57 20) ≤ (I 57 21) then (nI 0) else (nI 1))) I L) else (if a1 = 0 then (r_X8_letterTone_32 (if ¬ (I 57 22) = (-9 : Int32) then (nI 0) else (if (I 57 20) ≤ (I 57 21) then (nI 0) else (nI 1))) I L) else (if gvp (I 57 21) 60 = true then (if ¬ (I 68 (gx (I 57 21))) = (nI 45) then (r_X8_letterTone_32 (if ¬ (I 57 22) = (-9 : Int32) then (nI 0) else (if (I 57 20) ≤ (I 57 21) then (nI 0) else (nI 1))) I L) else some ((nI 12), (gu2 I 57 21 ((I 57 21) + (nI 1))), L)) else none)))
set_option maxHeartbeats 4000000 in
set_option maxRecDepth 100000 in
theorem s_X8_letterTone {n f g d : Nat} {Q : gP} {I : Nat → Nat → Int32} {L : Nat → Nat → Int64} {a1 : Int32} {z : gRs}  (hr : r_X8_letterTone I L a1 = some z) (hQ : Q (some (.int z.1)) (gKn n, gRf f g, z.2.1, z.2.2)) : gR gM (d + 1) 112 [.ref 57, .int a1] (gKn n, gRf f g, I, L) Q := by
  unfold r_X8_letterTone at hr
  show gW gM (d + 1) 0 0 k_X8_letterTone 0 [.ref 57, .int a1, .null] [] (gKn n, gRf f g, I, L) Q
  refine r_aload rfl rfl ?_
  refine r_getI (c := 8) (k := 22) rfl rfl ⟨rfl, rfl⟩ ?_
  refine r_const rfl (v := -9) (by decide) ?_
  have j40 : gW gM (d + 1) 0 0 k_X8_letterTone 12 [.ref 57, .int a1, .null] [.int (if ¬ (I 57 22) = (-9 : Int32) then (nI 0) else (if (I 57 20) ≤ (I 57 21) then (nI 0) else (nI 1)))] (gKn n, gRf f g, I, L) Q := by
    refine r_istore [.ref 57, .int a1, .int (if ¬ (I 57 22) = (-9 : Int32) then (nI 0) else (if (I 57 20) ≤ (I 57 21) then (nI 0) else (nI 1)))] rfl rfl (Nat.le_of_ble_eq_true rfl) rfl ?_
    refine r_iload rfl rfl ?_
    refine r_if_eq 32 rfl rfl (fun c36 => ?_) (fun c36 => ?_)
    · rw [if_pos c36] at hr
      refine gforget (ls := [.ref 57, .null, .int (if ¬ (I 57 22) = (-9 : Int32) then (nI 0) else (if (I 57 20) ≤ (I 57 21) then (nI 0) else (nI 1)))]) ⟨(Or.inl rfl), ⟨(Or.inr (Or.inl ⟨rfl, _, rfl⟩)), ⟨(Or.inl rfl), trivial⟩⟩⟩ ?_
      exact t_X8_letterTone_32  hr hQ
    · rw [if_neg c36] at hr
      refine r_iload rfl rfl ?_
      refine r_if_eq 32 rfl rfl (fun c37 => ?_) (fun c37 => ?_)
      · rw [if_pos c37] at hr
        refine gforget (ls := [.ref 57, .null, .int (if ¬ (I 57 22) = (-9 : Int32) then (nI 0) else (if (I 57 20) ≤ (I 57 21) then (nI 0) else (nI 1)))]) ⟨(Or.inl rfl), ⟨(Or.inr (Or.inl ⟨rfl, _, rfl⟩)), ⟨(Or.inl rfl), trivial⟩⟩⟩ ?_
        exact t_X8_letterTone_32  hr hQ
      · rw [if_neg c37] at hr
        refine r_aload rfl rfl ?_
        refine r_getR (c := 8) (k := 19) (v := 68) rfl rfl ⟨rfl, rfl⟩ rfl ?_
        refine r_aload rfl rfl ?_
        refine r_getI (c := 8) (k := 21) rfl rfl ⟨rfl, rfl⟩ ?_
        obtain ⟨b38, hr⟩ := gopt hr
        refine r_iaload (n := 60) rfl rfl (gvp_in b38) ?_
        refine r_const rfl (gcst 45) ?_
        refine r_icmp_ne 32 rfl rfl (fun c39 => ?_) (fun c39 => ?_)
        · rw [if_pos c39] at hr
          refine gforget (ls := [.ref 57, .null, .int (if ¬ (I 57 22) = (-9 : Int32) then (nI 0) else (if (I 57 20) ≤ (I 57 21) then (nI 0) else (nI 1)))]) ⟨(Or.inl rfl), ⟨(Or.inr (Or.inl ⟨rfl, _, rfl⟩)), ⟨(Or.inl rfl), trivial⟩⟩⟩ ?_
          exact t_X8_letterTone_32  hr hQ
        · rw [if_neg c39] at hr
          refine r_aload rfl rfl ?_
          refine r_dup rfl rfl ?_
          refine r_getI (c := 8) (k := 21) rfl rfl ⟨rfl, rfl⟩ ?_
          refine r_const rfl (gcst 1) ?_
          refine r_iadd rfl ?_
          refine r_putI (c := 8) (k := 21) rfl rfl ⟨rfl, rfl⟩ ?_
          refine r_const rfl (gcst 12) ?_
          refine r_iret rfl ?_
          cases hr
          exact hQ
  refine r_icmp_ne 11 rfl rfl (fun c34 => ?_) (fun c34 => ?_)
  · refine r_const rfl (gcst 0) ?_
    first | contradiction | simpa only [if_pos c34] using j40
  · refine r_aload rfl rfl ?_
    refine r_getI (c := 8) (k := 21) rfl rfl ⟨rfl, rfl⟩ ?_
    refine r_aload rfl rfl ?_
    refine r_getI (c := 8) (k := 20) rfl rfl ⟨rfl, rfl⟩ ?_
    refine r_icmp_ge 11 rfl rfl (fun c35 => ?_) (fun c35 => ?_)
    · refine r_const rfl (gcst 0) ?_
      first | contradiction | simpa only [if_neg c34, if_pos c35] using j40
    · refine r_const rfl (gcst 1) ?_
      refine r_goto 12 rfl rfl ?_
      first | contradiction | simpa only [if_neg c34, if_neg c35] using j40
def r_X8_readPart_172    (I : Nat → Nat → Int32) (L : Nat → Nat → Int64) : Option gRs := some (0, (gu2 I 57 22 (I 57 21)), L)
set_option maxHeartbeats 4000000 in
set_option maxRecDepth 100000 in
theorem t_X8_readPart_172 {n f g d : Nat} {Q : gP} {z : gRs}     {I : Nat → Nat → Int32} {L : Nat → Nat → Int64} (hr : r_X8_readPart_172 I L = some z) (hQ : Q none (gKn n, gRf f g, z.2.1, z.2.2)) : gW gM (d + 2) 0 0 k_X8_readPart 172 [.ref 57, .null, .null] [] (gKn n, gRf f g, I, L) Q := by
  unfold r_X8_readPart_172 at hr
  refine r_aload rfl rfl ?_
  refine r_aload rfl rfl ?_
  refine r_getI (c := 8) (k := 21) rfl rfl ⟨rfl, rfl⟩ ?_
  refine r_putI (c := 8) (k := 22) rfl rfl ⟨rfl, rfl⟩ ?_
  refine r_vret rfl ?_
  cases hr
  exact hQ
def r_X8_readPart_148   : Nat → Int32 → (Nat → Nat → Int32) → (Nat → Nat → Int64) → Option gRs
  | 0, _, _, _ => none
  | m + 1, v2, I, L => (if (nI 4) ≤ v2 then some (0, (gu2 I 57 17 ((I 57 17) + (nI 1))), L) else ((r_X8_letterTone I L (nI 1)).bind (fun z78 => (if gvp (((nI 4) * (I 57 17)) + v2) 8 = true then (r_X8_readPart_148  m (v2 + (nI 1)) (gu2 z78.2.1 67 (gx (((nI 4) * (I 57 17)) + v2)) z78.1) z78.2.2) else none))))
set_option maxHeartbeats 4000000 in
set_option maxRecDepth 100000 in
theorem t_X8_readPart_148 {n f g d : Nat} {Q : gP} {z : gRs}    : ∀ {m : Nat} {v2 : Int32} {I : Nat → Nat → Int32} {L : Nat → Nat → Int64}, r_X8_readPart_148 m v2 I L = some z → Q none (gKn n, gRf f g, z.2.1, z.2.2) → gW gM (d + 2) 0 0 k_X8_readPart 148 [.ref 57, .null, .int v2] [] (gKn n, gRf f g, I, L) Q := by
  intro m
  induction m with
  | zero =>
    intro v2 I L hr _
    cases hr
  | succ m ih =>
    intro v2 I L hr hQ
    have hK148 : ∀ v2 I L, r_X8_readPart_148 m v2 I L = some z → gW gM (d + 2) 0 0 k_X8_readPart 148 [.ref 57, .null, .int v2] [] (gKn n, gRf f g, I, L) Q := fun v2 I L hr => ih hr hQ
    unfold r_X8_readPart_148 at hr
    refine r_iload rfl rfl ?_
    refine r_const rfl (gcst 4) ?_
    refine r_icmp_ge 165 rfl rfl (fun c77 => ?_) (fun c77 => ?_)
    · rw [if_pos c77] at hr
      refine r_aload rfl rfl ?_
      refine r_dup rfl rfl ?_
      refine r_getI (c := 8) (k := 17) rfl rfl ⟨rfl, rfl⟩ ?_
      refine r_const rfl (gcst 1) ?_
      refine r_iadd rfl ?_
      refine r_putI (c := 8) (k := 17) rfl rfl ⟨rfl, rfl⟩ ?_
      refine r_goto 176 rfl rfl ?_
      refine r_vret rfl ?_
      cases hr
      exact hQ
    · rw [if_neg c77] at hr
      refine r_aload rfl rfl ?_
      refine r_getR (c := 8) (k := 13) (v := 67) rfl rfl ⟨rfl, rfl⟩ rfl ?_
      refine r_const rfl (gcst 4) ?_
      refine r_aload rfl rfl ?_
      refine r_getI (c := 8) (k := 17) rfl rfl ⟨rfl, rfl⟩ ?_
      refine r_imul rfl ?_
      refine r_iload rfl rfl ?_
      refine r_iadd rfl ?_
      refine r_aload rfl rfl ?_
      refine r_const rfl (gcst 1) ?_
      obtain ⟨z78, hz78, hr⟩ := gbnd hr
      refine r_invv (a := 57) [.int (nI 1)] rfl rfl rfl rfl rfl (Nat.le_of_ble_eq_true rfl) ⟨rfl, rfl⟩ ?_
      refine s_X8_letterTone  hz78 ?_
      show gW _ _ _ _ _ 162 [.ref 57, .null, .int v2] [.int z78.1, .int (((nI 4) * (I 57 17)) + v2), .ref 67] (gKn n, gRf f g, z78.2.1, z78.2.2) _
      obtain ⟨b79, hr⟩ := gopt hr
      refine r_iastore (n := 8) rfl rfl (gvp_in b79) (by decide) ?_
      refine r_iinc (y := (v2 + (nI 1))) [.ref 57, .null, .int (v2 + (nI 1))] rfl rfl rfl (ginc _ 1) rfl ?_
      refine r_goto 148 rfl rfl ?_
      exact hK148 _ _ _ hr
def r_X8_readPart_133   (v1 : Int32) (I : Nat → Nat → Int32) (L : Nat → Nat → Int64) : Option gRs := (if ¬ v1 = (nI 86) then (r_X8_readPart_172 I L) else (if (nI 2) ≤ (I 57 17) then (r_X8_readPart_172 I L) else (r_X8_readPart_148 100 (nI 0) (gu2 I 57 21 ((I 57 21) + (nI 1))) L)))
set_option maxHeartbeats 4000000 in
set_option maxRecDepth 100000 in
theorem t_X8_readPart_133 {n f g d : Nat} {Q : gP} {z : gRs}    {v1 : Int32} {I : Nat → Nat → Int32} {L : Nat → Nat → Int64} (hr : r_X8_readPart_133 v1 I L = some z) (hQ : Q none (gKn n, gRf f g, z.2.1, z.2.2)) : gW gM (d + 2) 0 0 k_X8_readPart 133 [.ref 57, .int v1, .null] [] (gKn n, gRf f g, I, L) Q := by
  unfold r_X8_readPart_133 at hr
  refine r_iload rfl rfl ?_
  refine r_const rfl (gcst 86) ?_
  refine r_icmp_ne 172 rfl rfl (fun c80 => ?_) (fun c80 => ?_)
  · rw [if_pos c80] at hr
    refine gforget (ls := [.ref 57, .null, .null]) ⟨(Or.inl rfl), ⟨(Or.inr (Or.inl ⟨rfl, _, rfl⟩)), ⟨(Or.inl rfl), trivial⟩⟩⟩ ?_
    exact t_X8_readPart_172  hr hQ
  · rw [if_neg c80] at hr
    refine r_aload rfl rfl ?_
    refine r_getI (c := 8) (k := 17) rfl rfl ⟨rfl, rfl⟩ ?_
    refine r_const rfl (gcst 2) ?_
    refine r_icmp_ge 172 rfl rfl (fun c81 => ?_) (fun c81 => ?_)
    · rw [if_pos c81] at hr
      refine gforget (ls := [.ref 57, .null, .null]) ⟨(Or.inl rfl), ⟨(Or.inr (Or.inl ⟨rfl, _, rfl⟩)), ⟨(Or.inl rfl), trivial⟩⟩⟩ ?_
      exact t_X8_readPart_172  hr hQ
    · rw [if_neg c81] at hr
      refine r_aload rfl rfl ?_
      refine r_dup rfl rfl ?_
      refine r_getI (c := 8) (k := 21) rfl rfl ⟨rfl, rfl⟩ ?_
      refine r_const rfl (gcst 1) ?_
      refine r_iadd rfl ?_
      refine r_putI (c := 8) (k := 21) rfl rfl ⟨rfl, rfl⟩ ?_
      refine r_const rfl (gcst 0) ?_
      refine r_istore [.ref 57, .int v1, .int (nI 0)] rfl rfl (Nat.le_of_ble_eq_true rfl) rfl ?_
      refine gforget (ls := [.ref 57, .null, .int (nI 0)]) ⟨(Or.inl rfl), ⟨(Or.inr (Or.inl ⟨rfl, _, rfl⟩)), ⟨(Or.inl rfl), trivial⟩⟩⟩ ?_
      exact t_X8_readPart_148  hr hQ
def r_X8_readPart_89   (v1 : Int32) (I : Nat → Nat → Int32) (L : Nat → Nat → Int64) : Option gRs := (if ¬ v1 = (nI 66) then (r_X8_readPart_133 v1 I L) else (if (nI 5) ≤ (I 57 16) then (r_X8_readPart_133 v1 I L) else ((r_X8_figure (gu2 I 57 21 ((I 57 21) + (nI 1))) L (nI 1) (nI 9)).bind (fun z84 => (if gvp ((nI 2) * ((gu2 I 57 21 ((I 57 21) + (nI 1))) 57 16)) 10 = true then ((r_X8_figure (gu2 z84.2.1 66 (gx ((nI 2) * ((gu2 I 57 21 ((I 57 21) + (nI 1))) 57 16))) z84.1) z84.2.2 (nI 0) (nI 3)).bind (fun z86 => (if gvp (((nI 2) * ((gu2 z84.2.1 66 (gx ((nI 2) * ((gu2 I 57 21 ((I 57 21) + (nI 1))) 57 16))) z84.1) 57 16)) + (nI 1)) 10 = true then some (0, (gu2 (gu2 z86.2.1 66 (gx (((nI 2) * ((gu2 z84.2.1 66 (gx ((nI 2) * ((gu2 I 57 21 ((I 57 21) + (nI 1))) 57 16))) z84.1) 57 16)) + (nI 1))) z86.1) 57 16 (((gu2 z86.2.1 66 (gx (((nI 2) * ((gu2 z84.2.1 66 (gx ((nI 2) * ((gu2 I 57 21 ((I 57 21) + (nI 1))) 57 16))) z84.1) 57 16)) + (nI 1))) z86.1) 57 16) + (nI 1))), z86.2.2) else none))) else none)))))
set_option maxHeartbeats 4000000 in
set_option maxRecDepth 100000 in
theorem t_X8_readPart_89 {n f g d : Nat} {Q : gP} {z : gRs}    {v1 : Int32} {I : Nat → Nat → Int32} {L : Nat → Nat → Int64} (hr : r_X8_readPart_89 v1 I L = some z) (hQ : Q none (gKn n, gRf f g, z.2.1, z.2.2)) : gW gM (d + 2) 0 0 k_X8_readPart 89 [.ref 57, .int v1, .null] [] (gKn n, gRf f g, I, L) Q := by
  unfold r_X8_readPart_89 at hr
  refine r_iload rfl rfl ?_
  refine r_const rfl (gcst 66) ?_
  refine r_icmp_ne 133 rfl rfl (fun c82 => ?_) (fun c82 => ?_)
  · rw [if_pos c82] at hr
    exact t_X8_readPart_133  hr hQ
  · rw [if_neg c82] at hr
    refine r_aload rfl rfl ?_
    refine r_getI (c := 8) (k := 16) rfl rfl ⟨rfl, rfl⟩ ?_
    refine r_const rfl (gcst 5) ?_
    refine r_icmp_ge 133 rfl rfl (fun c83 => ?_) (fun c83 => ?_)
    · rw [if_pos c83] at hr
      exact t_X8_readPart_133  hr hQ
    · rw [if_neg c83] at hr
      refine r_aload rfl rfl ?_
      refine r_dup rfl rfl ?_
      refine r_getI (c := 8) (k := 21) rfl rfl ⟨rfl, rfl⟩ ?_
      refine r_const rfl (gcst 1) ?_
      refine r_iadd rfl ?_
      refine r_putI (c := 8) (k := 21) rfl rfl ⟨rfl, rfl⟩ ?_
      refine r_aload rfl rfl ?_
      refine r_getR (c := 8) (k := 12) (v := 66) rfl rfl ⟨rfl, rfl⟩ rfl ?_
      refine r_const rfl (gcst 2) ?_
      refine r_aload rfl rfl ?_
      refine r_getI (c := 8) (k := 16) rfl rfl ⟨rfl, rfl⟩ ?_
      refine r_imul rfl ?_
      refine r_aload rfl rfl ?_
      refine r_const rfl (gcst 1) ?_
      refine r_const rfl (gcst 9) ?_
      obtain ⟨z84, hz84, hr⟩ := gbnd hr
      refine r_invv (a := 57) [.int (nI 1), .int (nI 9)] rfl rfl rfl rfl rfl (Nat.le_of_ble_eq_true rfl) ⟨rfl, rfl⟩ ?_
      refine s_X8_figure  hz84 ?_
      show gW _ _ _ _ _ 112 [.ref 57, .int v1, .null] [.int z84.1, .int ((nI 2) * ((gu2 I 57 21 ((I 57 21) + (nI 1))) 57 16)), .ref 66] (gKn n, gRf f g, z84.2.1, z84.2.2) _
      obtain ⟨b85, hr⟩ := gopt hr
      refine r_iastore (n := 10) rfl rfl (gvp_in b85) (by decide) ?_
      refine r_aload rfl rfl ?_
      refine r_getR (c := 8) (k := 12) (v := 66) rfl rfl ⟨rfl, rfl⟩ rfl ?_
      refine r_const rfl (gcst 2) ?_
      refine r_aload rfl rfl ?_
      refine r_getI (c := 8) (k := 16) rfl rfl ⟨rfl, rfl⟩ ?_
      refine r_imul rfl ?_
      refine r_const rfl (gcst 1) ?_
      refine r_iadd rfl ?_
      refine r_aload rfl rfl ?_
      refine r_const rfl (gcst 0) ?_
      refine r_const rfl (gcst 3) ?_
      obtain ⟨z86, hz86, hr⟩ := gbnd hr
      refine r_invv (a := 57) [.int (nI 0), .int (nI 3)] rfl rfl rfl rfl rfl (Nat.le_of_ble_eq_true rfl) ⟨rfl, rfl⟩ ?_
      refine s_X8_figure  hz86 ?_
      show gW _ _ _ _ _ 125 [.ref 57, .int v1, .null] [.int z86.1, .int (((nI 2) * ((gu2 z84.2.1 66 (gx ((nI 2) * ((gu2 I 57 21 ((I 57 21) + (nI 1))) 57 16))) z84.1) 57 16)) + (nI 1)), .ref 66] (gKn n, gRf f g, z86.2.1, z86.2.2) _
      obtain ⟨b87, hr⟩ := gopt hr
      refine r_iastore (n := 10) rfl rfl (gvp_in b87) (by decide) ?_
      refine r_aload rfl rfl ?_
      refine r_dup rfl rfl ?_
      refine r_getI (c := 8) (k := 16) rfl rfl ⟨rfl, rfl⟩ ?_
      refine r_const rfl (gcst 1) ?_
      refine r_iadd rfl ?_
      refine r_putI (c := 8) (k := 16) rfl rfl ⟨rfl, rfl⟩ ?_
      refine r_goto 176 rfl rfl ?_
      refine r_vret rfl ?_
      cases hr
      exact hQ
def r_X8_readPart_61   : Nat → Int32 → (Nat → Nat → Int32) → (Nat → Nat → Int64) → Option gRs
  | 0, _, _, _ => none
  | m + 1, v2, I, L => (if (nI 3) ≤ v2 then some (0, (gu2 I 57 15 ((I 57 15) + (nI 1))), L) else ((r_X8_figure I L (nI 0) ((I 57 14) - (nI 1))).bind (fun z89 => (if gvp (((nI 3) * (I 57 15)) + v2) 9 = true then (r_X8_readPart_61  m (v2 + (nI 1)) (gu2 z89.2.1 65 (gx (((nI 3) * (I 57 15)) + v2)) z89.1) z89.2.2) else none))))
set_option maxHeartbeats 4000000 in
set_option maxRecDepth 100000 in
theorem t_X8_readPart_61 {n f g d : Nat} {Q : gP} {z : gRs}    : ∀ {m : Nat} {v2 : Int32} {I : Nat → Nat → Int32} {L : Nat → Nat → Int64}, r_X8_readPart_61 m v2 I L = some z → Q none (gKn n, gRf f g, z.2.1, z.2.2) → gW gM (d + 2) 0 0 k_X8_readPart 61 [.ref 57, .null, .int v2] [] (gKn n, gRf f g, I, L) Q := by
  intro m
  induction m with
  | zero =>
    intro v2 I L hr _
    cases hr
  | succ m ih =>
    intro v2 I L hr hQ
    have hK61 : ∀ v2 I L, r_X8_readPart_61 m v2 I L = some z → gW gM (d + 2) 0 0 k_X8_readPart 61 [.ref 57, .null, .int v2] [] (gKn n, gRf f g, I, L) Q := fun v2 I L hr => ih hr hQ
    unfold r_X8_readPart_61 at hr
    refine r_iload rfl rfl ?_
    refine r_const rfl (gcst 3) ?_
    refine r_icmp_ge 82 rfl rfl (fun c88 => ?_) (fun c88 => ?_)
    · rw [if_pos c88] at hr
      refine r_aload rfl rfl ?_
      refine r_dup rfl rfl ?_
      refine r_getI (c := 8) (k := 15) rfl rfl ⟨rfl, rfl⟩ ?_
      refine r_const rfl (gcst 1) ?_
      refine r_iadd rfl ?_
      refine r_putI (c := 8) (k := 15) rfl rfl ⟨rfl, rfl⟩ ?_
      refine r_goto 176 rfl rfl ?_
      refine r_vret rfl ?_
      cases hr
      exact hQ
    · rw [if_neg c88] at hr
      refine r_aload rfl rfl ?_
      refine r_getR (c := 8) (k := 11) (v := 65) rfl rfl ⟨rfl, rfl⟩ rfl ?_
      refine r_const rfl (gcst 3) ?_
      refine r_aload rfl rfl ?_
      refine r_getI (c := 8) (k := 15) rfl rfl ⟨rfl, rfl⟩ ?_
      refine r_imul rfl ?_
      refine r_iload rfl rfl ?_
      refine r_iadd rfl ?_
      refine r_aload rfl rfl ?_
      refine r_const rfl (gcst 0) ?_
      refine r_aload rfl rfl ?_
      refine r_getI (c := 8) (k := 14) rfl rfl ⟨rfl, rfl⟩ ?_
      refine r_const rfl (gcst 1) ?_
      refine r_isub rfl ?_
      obtain ⟨z89, hz89, hr⟩ := gbnd hr
      refine r_invv (a := 57) [.int (nI 0), .int ((I 57 14) - (nI 1))] rfl rfl rfl rfl rfl (Nat.le_of_ble_eq_true rfl) ⟨rfl, rfl⟩ ?_
      refine s_X8_figure  hz89 ?_
      show gW _ _ _ _ _ 79 [.ref 57, .null, .int v2] [.int z89.1, .int (((nI 3) * (I 57 15)) + v2), .ref 65] (gKn n, gRf f g, z89.2.1, z89.2.2) _
      obtain ⟨b90, hr⟩ := gopt hr
      refine r_iastore (n := 9) rfl rfl (gvp_in b90) (by decide) ?_
      refine r_iinc (y := (v2 + (nI 1))) [.ref 57, .null, .int (v2 + (nI 1))] rfl rfl rfl (ginc _ 1) rfl ?_
      refine r_goto 61 rfl rfl ?_
      exact hK61 _ _ _ hr
def r_X8_readPart_43   (v1 : Int32) (I : Nat → Nat → Int32) (L : Nat → Nat → Int64) : Option gRs := (if ¬ v1 = (nI 76) then (r_X8_readPart_89 v1 I L) else (if (nI 3) ≤ (I 57 15) then (r_X8_readPart_89 v1 I L) else (if (I 57 14) ≤ 0 then (r_X8_readPart_89 v1 I L) else (r_X8_readPart_61 100 (nI 0) (gu2 I 57 21 ((I 57 21) + (nI 1))) L))))
set_option maxHeartbeats 4000000 in
set_option maxRecDepth 100000 in
theorem t_X8_readPart_43 {n f g d : Nat} {Q : gP} {z : gRs}    {v1 : Int32} {I : Nat → Nat → Int32} {L : Nat → Nat → Int64} (hr : r_X8_readPart_43 v1 I L = some z) (hQ : Q none (gKn n, gRf f g, z.2.1, z.2.2)) : gW gM (d + 2) 0 0 k_X8_readPart 43 [.ref 57, .int v1, .null] [] (gKn n, gRf f g, I, L) Q := by
  unfold r_X8_readPart_43 at hr
  refine r_iload rfl rfl ?_
  refine r_const rfl (gcst 76) ?_
  refine r_icmp_ne 89 rfl rfl (fun c91 => ?_) (fun c91 => ?_)
  · rw [if_pos c91] at hr
    exact t_X8_readPart_89  hr hQ
  · rw [if_neg c91] at hr
    refine r_aload rfl rfl ?_
    refine r_getI (c := 8) (k := 15) rfl rfl ⟨rfl, rfl⟩ ?_
    refine r_const rfl (gcst 3) ?_
    refine r_icmp_ge 89 rfl rfl (fun c92 => ?_) (fun c92 => ?_)
    · rw [if_pos c92] at hr
      exact t_X8_readPart_89  hr hQ
    · rw [if_neg c92] at hr
      refine r_aload rfl rfl ?_
      refine r_getI (c := 8) (k := 14) rfl rfl ⟨rfl, rfl⟩ ?_
      refine r_if_le 89 rfl rfl (fun c93 => ?_) (fun c93 => ?_)
      · rw [if_pos c93] at hr
        exact t_X8_readPart_89  hr hQ
      · rw [if_neg c93] at hr
        refine r_aload rfl rfl ?_
        refine r_dup rfl rfl ?_
        refine r_getI (c := 8) (k := 21) rfl rfl ⟨rfl, rfl⟩ ?_
        refine r_const rfl (gcst 1) ?_
        refine r_iadd rfl ?_
        refine r_putI (c := 8) (k := 21) rfl rfl ⟨rfl, rfl⟩ ?_
        refine r_const rfl (gcst 0) ?_
        refine r_istore [.ref 57, .int v1, .int (nI 0)] rfl rfl (Nat.le_of_ble_eq_true rfl) rfl ?_
        refine gforget (ls := [.ref 57, .null, .int (nI 0)]) ⟨(Or.inl rfl), ⟨(Or.inr (Or.inl ⟨rfl, _, rfl⟩)), ⟨(Or.inl rfl), trivial⟩⟩⟩ ?_
        exact t_X8_readPart_61  hr hQ
def r_X8_readPart (I : Nat → Nat → Int32) (L : Nat → Nat → Int64) (a1 : Int32) : Option gRs := (if ¬ a1 = (nI 71) then (r_X8_readPart_43 a1 I L) else (if (nI 5) ≤ (I 57 14) then (r_X8_readPart_43 a1 I L) else ((r_X8_letterTone (gu2 I 57 21 ((I 57 21) + (nI 1))) L (nI 0)).bind (fun z96 => (if gvp ((nI 2) * ((gu2 I 57 21 ((I 57 21) + (nI 1))) 57 14)) 10 = true then ((r_X8_figure (gu2 z96.2.1 64 (gx ((nI 2) * ((gu2 I 57 21 ((I 57 21) + (nI 1))) 57 14))) z96.1) z96.2.2 (nI 0) (nI 3)).bind (fun z98 => (if gvp (((nI 2) * ((gu2 z96.2.1 64 (gx ((nI 2) * ((gu2 I 57 21 ((I 57 21) + (nI 1))) 57 14))) z96.1) 57 14)) + (nI 1)) 10 = true then some (0, (gu2 (gu2 z98.2.1 64 (gx (((nI 2) * ((gu2 z96.2.1 64 (gx ((nI 2) * ((gu2 I 57 21 ((I 57 21) + (nI 1))) 57 14))) z96.1) 57 14)) + (nI 1))) z98.1) 57 14 (((gu2 z98.2.1 64 (gx (((nI 2) * ((gu2 z96.2.1 64 (gx ((nI 2) * ((gu2 I 57 21 ((I 57 21) + (nI 1))) 57 14))) z96.1) 57 14)) + (nI 1))) z98.1) 57 14) + (nI 1))), z98.2.2) else none))) else none)))))
set_option maxHeartbeats 4000000 in
set_option maxRecDepth 100000 in
theorem s_X8_readPart {n f g d : Nat} {Q : gP} {I : Nat → Nat → Int32} {L : Nat → Nat → Int64} {a1 : Int32} {z : gRs}  (hr : r_X8_readPart I L a1 = some z) (hQ : Q none (gKn n, gRf f g, z.2.1, z.2.2)) : gR gM (d + 2) 114 [.ref 57, .int a1] (gKn n, gRf f g, I, L) Q := by
  unfold r_X8_readPart at hr
  show gW gM (d + 2) 0 0 k_X8_readPart 0 [.ref 57, .int a1, .null] [] (gKn n, gRf f g, I, L) Q
  refine r_iload rfl rfl ?_
  refine r_const rfl (gcst 71) ?_
  refine r_icmp_ne 43 rfl rfl (fun c94 => ?_) (fun c94 => ?_)
  · rw [if_pos c94] at hr
    exact t_X8_readPart_43  hr hQ
  · rw [if_neg c94] at hr
    refine r_aload rfl rfl ?_
    refine r_getI (c := 8) (k := 14) rfl rfl ⟨rfl, rfl⟩ ?_
    refine r_const rfl (gcst 5) ?_
    refine r_icmp_ge 43 rfl rfl (fun c95 => ?_) (fun c95 => ?_)
    · rw [if_pos c95] at hr
      exact t_X8_readPart_43  hr hQ
    · rw [if_neg c95] at hr
      refine r_aload rfl rfl ?_
      refine r_dup rfl rfl ?_
      refine r_getI (c := 8) (k := 21) rfl rfl ⟨rfl, rfl⟩ ?_
      refine r_const rfl (gcst 1) ?_
      refine r_iadd rfl ?_
      refine r_putI (c := 8) (k := 21) rfl rfl ⟨rfl, rfl⟩ ?_
      refine r_aload rfl rfl ?_
      refine r_getR (c := 8) (k := 10) (v := 64) rfl rfl ⟨rfl, rfl⟩ rfl ?_
      refine r_const rfl (gcst 2) ?_
      refine r_aload rfl rfl ?_
      refine r_getI (c := 8) (k := 14) rfl rfl ⟨rfl, rfl⟩ ?_
      refine r_imul rfl ?_
      refine r_aload rfl rfl ?_
      refine r_const rfl (gcst 0) ?_
      obtain ⟨z96, hz96, hr⟩ := gbnd hr
      refine r_invv (a := 57) [.int (nI 0)] rfl rfl rfl rfl rfl (Nat.le_of_ble_eq_true rfl) ⟨rfl, rfl⟩ ?_
      refine s_X8_letterTone  hz96 ?_
      show gW _ _ _ _ _ 22 [.ref 57, .int a1, .null] [.int z96.1, .int ((nI 2) * ((gu2 I 57 21 ((I 57 21) + (nI 1))) 57 14)), .ref 64] (gKn n, gRf f g, z96.2.1, z96.2.2) _
      obtain ⟨b97, hr⟩ := gopt hr
      refine r_iastore (n := 10) rfl rfl (gvp_in b97) (by decide) ?_
      refine r_aload rfl rfl ?_
      refine r_getR (c := 8) (k := 10) (v := 64) rfl rfl ⟨rfl, rfl⟩ rfl ?_
      refine r_const rfl (gcst 2) ?_
      refine r_aload rfl rfl ?_
      refine r_getI (c := 8) (k := 14) rfl rfl ⟨rfl, rfl⟩ ?_
      refine r_imul rfl ?_
      refine r_const rfl (gcst 1) ?_
      refine r_iadd rfl ?_
      refine r_aload rfl rfl ?_
      refine r_const rfl (gcst 0) ?_
      refine r_const rfl (gcst 3) ?_
      obtain ⟨z98, hz98, hr⟩ := gbnd hr
      refine r_invv (a := 57) [.int (nI 0), .int (nI 3)] rfl rfl rfl rfl rfl (Nat.le_of_ble_eq_true rfl) ⟨rfl, rfl⟩ ?_
      refine s_X8_figure  hz98 ?_
      show gW _ _ _ _ _ 35 [.ref 57, .int a1, .null] [.int z98.1, .int (((nI 2) * ((gu2 z96.2.1 64 (gx ((nI 2) * ((gu2 I 57 21 ((I 57 21) + (nI 1))) 57 14))) z96.1) 57 14)) + (nI 1)), .ref 64] (gKn n, gRf f g, z98.2.1, z98.2.2) _
      obtain ⟨b99, hr⟩ := gopt hr
      refine r_iastore (n := 10) rfl rfl (gvp_in b99) (by decide) ?_
      refine r_aload rfl rfl ?_
      refine r_dup rfl rfl ?_
      refine r_getI (c := 8) (k := 14) rfl rfl ⟨rfl, rfl⟩ ?_
      refine r_const rfl (gcst 1) ?_
      refine r_iadd rfl ?_
      refine r_putI (c := 8) (k := 14) rfl rfl ⟨rfl, rfl⟩ ?_
      refine r_goto 176 rfl rfl ?_
      refine r_vret rfl ?_
      cases hr
      exact hQ
def r_X8_readText_55    (I : Nat → Nat → Int32) (L : Nat → Nat → Int64) : Option gRs := some ((I 57 22), I, L)
set_option maxHeartbeats 4000000 in
set_option maxRecDepth 100000 in
theorem t_X8_readText_55 {n f g d : Nat} {Q : gP} {z : gRs}     {I : Nat → Nat → Int32} {L : Nat → Nat → Int64} (hr : r_X8_readText_55 I L = some z) (hQ : Q (some (.int z.1)) (gKn n, gRf f g, z.2.1, z.2.2)) : gW gM (d + 3) 0 0 k_X8_readText 55 [.ref 57] [] (gKn n, gRf f g, I, L) Q := by
  unfold r_X8_readText_55 at hr
  refine r_aload rfl rfl ?_
  refine r_getI (c := 8) (k := 22) rfl rfl ⟨rfl, rfl⟩ ?_
  refine r_iret rfl ?_
  cases hr
  exact hQ
def r_X8_readText_38   : Nat → (Nat → Nat → Int32) → (Nat → Nat → Int64) → Option gRs
  | 0, _, _ => none
  | m + 1, I, L => (if ¬ (I 57 22) = (-9 : Int32) then (r_X8_readText_55 I L) else (if (I 57 20) ≤ (I 57 21) then (r_X8_readText_55 I L) else (if gvp (I 57 21) 60 = true then ((r_X8_readPart I L (I 68 (gx (I 57 21)))).bind (fun z21 => (r_X8_readText_38  m z21.2.1 z21.2.2))) else none)))
set_option maxHeartbeats 4000000 in
set_option maxRecDepth 100000 in
theorem t_X8_readText_38 {n f g d : Nat} {Q : gP} {z : gRs}    : ∀ {m : Nat}  {I : Nat → Nat → Int32} {L : Nat → Nat → Int64}, r_X8_readText_38 m I L = some z → Q (some (.int z.1)) (gKn n, gRf f g, z.2.1, z.2.2) → gW gM (d + 3) 0 0 k_X8_readText 38 [.ref 57] [] (gKn n, gRf f g, I, L) Q := by
  intro m
  induction m with
  | zero =>
    intro I L hr _
    cases hr
  | succ m ih =>
    intro I L hr hQ
    have hK38 : ∀  I L, r_X8_readText_38 m I L = some z → gW gM (d + 3) 0 0 k_X8_readText 38 [.ref 57] [] (gKn n, gRf f g, I, L) Q := fun  I L hr => ih hr hQ
    unfold r_X8_readText_38 at hr
    refine r_aload rfl rfl ?_
    refine r_getI (c := 8) (k := 22) rfl rfl ⟨rfl, rfl⟩ ?_
    refine r_const rfl (v := -9) (by decide) ?_
    refine r_icmp_ne 55 rfl rfl (fun c18 => ?_) (fun c18 => ?_)
    · rw [if_pos c18] at hr
      exact t_X8_readText_55  hr hQ
    · rw [if_neg c18] at hr
      refine r_aload rfl rfl ?_
      refine r_getI (c := 8) (k := 21) rfl rfl ⟨rfl, rfl⟩ ?_
      refine r_aload rfl rfl ?_
      refine r_getI (c := 8) (k := 20) rfl rfl ⟨rfl, rfl⟩ ?_
      refine r_icmp_ge 55 rfl rfl (fun c19 => ?_) (fun c19 => ?_)
      · rw [if_pos c19] at hr
        exact t_X8_readText_55  hr hQ
      · rw [if_neg c19] at hr
        refine r_aload rfl rfl ?_
        refine r_aload rfl rfl ?_
        refine r_getR (c := 8) (k := 19) (v := 68) rfl rfl ⟨rfl, rfl⟩ rfl ?_
        refine r_aload rfl rfl ?_
        refine r_getI (c := 8) (k := 21) rfl rfl ⟨rfl, rfl⟩ ?_
        obtain ⟨b20, hr⟩ := gopt hr
        refine r_iaload (n := 60) rfl rfl (gvp_in b20) ?_
        obtain ⟨z21, hz21, hr⟩ := gbnd hr
        refine r_invv (a := 57) [.int (I 68 (gx (I 57 21)))] rfl rfl rfl rfl rfl (Nat.le_of_ble_eq_true rfl) ⟨rfl, rfl⟩ ?_
        refine s_X8_readPart  hz21 ?_
        show gW _ _ _ _ _ 54 [.ref 57] [] (gKn n, gRf f g, z21.2.1, z21.2.2) _
        refine r_goto 38 rfl rfl ?_
        exact hK38 _ _ hr
def r_X8_readText_27    (I : Nat → Nat → Int32) (L : Nat → Nat → Int64) : Option gRs := some ((nI 0), I, L)
set_option maxHeartbeats 4000000 in
set_option maxRecDepth 100000 in
theorem t_X8_readText_27 {n f g d : Nat} {Q : gP} {z : gRs}     {I : Nat → Nat → Int32} {L : Nat → Nat → Int64} (hr : r_X8_readText_27 I L = some z) (hQ : Q (some (.int z.1)) (gKn n, gRf f g, z.2.1, z.2.2)) : gW gM (d + 3) 0 0 k_X8_readText 27 [.null] [] (gKn n, gRf f g, I, L) Q := by
  unfold r_X8_readText_27 at hr
  refine r_const rfl (gcst 0) ?_
  refine r_iret rfl ?_
  cases hr
  exact hQ
def r_X8_readText (I : Nat → Nat → Int32) (L : Nat → Nat → Int64)  : Option gRs := (if ((gu2 (gu2 (gu2 (gu2 (gu2 (gu2 I 57 21 (nI 0)) 57 22 (-9 : Int32)) 57 14 (nI 0)) 57 15 (nI 0)) 57 16 (nI 0)) 57 17 (nI 0)) 57 20) = 0 then (r_X8_readText_27 (gu2 (gu2 (gu2 (gu2 (gu2 (gu2 I 57 21 (nI 0)) 57 22 (-9 : Int32)) 57 14 (nI 0)) 57 15 (nI 0)) 57 16 (nI 0)) 57 17 (nI 0)) L) else (if ((gu2 (gu2 (gu2 (gu2 (gu2 (gu2 I 57 21 (nI 0)) 57 22 (-9 : Int32)) 57 14 (nI 0)) 57 15 (nI 0)) 57 16 (nI 0)) 57 17 (nI 0)) 68 (gx (nI 0))) = (nI 67) then ((r_X8_figure (gu2 (gu2 (gu2 (gu2 (gu2 (gu2 (gu2 I 57 21 (nI 0)) 57 22 (-9 : Int32)) 57 14 (nI 0)) 57 15 (nI 0)) 57 16 (nI 0)) 57 17 (nI 0)) 57 21 (nI 1)) L (nI 0) (nI 1)).bind (fun z24 => (r_X8_readText_38 100 (gu2 z24.2.1 57 18 z24.1) z24.2.2))) else (r_X8_readText_27 (gu2 (gu2 (gu2 (gu2 (gu2 (gu2 I 57 21 (nI 0)) 57 22 (-9 : Int32)) 57 14 (nI 0)) 57 15 (nI 0)) 57 16 (nI 0)) 57 17 (nI 0)) L)))
set_option maxHeartbeats 4000000 in
set_option maxRecDepth 100000 in
theorem s_X8_readText {n f g d : Nat} {Q : gP} {I : Nat → Nat → Int32} {L : Nat → Nat → Int64}  {z : gRs}  (hr : r_X8_readText I L  = some z) (hQ : Q (some (.int z.1)) (gKn n, gRf f g, z.2.1, z.2.2)) : gR gM (d + 3) 113 [.ref 57] (gKn n, gRf f g, I, L) Q := by
  unfold r_X8_readText at hr
  show gW gM (d + 3) 0 0 k_X8_readText 0 [.ref 57] [] (gKn n, gRf f g, I, L) Q
  refine r_aload rfl rfl ?_
  refine r_const rfl (gcst 0) ?_
  refine r_putI (c := 8) (k := 21) rfl rfl ⟨rfl, rfl⟩ ?_
  refine r_aload rfl rfl ?_
  refine r_const rfl (v := -9) (by decide) ?_
  refine r_putI (c := 8) (k := 22) rfl rfl ⟨rfl, rfl⟩ ?_
  refine r_aload rfl rfl ?_
  refine r_const rfl (gcst 0) ?_
  refine r_putI (c := 8) (k := 14) rfl rfl ⟨rfl, rfl⟩ ?_
  refine r_aload rfl rfl ?_
  refine r_const rfl (gcst 0) ?_
  refine r_putI (c := 8) (k := 15) rfl rfl ⟨rfl, rfl⟩ ?_
  refine r_aload rfl rfl ?_
  refine r_const rfl (gcst 0) ?_
  refine r_putI (c := 8) (k := 16) rfl rfl ⟨rfl, rfl⟩ ?_
  refine r_aload rfl rfl ?_
  refine r_const rfl (gcst 0) ?_
  refine r_putI (c := 8) (k := 17) rfl rfl ⟨rfl, rfl⟩ ?_
  refine r_aload rfl rfl ?_
  refine r_getI (c := 8) (k := 20) rfl rfl ⟨rfl, rfl⟩ ?_
  refine r_if_eq 27 rfl rfl (fun c22 => ?_) (fun c22 => ?_)
  · rw [if_pos c22] at hr
    refine gforget (ls := [.null]) ⟨(Or.inr (Or.inr ⟨rfl, _, rfl⟩)), trivial⟩ ?_
    exact t_X8_readText_27  hr hQ
  · rw [if_neg c22] at hr
    refine r_aload rfl rfl ?_
    refine r_getR (c := 8) (k := 19) (v := 68) rfl rfl ⟨rfl, rfl⟩ rfl ?_
    refine r_const rfl (gcst 0) ?_
    refine r_iaload (n := 60) rfl rfl (vp_in_nI (n := 0) (N := 60) (by decide) (by decide)) ?_
    refine r_const rfl (gcst 67) ?_
    refine r_icmp_eq 29 rfl rfl (fun c23 => ?_) (fun c23 => ?_)
    · rw [if_pos c23] at hr
      refine r_aload rfl rfl ?_
      refine r_const rfl (gcst 1) ?_
      refine r_putI (c := 8) (k := 21) rfl rfl ⟨rfl, rfl⟩ ?_
      refine r_aload rfl rfl ?_
      refine r_aload rfl rfl ?_
      refine r_const rfl (gcst 0) ?_
      refine r_const rfl (gcst 1) ?_
      obtain ⟨z24, hz24, hr⟩ := gbnd hr
      refine r_invv (a := 57) [.int (nI 0), .int (nI 1)] rfl rfl rfl rfl rfl (Nat.le_of_ble_eq_true rfl) ⟨rfl, rfl⟩ ?_
      refine s_X8_figure  hz24 ?_
      show gW _ _ _ _ _ 37 [.ref 57] [.int z24.1, .ref 57] (gKn n, gRf f g, z24.2.1, z24.2.2) _
      refine r_putI (c := 8) (k := 18) rfl rfl ⟨rfl, rfl⟩ ?_
      exact t_X8_readText_38  hr hQ
    · rw [if_neg c23] at hr
      refine gforget (ls := [.null]) ⟨(Or.inr (Or.inr ⟨rfl, _, rfl⟩)), trivial⟩ ?_
      exact t_X8_readText_27  hr hQ
def r_X8_fault (I : Nat → Nat → Int32) (L : Nat → Nat → Int64)  : Option gRs := ((r_X8_readText I L).bind (fun z2 => some (z2.1, z2.2.1, z2.2.2)))
set_option maxHeartbeats 4000000 in
set_option maxRecDepth 100000 in
theorem s_X8_fault {n f g d : Nat} {Q : gP} {I : Nat → Nat → Int32} {L : Nat → Nat → Int64}  {z : gRs}  (hr : r_X8_fault I L  = some z) (hQ : Q (some (.int z.1)) (gKn n, gRf f g, z.2.1, z.2.2)) : gR gM (d + 4) 115 [.ref 57] (gKn n, gRf f g, I, L) Q := by
  unfold r_X8_fault at hr
  show gW gM (d + 4) 0 0 k_X8_fault 0 [.ref 57] [] (gKn n, gRf f g, I, L) Q
  refine r_aload rfl rfl ?_
  obtain ⟨z2, hz2, hr⟩ := gbnd hr
  refine r_invv (a := 57) [] rfl rfl rfl rfl rfl (Nat.le_of_ble_eq_true rfl) ⟨rfl, rfl⟩ ?_
  refine s_X8_readText  hz2 ?_
  show gW _ _ _ _ _ 2 [.ref 57] [.int z2.1] (gKn n, gRf f g, z2.2.1, z2.2.2) _
  refine r_iret rfl ?_
  cases hr
  exact hQ
def r_X8_fen_117   : Nat → Int32 → (Nat → Nat → Int32) → (Nat → Nat → Int64) → Option gRs
  | 0, _, _, _ => none
  | m + 1, v1, I, L => (if (nI 8) ≤ v1 then some ((((((nI 1000) * ((gu2 (gu2 (gu2 I 57 25 (nI 0)) 74 (gx (nI 0)) (nI 0)) 74 (gx (nI 1)) (nI 0)) 57 0)) + ((nI 100) * ((gu2 (gu2 (gu2 I 57 25 (nI 0)) 74 (gx (nI 0)) (nI 0)) 74 (gx (nI 1)) (nI 0)) 57 1))) + ((nI 10) * ((gu2 (gu2 (gu2 I 57 25 (nI 0)) 74 (gx (nI 0)) (nI 0)) 74 (gx (nI 1)) (nI 0)) 57 2))) + ((gu2 (gu2 (gu2 I 57 25 (nI 0)) 74 (gx (nI 0)) (nI 0)) 74 (gx (nI 1)) (nI 0)) 57 3)), (gu2 (gu2 (gu2 I 57 25 (nI 0)) 74 (gx (nI 0)) (nI 0)) 74 (gx (nI 1)) (nI 0)), L) else (if gvp v1 8 = true then (if gvp v1 8 = true then (r_X8_fen_117  m (v1 + (nI 1)) (gu2 I 62 (gx v1) (I 67 (gx v1))) L) else none) else none))
set_option maxHeartbeats 4000000 in
set_option maxRecDepth 100000 in
theorem t_X8_fen_117 {n f g d : Nat} {Q : gP} {z : gRs}    : ∀ {m : Nat} {v1 : Int32} {I : Nat → Nat → Int32} {L : Nat → Nat → Int64}, r_X8_fen_117 m v1 I L = some z → Q (some (.int z.1)) (gKn n, gRf f g, z.2.1, z.2.2) → gW gM (d + 4) 0 0 k_X8_fen 117 [.ref 57, .int v1] [] (gKn n, gRf f g, I, L) Q := by
  intro m
  induction m with
  | zero =>
    intro v1 I L hr _
    cases hr
  | succ m ih =>
    intro v1 I L hr hQ
    have hK117 : ∀ v1 I L, r_X8_fen_117 m v1 I L = some z → gW gM (d + 4) 0 0 k_X8_fen 117 [.ref 57, .int v1] [] (gKn n, gRf f g, I, L) Q := fun v1 I L hr => ih hr hQ
    unfold r_X8_fen_117 at hr
    refine r_iload rfl rfl ?_
    refine r_const rfl (gcst 8) ?_
    refine r_icmp_ge 130 rfl rfl (fun c21 => ?_) (fun c21 => ?_)
    · rw [if_pos c21] at hr
      refine r_aload rfl rfl ?_
      refine r_const rfl (gcst 0) ?_
      refine r_putI (c := 8) (k := 25) rfl rfl ⟨rfl, rfl⟩ ?_
      refine r_aload rfl rfl ?_
      refine r_getR (c := 8) (k := 34) (v := 74) rfl rfl ⟨rfl, rfl⟩ rfl ?_
      refine r_const rfl (gcst 0) ?_
      refine r_const rfl (gcst 0) ?_
      refine r_bastore (n := 2) rfl rfl (vp_in_nI (n := 0) (N := 2) (by decide) (by decide)) (Or.inl rfl) ?_
      refine r_aload rfl rfl ?_
      refine r_getR (c := 8) (k := 34) (v := 74) rfl rfl ⟨rfl, rfl⟩ rfl ?_
      refine r_const rfl (gcst 1) ?_
      refine r_const rfl (gcst 0) ?_
      refine r_bastore (n := 2) rfl rfl (vp_in_nI (n := 1) (N := 2) (by decide) (by decide)) (Or.inl rfl) ?_
      refine r_const rfl (gcst 1000) ?_
      refine r_aload rfl rfl ?_
      refine r_getI (c := 8) (k := 0) rfl rfl ⟨rfl, rfl⟩ ?_
      refine r_imul rfl ?_
      refine r_const rfl (gcst 100) ?_
      refine r_aload rfl rfl ?_
      refine r_getI (c := 8) (k := 1) rfl rfl ⟨rfl, rfl⟩ ?_
      refine r_imul rfl ?_
      refine r_iadd rfl ?_
      refine r_const rfl (gcst 10) ?_
      refine r_aload rfl rfl ?_
      refine r_getI (c := 8) (k := 2) rfl rfl ⟨rfl, rfl⟩ ?_
      refine r_imul rfl ?_
      refine r_iadd rfl ?_
      refine r_aload rfl rfl ?_
      refine r_getI (c := 8) (k := 3) rfl rfl ⟨rfl, rfl⟩ ?_
      refine r_iadd rfl ?_
      refine r_iret rfl ?_
      cases hr
      exact hQ
    · rw [if_neg c21] at hr
      refine r_aload rfl rfl ?_
      refine r_getR (c := 8) (k := 8) (v := 62) rfl rfl ⟨rfl, rfl⟩ rfl ?_
      refine r_iload rfl rfl ?_
      refine r_aload rfl rfl ?_
      refine r_getR (c := 8) (k := 13) (v := 67) rfl rfl ⟨rfl, rfl⟩ rfl ?_
      refine r_iload rfl rfl ?_
      obtain ⟨b22, hr⟩ := gopt hr
      refine r_iaload (n := 8) rfl rfl (gvp_in b22) ?_
      obtain ⟨b23, hr⟩ := gopt hr
      refine r_iastore (n := 8) rfl rfl (gvp_in b23) (by decide) ?_
      refine r_iinc (y := (v1 + (nI 1))) [.ref 57, .int (v1 + (nI 1))] rfl rfl rfl (ginc _ 1) rfl ?_
      refine r_goto 117 rfl rfl ?_
      exact hK117 _ _ _ hr
def r_X8_fen_87   : Nat → Int32 → (Nat → Nat → Int32) → (Nat → Nat → Int64) → Option gRs
  | 0, _, _, _ => none
  | m + 1, v1, I, L => (if (I 57 2) ≤ v1 then (r_X8_fen_117 100 (nI 0) I L) else (if gvp ((nI 2) * v1) 10 = true then (if gvp v1 5 = true then (if gvp (((nI 2) * v1) + (nI 1)) 10 = true then (if gvp v1 5 = true then (r_X8_fen_87  m (v1 + (nI 1)) (gu2 (gu2 I 60 (gx v1) (I 66 (gx ((nI 2) * v1)))) 61 (gx v1) ((gu2 I 60 (gx v1) (I 66 (gx ((nI 2) * v1)))) 66 (gx (((nI 2) * v1) + (nI 1))))) L) else none) else none) else none) else none))
set_option maxHeartbeats 4000000 in
set_option maxRecDepth 100000 in
theorem t_X8_fen_87 {n f g d : Nat} {Q : gP} {z : gRs}    : ∀ {m : Nat} {v1 : Int32} {I : Nat → Nat → Int32} {L : Nat → Nat → Int64}, r_X8_fen_87 m v1 I L = some z → Q (some (.int z.1)) (gKn n, gRf f g, z.2.1, z.2.2) → gW gM (d + 4) 0 0 k_X8_fen 87 [.ref 57, .int v1] [] (gKn n, gRf f g, I, L) Q := by
  intro m
  induction m with
  | zero =>
    intro v1 I L hr _
    cases hr
  | succ m ih =>
    intro v1 I L hr hQ
    have hK87 : ∀ v1 I L, r_X8_fen_87 m v1 I L = some z → gW gM (d + 4) 0 0 k_X8_fen 87 [.ref 57, .int v1] [] (gKn n, gRf f g, I, L) Q := fun v1 I L hr => ih hr hQ
    unfold r_X8_fen_87 at hr
    refine r_iload rfl rfl ?_
    refine r_aload rfl rfl ?_
    refine r_getI (c := 8) (k := 2) rfl rfl ⟨rfl, rfl⟩ ?_
    refine r_icmp_ge 115 rfl rfl (fun c24 => ?_) (fun c24 => ?_)
    · rw [if_pos c24] at hr
      refine r_const rfl (gcst 0) ?_
      refine r_istore [.ref 57, .int (nI 0)] rfl rfl (Nat.le_of_ble_eq_true rfl) rfl ?_
      exact t_X8_fen_117  hr hQ
    · rw [if_neg c24] at hr
      refine r_aload rfl rfl ?_
      refine r_getR (c := 8) (k := 6) (v := 60) rfl rfl ⟨rfl, rfl⟩ rfl ?_
      refine r_iload rfl rfl ?_
      refine r_aload rfl rfl ?_
      refine r_getR (c := 8) (k := 12) (v := 66) rfl rfl ⟨rfl, rfl⟩ rfl ?_
      refine r_const rfl (gcst 2) ?_
      refine r_iload rfl rfl ?_
      refine r_imul rfl ?_
      obtain ⟨b25, hr⟩ := gopt hr
      refine r_iaload (n := 10) rfl rfl (gvp_in b25) ?_
      obtain ⟨b26, hr⟩ := gopt hr
      refine r_iastore (n := 5) rfl rfl (gvp_in b26) (by decide) ?_
      refine r_aload rfl rfl ?_
      refine r_getR (c := 8) (k := 7) (v := 61) rfl rfl ⟨rfl, rfl⟩ rfl ?_
      refine r_iload rfl rfl ?_
      refine r_aload rfl rfl ?_
      refine r_getR (c := 8) (k := 12) (v := 66) rfl rfl ⟨rfl, rfl⟩ rfl ?_
      refine r_const rfl (gcst 2) ?_
      refine r_iload rfl rfl ?_
      refine r_imul rfl ?_
      refine r_const rfl (gcst 1) ?_
      refine r_iadd rfl ?_
      obtain ⟨b27, hr⟩ := gopt hr
      refine r_iaload (n := 10) rfl rfl (gvp_in b27) ?_
      obtain ⟨b28, hr⟩ := gopt hr
      refine r_iastore (n := 5) rfl rfl (gvp_in b28) (by decide) ?_
      refine r_iinc (y := (v1 + (nI 1))) [.ref 57, .int (v1 + (nI 1))] rfl rfl rfl (ginc _ 1) rfl ?_
      refine r_goto 87 rfl rfl ?_
      exact hK87 _ _ _ hr
def r_X8_fen_72   : Nat → Int32 → (Nat → Nat → Int32) → (Nat → Nat → Int64) → Option gRs
  | 0, _, _, _ => none
  | m + 1, v1, I, L => (if (nI 9) ≤ v1 then (r_X8_fen_87 100 (nI 0) I L) else (if gvp v1 9 = true then (if gvp v1 9 = true then (r_X8_fen_72  m (v1 + (nI 1)) (gu2 I 59 (gx v1) (I 65 (gx v1))) L) else none) else none))
set_option maxHeartbeats 4000000 in
set_option maxRecDepth 100000 in
theorem t_X8_fen_72 {n f g d : Nat} {Q : gP} {z : gRs}    : ∀ {m : Nat} {v1 : Int32} {I : Nat → Nat → Int32} {L : Nat → Nat → Int64}, r_X8_fen_72 m v1 I L = some z → Q (some (.int z.1)) (gKn n, gRf f g, z.2.1, z.2.2) → gW gM (d + 4) 0 0 k_X8_fen 72 [.ref 57, .int v1] [] (gKn n, gRf f g, I, L) Q := by
  intro m
  induction m with
  | zero =>
    intro v1 I L hr _
    cases hr
  | succ m ih =>
    intro v1 I L hr hQ
    have hK72 : ∀ v1 I L, r_X8_fen_72 m v1 I L = some z → gW gM (d + 4) 0 0 k_X8_fen 72 [.ref 57, .int v1] [] (gKn n, gRf f g, I, L) Q := fun v1 I L hr => ih hr hQ
    unfold r_X8_fen_72 at hr
    refine r_iload rfl rfl ?_
    refine r_const rfl (gcst 9) ?_
    refine r_icmp_ge 85 rfl rfl (fun c29 => ?_) (fun c29 => ?_)
    · rw [if_pos c29] at hr
      refine r_const rfl (gcst 0) ?_
      refine r_istore [.ref 57, .int (nI 0)] rfl rfl (Nat.le_of_ble_eq_true rfl) rfl ?_
      exact t_X8_fen_87  hr hQ
    · rw [if_neg c29] at hr
      refine r_aload rfl rfl ?_
      refine r_getR (c := 8) (k := 5) (v := 59) rfl rfl ⟨rfl, rfl⟩ rfl ?_
      refine r_iload rfl rfl ?_
      refine r_aload rfl rfl ?_
      refine r_getR (c := 8) (k := 11) (v := 65) rfl rfl ⟨rfl, rfl⟩ rfl ?_
      refine r_iload rfl rfl ?_
      obtain ⟨b30, hr⟩ := gopt hr
      refine r_iaload (n := 9) rfl rfl (gvp_in b30) ?_
      obtain ⟨b31, hr⟩ := gopt hr
      refine r_iastore (n := 9) rfl rfl (gvp_in b31) (by decide) ?_
      refine r_iinc (y := (v1 + (nI 1))) [.ref 57, .int (v1 + (nI 1))] rfl rfl rfl (ginc _ 1) rfl ?_
      refine r_goto 72 rfl rfl ?_
      exact hK72 _ _ _ hr
def r_X8_fen_42   : Nat → Int32 → (Nat → Nat → Int32) → (Nat → Nat → Int64) → Option gRs
  | 0, _, _, _ => none
  | m + 1, v1, I, L => (if (I 57 0) ≤ v1 then (r_X8_fen_72 100 (nI 0) I L) else (if gvp ((nI 2) * v1) 10 = true then (if gvp v1 54 = true then (if gvp (((nI 2) * v1) + (nI 1)) 10 = true then (if gvp v1 5 = true then (r_X8_fen_42  m (v1 + (nI 1)) (gu2 (gu2 I 63 (gx v1) (I 64 (gx ((nI 2) * v1)))) 58 (gx v1) ((gu2 I 63 (gx v1) (I 64 (gx ((nI 2) * v1)))) 64 (gx (((nI 2) * v1) + (nI 1))))) L) else none) else none) else none) else none))
set_option maxHeartbeats 4000000 in
set_option maxRecDepth 100000 in
theorem t_X8_fen_42 {n f g d : Nat} {Q : gP} {z : gRs}    : ∀ {m : Nat} {v1 : Int32} {I : Nat → Nat → Int32} {L : Nat → Nat → Int64}, r_X8_fen_42 m v1 I L = some z → Q (some (.int z.1)) (gKn n, gRf f g, z.2.1, z.2.2) → gW gM (d + 4) 0 0 k_X8_fen 42 [.ref 57, .int v1] [] (gKn n, gRf f g, I, L) Q := by
  intro m
  induction m with
  | zero =>
    intro v1 I L hr _
    cases hr
  | succ m ih =>
    intro v1 I L hr hQ
    have hK42 : ∀ v1 I L, r_X8_fen_42 m v1 I L = some z → gW gM (d + 4) 0 0 k_X8_fen 42 [.ref 57, .int v1] [] (gKn n, gRf f g, I, L) Q := fun v1 I L hr => ih hr hQ
    unfold r_X8_fen_42 at hr
    refine r_iload rfl rfl ?_
    refine r_aload rfl rfl ?_
    refine r_getI (c := 8) (k := 0) rfl rfl ⟨rfl, rfl⟩ ?_
    refine r_icmp_ge 70 rfl rfl (fun c32 => ?_) (fun c32 => ?_)
    · rw [if_pos c32] at hr
      refine r_const rfl (gcst 0) ?_
      refine r_istore [.ref 57, .int (nI 0)] rfl rfl (Nat.le_of_ble_eq_true rfl) rfl ?_
      exact t_X8_fen_72  hr hQ
    · rw [if_neg c32] at hr
      refine r_aload rfl rfl ?_
      refine r_getR (c := 8) (k := 9) (v := 63) rfl rfl ⟨rfl, rfl⟩ rfl ?_
      refine r_iload rfl rfl ?_
      refine r_aload rfl rfl ?_
      refine r_getR (c := 8) (k := 10) (v := 64) rfl rfl ⟨rfl, rfl⟩ rfl ?_
      refine r_const rfl (gcst 2) ?_
      refine r_iload rfl rfl ?_
      refine r_imul rfl ?_
      obtain ⟨b33, hr⟩ := gopt hr
      refine r_iaload (n := 10) rfl rfl (gvp_in b33) ?_
      obtain ⟨b34, hr⟩ := gopt hr
      refine r_iastore (n := 54) rfl rfl (gvp_in b34) (by decide) ?_
      refine r_aload rfl rfl ?_
      refine r_getR (c := 8) (k := 4) (v := 58) rfl rfl ⟨rfl, rfl⟩ rfl ?_
      refine r_iload rfl rfl ?_
      refine r_aload rfl rfl ?_
      refine r_getR (c := 8) (k := 10) (v := 64) rfl rfl ⟨rfl, rfl⟩ rfl ?_
      refine r_const rfl (gcst 2) ?_
      refine r_iload rfl rfl ?_
      refine r_imul rfl ?_
      refine r_const rfl (gcst 1) ?_
      refine r_iadd rfl ?_
      obtain ⟨b35, hr⟩ := gopt hr
      refine r_iaload (n := 10) rfl rfl (gvp_in b35) ?_
      obtain ⟨b36, hr⟩ := gopt hr
      refine r_iastore (n := 5) rfl rfl (gvp_in b36) (by decide) ?_
      refine r_iinc (y := (v1 + (nI 1))) [.ref 57, .int (v1 + (nI 1))] rfl rfl rfl (ginc _ 1) rfl ?_
      refine r_goto 42 rfl rfl ?_
      exact hK42 _ _ _ hr
def r_X8_fen_24   : Nat → Int32 → (Nat → Nat → Int32) → (Nat → Nat → Int64) → Option gRs
  | 0, _, _, _ => none
  | m + 1, v1, I, L => (if (nI 27) ≤ v1 then (r_X8_fen_42 100 (nI 0) (gu2 I 63 (gx (nI 13)) (I 57 18)) L) else (if gvp v1 54 = true then (r_X8_fen_24  m (v1 + (nI 1)) (gu2 I 63 (gx v1) (nI 0)) L) else none))
set_option maxHeartbeats 4000000 in
set_option maxRecDepth 100000 in
theorem t_X8_fen_24 {n f g d : Nat} {Q : gP} {z : gRs}    : ∀ {m : Nat} {v1 : Int32} {I : Nat → Nat → Int32} {L : Nat → Nat → Int64}, r_X8_fen_24 m v1 I L = some z → Q (some (.int z.1)) (gKn n, gRf f g, z.2.1, z.2.2) → gW gM (d + 4) 0 0 k_X8_fen 24 [.ref 57, .int v1] [] (gKn n, gRf f g, I, L) Q := by
  intro m
  induction m with
  | zero =>
    intro v1 I L hr _
    cases hr
  | succ m ih =>
    intro v1 I L hr hQ
    have hK24 : ∀ v1 I L, r_X8_fen_24 m v1 I L = some z → gW gM (d + 4) 0 0 k_X8_fen 24 [.ref 57, .int v1] [] (gKn n, gRf f g, I, L) Q := fun v1 I L hr => ih hr hQ
    unfold r_X8_fen_24 at hr
    refine r_iload rfl rfl ?_
    refine r_const rfl (gcst 27) ?_
    refine r_icmp_ge 34 rfl rfl (fun c37 => ?_) (fun c37 => ?_)
    · rw [if_pos c37] at hr
      refine r_aload rfl rfl ?_
      refine r_getR (c := 8) (k := 9) (v := 63) rfl rfl ⟨rfl, rfl⟩ rfl ?_
      refine r_const rfl (gcst 13) ?_
      refine r_aload rfl rfl ?_
      refine r_getI (c := 8) (k := 18) rfl rfl ⟨rfl, rfl⟩ ?_
      refine r_iastore (n := 54) rfl rfl (vp_in_nI (n := 13) (N := 54) (by decide) (by decide)) (by decide) ?_
      refine r_const rfl (gcst 0) ?_
      refine r_istore [.ref 57, .int (nI 0)] rfl rfl (Nat.le_of_ble_eq_true rfl) rfl ?_
      exact t_X8_fen_42  hr hQ
    · rw [if_neg c37] at hr
      refine r_aload rfl rfl ?_
      refine r_getR (c := 8) (k := 9) (v := 63) rfl rfl ⟨rfl, rfl⟩ rfl ?_
      refine r_iload rfl rfl ?_
      refine r_const rfl (gcst 0) ?_
      obtain ⟨b38, hr⟩ := gopt hr
      refine r_iastore (n := 54) rfl rfl (gvp_in b38) (by decide) ?_
      refine r_iinc (y := (v1 + (nI 1))) [.ref 57, .int (v1 + (nI 1))] rfl rfl rfl (ginc _ 1) rfl ?_
      refine r_goto 24 rfl rfl ?_
      exact hK24 _ _ _ hr
def r_X8_fen (I : Nat → Nat → Int32) (L : Nat → Nat → Int64)  : Option gRs := ((r_X8_readText I L).bind (fun z39 => (if z39.1 = (-9 : Int32) then (r_X8_fen_24 100 (nI 0) (gu2 (gu2 (gu2 (gu2 z39.2.1 57 0 (z39.2.1 57 14)) 57 1 ((gu2 z39.2.1 57 0 (z39.2.1 57 14)) 57 15)) 57 2 ((gu2 (gu2 z39.2.1 57 0 (z39.2.1 57 14)) 57 1 ((gu2 z39.2.1 57 0 (z39.2.1 57 14)) 57 15)) 57 16)) 57 3 ((gu2 (gu2 (gu2 z39.2.1 57 0 (z39.2.1 57 14)) 57 1 ((gu2 z39.2.1 57 0 (z39.2.1 57 14)) 57 15)) 57 2 ((gu2 (gu2 z39.2.1 57 0 (z39.2.1 57 14)) 57 1 ((gu2 z39.2.1 57 0 (z39.2.1 57 14)) 57 15)) 57 16)) 57 17)) z39.2.2) else some ((-3 : Int32), z39.2.1, z39.2.2))))
set_option maxHeartbeats 4000000 in
set_option maxRecDepth 100000 in
theorem s_X8_fen {n f g d : Nat} {Q : gP} {I : Nat → Nat → Int32} {L : Nat → Nat → Int64}  {z : gRs}  (hr : r_X8_fen I L  = some z) (hQ : Q (some (.int z.1)) (gKn n, gRf f g, z.2.1, z.2.2)) : gR gM (d + 4) 116 [.ref 57] (gKn n, gRf f g, I, L) Q := by
  unfold r_X8_fen at hr
  show gW gM (d + 4) 0 0 k_X8_fen 0 [.ref 57, .null] [] (gKn n, gRf f g, I, L) Q
  refine r_aload rfl rfl ?_
  obtain ⟨z39, hz39, hr⟩ := gbnd hr
  refine r_invv (a := 57) [] rfl rfl rfl rfl rfl (Nat.le_of_ble_eq_true rfl) ⟨rfl, rfl⟩ ?_
  refine s_X8_readText  hz39 ?_
  show gW _ _ _ _ _ 2 [.ref 57, .null] [.int z39.1] (gKn n, gRf f g, z39.2.1, z39.2.2) _
  refine r_const rfl (v := -9) (by decide) ?_
  refine r_icmp_eq 6 rfl rfl (fun c40 => ?_) (fun c40 => ?_)
  · rw [if_pos c40] at hr
    refine r_aload rfl rfl ?_
    refine r_aload rfl rfl ?_
    refine r_getI (c := 8) (k := 14) rfl rfl ⟨rfl, rfl⟩ ?_
    refine r_putI (c := 8) (k := 0) rfl rfl ⟨rfl, rfl⟩ ?_
    refine r_aload rfl rfl ?_
    refine r_aload rfl rfl ?_
    refine r_getI (c := 8) (k := 15) rfl rfl ⟨rfl, rfl⟩ ?_
    refine r_putI (c := 8) (k := 1) rfl rfl ⟨rfl, rfl⟩ ?_
    refine r_aload rfl rfl ?_
    refine r_aload rfl rfl ?_
    refine r_getI (c := 8) (k := 16) rfl rfl ⟨rfl, rfl⟩ ?_
    refine r_putI (c := 8) (k := 2) rfl rfl ⟨rfl, rfl⟩ ?_
    refine r_aload rfl rfl ?_
    refine r_aload rfl rfl ?_
    refine r_getI (c := 8) (k := 17) rfl rfl ⟨rfl, rfl⟩ ?_
    refine r_putI (c := 8) (k := 3) rfl rfl ⟨rfl, rfl⟩ ?_
    refine r_const rfl (gcst 0) ?_
    refine r_istore [.ref 57, .int (nI 0)] rfl rfl (Nat.le_of_ble_eq_true rfl) rfl ?_
    exact t_X8_fen_24  hr hQ
  · rw [if_neg c40] at hr
    refine r_const rfl (v := -3) (by decide) ?_
    refine r_iret rfl ?_
    cases hr
    exact hQ
def r_X8_isGate (I : Nat → Nat → Int32) (L : Nat → Nat → Int64) (a1 : Int32) : Option gRs := (if ((f_X8_in I L (Int32.toInt64 a1) (lN 0) (Int32.toInt64 ((I 57 0) - (nI 1)))) = 0 ∨ (f_X8_in I L (Int32.toInt64 a1) (lN 0) (Int32.toInt64 ((I 57 0) - (nI 1)))) = 1) then some ((f_X8_in I L (Int32.toInt64 a1) (lN 0) (Int32.toInt64 ((I 57 0) - (nI 1)))), I, L) else none)
set_option maxHeartbeats 4000000 in
set_option maxRecDepth 100000 in
theorem s_X8_isGate {n f g d : Nat} {Q : gP} {I : Nat → Nat → Int32} {L : Nat → Nat → Int64} {a1 : Int32} {z : gRs}  (hr : r_X8_isGate I L a1 = some z) (hQ : Q (some (.int z.1)) (gKn n, gRf f g, z.2.1, z.2.2)) : gR gM (d + 1) 117 [.ref 57, .int a1] (gKn n, gRf f g, I, L) Q := by
  unfold r_X8_isGate at hr
  show gW gM (d + 1) 0 0 k_X8_isGate 0 [.ref 57, .int a1] [] (gKn n, gRf f g, I, L) Q
  refine r_iload rfl rfl ?_
  refine r_i2l rfl ?_
  refine r_lconst (v := lN 0) rfl rfl ?_
  refine r_aload rfl rfl ?_
  refine r_getI (c := 8) (k := 0) rfl rfl ⟨rfl, rfl⟩ ?_
  refine r_const rfl (gcst 1) ?_
  refine r_isub rfl ?_
  refine r_i2l rfl ?_
  refine r_invs [.long (Int32.toInt64 a1), .long (lN 0), .long (Int32.toInt64 ((I 57 0) - (nI 1)))] rfl rfl rfl rfl (Nat.le_of_ble_eq_true rfl) ⟨rfl, rfl⟩ ?_
  refine s_X8_in  ?_
  show gW _ _ _ _ _ 9 [.ref 57, .int a1] [.int (f_X8_in I L (Int32.toInt64 a1) (lN 0) (Int32.toInt64 ((I 57 0) - (nI 1))))] (gKn n, gRf f g, I, L) _
  obtain ⟨b2, hr⟩ := gopt hr
  refine r_zret rfl b2 ?_
  cases hr
  exact hQ
def r_X8_isLane (I : Nat → Nat → Int32) (L : Nat → Nat → Int64) (a1 : Int32) : Option gRs := (if ((f_X8_in I L (Int32.toInt64 a1) (lN 0) (Int32.toInt64 ((I 57 1) - (nI 1)))) = 0 ∨ (f_X8_in I L (Int32.toInt64 a1) (lN 0) (Int32.toInt64 ((I 57 1) - (nI 1)))) = 1) then some ((f_X8_in I L (Int32.toInt64 a1) (lN 0) (Int32.toInt64 ((I 57 1) - (nI 1)))), I, L) else none)
set_option maxHeartbeats 4000000 in
set_option maxRecDepth 100000 in
theorem s_X8_isLane {n f g d : Nat} {Q : gP} {I : Nat → Nat → Int32} {L : Nat → Nat → Int64} {a1 : Int32} {z : gRs}  (hr : r_X8_isLane I L a1 = some z) (hQ : Q (some (.int z.1)) (gKn n, gRf f g, z.2.1, z.2.2)) : gR gM (d + 1) 118 [.ref 57, .int a1] (gKn n, gRf f g, I, L) Q := by
  unfold r_X8_isLane at hr
  show gW gM (d + 1) 0 0 k_X8_isLane 0 [.ref 57, .int a1] [] (gKn n, gRf f g, I, L) Q
  refine r_iload rfl rfl ?_
  refine r_i2l rfl ?_
  refine r_lconst (v := lN 0) rfl rfl ?_
  refine r_aload rfl rfl ?_
  refine r_getI (c := 8) (k := 1) rfl rfl ⟨rfl, rfl⟩ ?_
  refine r_const rfl (gcst 1) ?_
  refine r_isub rfl ?_
  refine r_i2l rfl ?_
  refine r_invs [.long (Int32.toInt64 a1), .long (lN 0), .long (Int32.toInt64 ((I 57 1) - (nI 1)))] rfl rfl rfl rfl (Nat.le_of_ble_eq_true rfl) ⟨rfl, rfl⟩ ?_
  refine s_X8_in  ?_
  show gW _ _ _ _ _ 9 [.ref 57, .int a1] [.int (f_X8_in I L (Int32.toInt64 a1) (lN 0) (Int32.toInt64 ((I 57 1) - (nI 1))))] (gKn n, gRf f g, I, L) _
  obtain ⟨b2, hr⟩ := gopt hr
  refine r_zret rfl b2 ?_
  cases hr
  exact hQ
def r_X8_isBeast (I : Nat → Nat → Int32) (L : Nat → Nat → Int64) (a1 : Int32) : Option gRs := (if ((f_X8_in I L (Int32.toInt64 a1) (lN 0) (Int32.toInt64 ((I 57 2) - (nI 1)))) = 0 ∨ (f_X8_in I L (Int32.toInt64 a1) (lN 0) (Int32.toInt64 ((I 57 2) - (nI 1)))) = 1) then some ((f_X8_in I L (Int32.toInt64 a1) (lN 0) (Int32.toInt64 ((I 57 2) - (nI 1)))), I, L) else none)
set_option maxHeartbeats 4000000 in
set_option maxRecDepth 100000 in
theorem s_X8_isBeast {n f g d : Nat} {Q : gP} {I : Nat → Nat → Int32} {L : Nat → Nat → Int64} {a1 : Int32} {z : gRs}  (hr : r_X8_isBeast I L a1 = some z) (hQ : Q (some (.int z.1)) (gKn n, gRf f g, z.2.1, z.2.2)) : gR gM (d + 1) 119 [.ref 57, .int a1] (gKn n, gRf f g, I, L) Q := by
  unfold r_X8_isBeast at hr
  show gW gM (d + 1) 0 0 k_X8_isBeast 0 [.ref 57, .int a1] [] (gKn n, gRf f g, I, L) Q
  refine r_iload rfl rfl ?_
  refine r_i2l rfl ?_
  refine r_lconst (v := lN 0) rfl rfl ?_
  refine r_aload rfl rfl ?_
  refine r_getI (c := 8) (k := 2) rfl rfl ⟨rfl, rfl⟩ ?_
  refine r_const rfl (gcst 1) ?_
  refine r_isub rfl ?_
  refine r_i2l rfl ?_
  refine r_invs [.long (Int32.toInt64 a1), .long (lN 0), .long (Int32.toInt64 ((I 57 2) - (nI 1)))] rfl rfl rfl rfl (Nat.le_of_ble_eq_true rfl) ⟨rfl, rfl⟩ ?_
  refine s_X8_in  ?_
  show gW _ _ _ _ _ 9 [.ref 57, .int a1] [.int (f_X8_in I L (Int32.toInt64 a1) (lN 0) (Int32.toInt64 ((I 57 2) - (nI 1))))] (gKn n, gRf f g, I, L) _
  obtain ⟨b2, hr⟩ := gopt hr
  refine r_zret rfl b2 ?_
  cases hr
  exact hQ
def r_X8_isVerse (I : Nat → Nat → Int32) (L : Nat → Nat → Int64) (a1 : Int32) : Option gRs := (if ((f_X8_in I L (Int32.toInt64 a1) (lN 0) (Int32.toInt64 ((I 57 3) - (nI 1)))) = 0 ∨ (f_X8_in I L (Int32.toInt64 a1) (lN 0) (Int32.toInt64 ((I 57 3) - (nI 1)))) = 1) then some ((f_X8_in I L (Int32.toInt64 a1) (lN 0) (Int32.toInt64 ((I 57 3) - (nI 1)))), I, L) else none)
set_option maxHeartbeats 4000000 in
set_option maxRecDepth 100000 in
theorem s_X8_isVerse {n f g d : Nat} {Q : gP} {I : Nat → Nat → Int32} {L : Nat → Nat → Int64} {a1 : Int32} {z : gRs}  (hr : r_X8_isVerse I L a1 = some z) (hQ : Q (some (.int z.1)) (gKn n, gRf f g, z.2.1, z.2.2)) : gR gM (d + 1) 120 [.ref 57, .int a1] (gKn n, gRf f g, I, L) Q := by
  unfold r_X8_isVerse at hr
  show gW gM (d + 1) 0 0 k_X8_isVerse 0 [.ref 57, .int a1] [] (gKn n, gRf f g, I, L) Q
  refine r_iload rfl rfl ?_
  refine r_i2l rfl ?_
  refine r_lconst (v := lN 0) rfl rfl ?_
  refine r_aload rfl rfl ?_
  refine r_getI (c := 8) (k := 3) rfl rfl ⟨rfl, rfl⟩ ?_
  refine r_const rfl (gcst 1) ?_
  refine r_isub rfl ?_
  refine r_i2l rfl ?_
  refine r_invs [.long (Int32.toInt64 a1), .long (lN 0), .long (Int32.toInt64 ((I 57 3) - (nI 1)))] rfl rfl rfl rfl (Nat.le_of_ble_eq_true rfl) ⟨rfl, rfl⟩ ?_
  refine s_X8_in  ?_
  show gW _ _ _ _ _ 9 [.ref 57, .int a1] [.int (f_X8_in I L (Int32.toInt64 a1) (lN 0) (Int32.toInt64 ((I 57 3) - (nI 1))))] (gKn n, gRf f g, I, L) _
  obtain ⟨b2, hr⟩ := gopt hr
  refine r_zret rfl b2 ?_
  cases hr
  exact hQ
def r_X8_toneOf_80   (v3 : Int32) (s0 : Int32) (s1 : Int32) (I : Nat → Nat → Int32) (L : Nat → Nat → Int64) : Option gRs := some ((grem (((s0 - s1) - (if ¬ v3 = (nI 2) then (nI 0) else (nI 5))) + (nI 24)) (nI 12)), I, L)
set_option maxHeartbeats 4000000 in
set_option maxRecDepth 100000 in
theorem t_X8_toneOf_80 {n f g d : Nat} {Q : gP} {z : gRs}    {v3 : Int32} {s0 : Int32} {s1 : Int32} {I : Nat → Nat → Int32} {L : Nat → Nat → Int64} (hr : r_X8_toneOf_80 v3 s0 s1 I L = some z) (hQ : Q (some (.int z.1)) (gKn n, gRf f g, z.2.1, z.2.2)) : gW gM (d + 1) 0 0 k_X8_toneOf 80 [.null, .null, .null, .int v3, .null, .null, .null] [.int s1, .int s0] (gKn n, gRf f g, I, L) Q := by
  unfold r_X8_toneOf_80 at hr
  refine r_isub rfl ?_
  refine r_istore [.null, .null, .null, .int v3, .null, .null, .int (s0 - s1)] rfl rfl (Nat.le_of_ble_eq_true rfl) rfl ?_
  refine r_iload rfl rfl ?_
  refine r_iload rfl rfl ?_
  refine r_const rfl (gcst 2) ?_
  have j35 : gW gM (d + 1) 0 0 k_X8_toneOf 89 [.null, .null, .null, .int v3, .null, .null, .int (s0 - s1)] [.int (if ¬ v3 = (nI 2) then (nI 0) else (nI 5)), .int (s0 - s1)] (gKn n, gRf f g, I, L) Q := by
    refine r_isub rfl ?_
    refine r_istore [.null, .null, .null, .int v3, .null, .null, .int ((s0 - s1) - (if ¬ v3 = (nI 2) then (nI 0) else (nI 5)))] rfl rfl (Nat.le_of_ble_eq_true rfl) rfl ?_
    refine r_iload rfl rfl ?_
    refine r_const rfl (gcst 24) ?_
    refine r_iadd rfl ?_
    refine r_const rfl (gcst 12) ?_
    refine r_irem rfl (nI_ne0 (n := 12) (by decide) (by decide)) ?_
    refine r_iret rfl ?_
    cases hr
    exact hQ
  refine r_icmp_ne 88 rfl rfl (fun c34 => ?_) (fun c34 => ?_)
  · refine r_const rfl (gcst 0) ?_
    first | contradiction | simpa only [if_pos c34] using j35
  · refine r_const rfl (gcst 5) ?_
    refine r_goto 89 rfl rfl ?_
    first | contradiction | simpa only [if_neg c34] using j35
def r_X8_toneOf_31   (v2 : Int32) (v3 : Int32) (v4 : Int32) (v5 : Int32) (I : Nat → Nat → Int32) (L : Nat → Nat → Int64) : Option gRs := (if gvp (v5 + v2) 54 = true then (if gvp (v5 + (nI 13)) 54 = true then (if gvp v2 5 = true then (if ¬ (I 58 (gx v2)) = (nI 2) then (r_X8_toneOf_80 v3 (((I 63 (gx (v5 + v2))) + (if ¬ v3 = (nI 3) then (v4 / (nI 2)) else (v4 / (nI 4)))) + (if ¬ (I 63 (gx (v5 + (nI 13)))) = (nI 1) then (nI 0) else (nI 4))) (nI 0) I L) else (if gvp ((v5 + (nI 5)) + v2) 54 = true then (r_X8_toneOf_80 v3 (((I 63 (gx (v5 + v2))) + (if ¬ v3 = (nI 3) then (v4 / (nI 2)) else (v4 / (nI 4)))) + (if ¬ (I 63 (gx (v5 + (nI 13)))) = (nI 1) then (nI 0) else (nI 4))) (I 63 (gx ((v5 + (nI 5)) + v2))) I L) else none)) else none) else none) else none)
set_option maxHeartbeats 4000000 in
set_option maxRecDepth 100000 in
theorem t_X8_toneOf_31 {n f g d : Nat} {Q : gP} {z : gRs}    {v2 : Int32} {v3 : Int32} {v4 : Int32} {v5 : Int32} {I : Nat → Nat → Int32} {L : Nat → Nat → Int64} (hr : r_X8_toneOf_31 v2 v3 v4 v5 I L = some z) (hQ : Q (some (.int z.1)) (gKn n, gRf f g, z.2.1, z.2.2)) : gW gM (d + 1) 0 0 k_X8_toneOf 31 [.ref 57, .null, .int v2, .int v3, .int v4, .int v5, .null] [] (gKn n, gRf f g, I, L) Q := by
  unfold r_X8_toneOf_31 at hr
  refine r_aload rfl rfl ?_
  refine r_getR (c := 8) (k := 9) (v := 63) rfl rfl ⟨rfl, rfl⟩ rfl ?_
  refine r_iload rfl rfl ?_
  refine r_iload rfl rfl ?_
  refine r_iadd rfl ?_
  obtain ⟨b36, hr⟩ := gopt hr
  refine r_iaload (n := 54) rfl rfl (gvp_in b36) ?_
  refine r_iload rfl rfl ?_
  refine r_const rfl (gcst 3) ?_
  have j43 : gW gM (d + 1) 0 0 k_X8_toneOf 47 [.ref 57, .null, .int v2, .int v3, .int v4, .int v5, .null] [.int (if ¬ v3 = (nI 3) then (v4 / (nI 2)) else (v4 / (nI 4))), .int (I 63 (gx (v5 + v2)))] (gKn n, gRf f g, I, L) Q := by
    refine r_iadd rfl ?_
    refine r_istore [.ref 57, .null, .int v2, .int v3, .int v4, .int v5, .int ((I 63 (gx (v5 + v2))) + (if ¬ v3 = (nI 3) then (v4 / (nI 2)) else (v4 / (nI 4))))] rfl rfl (Nat.le_of_ble_eq_true rfl) rfl ?_
    refine r_iload rfl rfl ?_
    refine r_aload rfl rfl ?_
    refine r_getR (c := 8) (k := 9) (v := 63) rfl rfl ⟨rfl, rfl⟩ rfl ?_
    refine r_iload rfl rfl ?_
    refine r_const rfl (gcst 13) ?_
    refine r_iadd rfl ?_
    obtain ⟨b38, hr⟩ := gopt hr
    refine r_iaload (n := 54) rfl rfl (gvp_in b38) ?_
    refine r_const rfl (gcst 1) ?_
    have j44 : gW gM (d + 1) 0 0 k_X8_toneOf 61 [.ref 57, .null, .int v2, .int v3, .int v4, .int v5, .int ((I 63 (gx (v5 + v2))) + (if ¬ v3 = (nI 3) then (v4 / (nI 2)) else (v4 / (nI 4))))] [.int (if ¬ (I 63 (gx (v5 + (nI 13)))) = (nI 1) then (nI 0) else (nI 4)), .int ((I 63 (gx (v5 + v2))) + (if ¬ v3 = (nI 3) then (v4 / (nI 2)) else (v4 / (nI 4))))] (gKn n, gRf f g, I, L) Q := by
      refine r_iadd rfl ?_
      refine r_istore [.ref 57, .null, .int v2, .int v3, .int v4, .int v5, .int (((I 63 (gx (v5 + v2))) + (if ¬ v3 = (nI 3) then (v4 / (nI 2)) else (v4 / (nI 4)))) + (if ¬ (I 63 (gx (v5 + (nI 13)))) = (nI 1) then (nI 0) else (nI 4)))] rfl rfl (Nat.le_of_ble_eq_true rfl) rfl ?_
      refine r_iload rfl rfl ?_
      refine r_aload rfl rfl ?_
      refine r_getR (c := 8) (k := 4) (v := 58) rfl rfl ⟨rfl, rfl⟩ rfl ?_
      refine r_iload rfl rfl ?_
      obtain ⟨b40, hr⟩ := gopt hr
      refine r_iaload (n := 5) rfl rfl (gvp_in b40) ?_
      refine r_const rfl (gcst 2) ?_
      refine r_icmp_ne 79 rfl rfl (fun c41 => ?_) (fun c41 => ?_)
      · rw [if_pos c41] at hr
        refine r_const rfl (gcst 0) ?_
        refine gforget (ls := [.null, .null, .null, .int v3, .null, .null, .null]) ⟨(Or.inr (Or.inr ⟨rfl, _, rfl⟩)), ⟨(Or.inl rfl), ⟨(Or.inr (Or.inl ⟨rfl, _, rfl⟩)), ⟨(Or.inl rfl), ⟨(Or.inr (Or.inl ⟨rfl, _, rfl⟩)), ⟨(Or.inr (Or.inl ⟨rfl, _, rfl⟩)), ⟨(Or.inr (Or.inl ⟨rfl, _, rfl⟩)), trivial⟩⟩⟩⟩⟩⟩⟩ ?_
        exact t_X8_toneOf_80  hr hQ
      · rw [if_neg c41] at hr
        refine r_aload rfl rfl ?_
        refine r_getR (c := 8) (k := 9) (v := 63) rfl rfl ⟨rfl, rfl⟩ rfl ?_
        refine r_iload rfl rfl ?_
        refine r_const rfl (gcst 5) ?_
        refine r_iadd rfl ?_
        refine r_iload rfl rfl ?_
        refine r_iadd rfl ?_
        obtain ⟨b42, hr⟩ := gopt hr
        refine r_iaload (n := 54) rfl rfl (gvp_in b42) ?_
        refine r_goto 80 rfl rfl ?_
        refine gforget (ls := [.null, .null, .null, .int v3, .null, .null, .null]) ⟨(Or.inr (Or.inr ⟨rfl, _, rfl⟩)), ⟨(Or.inl rfl), ⟨(Or.inr (Or.inl ⟨rfl, _, rfl⟩)), ⟨(Or.inl rfl), ⟨(Or.inr (Or.inl ⟨rfl, _, rfl⟩)), ⟨(Or.inr (Or.inl ⟨rfl, _, rfl⟩)), ⟨(Or.inr (Or.inl ⟨rfl, _, rfl⟩)), trivial⟩⟩⟩⟩⟩⟩⟩ ?_
        exact t_X8_toneOf_80  hr hQ
    refine r_icmp_ne 60 rfl rfl (fun c39 => ?_) (fun c39 => ?_)
    · refine r_const rfl (gcst 0) ?_
      first | contradiction | simpa only [if_pos c39] using j44
    · refine r_const rfl (gcst 4) ?_
      refine r_goto 61 rfl rfl ?_
      first | contradiction | simpa only [if_neg c39] using j44
  refine r_icmp_ne 44 rfl rfl (fun c37 => ?_) (fun c37 => ?_)
  · refine r_iload rfl rfl ?_
    refine r_const rfl (gcst 2) ?_
    refine r_idiv rfl (nI_ne0 (n := 2) (by decide) (by decide)) ?_
    first | contradiction | simpa only [if_pos c37] using j43
  · refine r_iload rfl rfl ?_
    refine r_const rfl (gcst 4) ?_
    refine r_idiv rfl (nI_ne0 (n := 4) (by decide) (by decide)) ?_
    refine r_goto 47 rfl rfl ?_
    first | contradiction | simpa only [if_neg c37] using j43
def r_X8_toneOf_29    (I : Nat → Nat → Int32) (L : Nat → Nat → Int64) : Option gRs := some ((nI 12), I, L)
set_option maxHeartbeats 4000000 in
set_option maxRecDepth 100000 in
theorem t_X8_toneOf_29 {n f g d : Nat} {Q : gP} {z : gRs}     {I : Nat → Nat → Int32} {L : Nat → Nat → Int64} (hr : r_X8_toneOf_29 I L = some z) (hQ : Q (some (.int z.1)) (gKn n, gRf f g, z.2.1, z.2.2)) : gW gM (d + 1) 0 0 k_X8_toneOf 29 [.null, .null, .null, .null, .null, .null, .null] [] (gKn n, gRf f g, I, L) Q := by
  unfold r_X8_toneOf_29 at hr
  refine r_const rfl (gcst 12) ?_
  refine r_iret rfl ?_
  cases hr
  exact hQ
def r_X8_toneOf (I : Nat → Nat → Int32) (L : Nat → Nat → Int64) (a1 : Int32) (a2 : Int32) (a3 : Int32) (a4 : Int32) : Option gRs := (if gvp (((nI 27) * a1) + (nI 10)) 54 = true then (if gvp (((nI 27) * a1) + (nI 11)) 54 = true then (if ¬ (f_X8_bit I L ((I 63 (gx (((nI 27) * a1) + (nI 10)))) ||| (I 63 (gx (((nI 27) * a1) + (nI 11))))) a2) = 0 then (r_X8_toneOf_29 I L) else (if gvp a2 5 = true then (if ¬ (I 58 (gx a2)) = (nI 3) then (r_X8_toneOf_31 a2 a3 a4 ((nI 27) * a1) I L) else (if (nI 5) ≤ a4 then (r_X8_toneOf_31 a2 a3 a4 ((nI 27) * a1) I L) else (r_X8_toneOf_29 I L))) else none)) else none) else none)
set_option maxHeartbeats 4000000 in
set_option maxRecDepth 100000 in
theorem s_X8_toneOf {n f g d : Nat} {Q : gP} {I : Nat → Nat → Int32} {L : Nat → Nat → Int64} {a1 : Int32} {a2 : Int32} {a3 : Int32} {a4 : Int32} {z : gRs}  (hr : r_X8_toneOf I L a1 a2 a3 a4 = some z) (hQ : Q (some (.int z.1)) (gKn n, gRf f g, z.2.1, z.2.2)) : gR gM (d + 1) 121 [.ref 57, .int a1, .int a2, .int a3, .int a4] (gKn n, gRf f g, I, L) Q := by
  unfold r_X8_toneOf at hr
  show gW gM (d + 1) 0 0 k_X8_toneOf 0 [.ref 57, .int a1, .int a2, .int a3, .int a4, .null, .null] [] (gKn n, gRf f g, I, L) Q
  refine r_const rfl (gcst 27) ?_
  refine r_iload rfl rfl ?_
  refine r_imul rfl ?_
  refine r_istore [.ref 57, .int a1, .int a2, .int a3, .int a4, .int ((nI 27) * a1), .null] rfl rfl (Nat.le_of_ble_eq_true rfl) rfl ?_
  refine r_aload rfl rfl ?_
  refine r_getR (c := 8) (k := 9) (v := 63) rfl rfl ⟨rfl, rfl⟩ rfl ?_
  refine r_iload rfl rfl ?_
  refine r_const rfl (gcst 10) ?_
  refine r_iadd rfl ?_
  obtain ⟨b45, hr⟩ := gopt hr
  refine r_iaload (n := 54) rfl rfl (gvp_in b45) ?_
  refine r_aload rfl rfl ?_
  refine r_getR (c := 8) (k := 9) (v := 63) rfl rfl ⟨rfl, rfl⟩ rfl ?_
  refine r_iload rfl rfl ?_
  refine r_const rfl (gcst 11) ?_
  refine r_iadd rfl ?_
  obtain ⟨b46, hr⟩ := gopt hr
  refine r_iaload (n := 54) rfl rfl (gvp_in b46) ?_
  refine r_ior rfl ?_
  refine r_iload rfl rfl ?_
  refine r_invs [.int ((I 63 (gx (((nI 27) * a1) + (nI 10)))) ||| (I 63 (gx (((nI 27) * a1) + (nI 11))))), .int a2] rfl rfl rfl rfl (Nat.le_of_ble_eq_true rfl) ⟨rfl, rfl⟩ ?_
  refine s_X8_bit  ?_
  show gW _ _ _ _ _ 19 [.ref 57, .int a1, .int a2, .int a3, .int a4, .int ((nI 27) * a1), .null] [.int (f_X8_bit I L ((I 63 (gx (((nI 27) * a1) + (nI 10)))) ||| (I 63 (gx (((nI 27) * a1) + (nI 11))))) a2)] (gKn n, gRf f g, I, L) _
  refine r_if_ne 29 rfl rfl (fun c47 => ?_) (fun c47 => ?_)
  · rw [if_pos c47] at hr
    refine gforget (ls := [.null, .null, .null, .null, .null, .null, .null]) ⟨(Or.inr (Or.inr ⟨rfl, _, rfl⟩)), ⟨(Or.inr (Or.inl ⟨rfl, _, rfl⟩)), ⟨(Or.inr (Or.inl ⟨rfl, _, rfl⟩)), ⟨(Or.inr (Or.inl ⟨rfl, _, rfl⟩)), ⟨(Or.inr (Or.inl ⟨rfl, _, rfl⟩)), ⟨(Or.inr (Or.inl ⟨rfl, _, rfl⟩)), ⟨(Or.inl rfl), trivial⟩⟩⟩⟩⟩⟩⟩ ?_
    exact t_X8_toneOf_29  hr hQ
  · rw [if_neg c47] at hr
    refine r_aload rfl rfl ?_
    refine r_getR (c := 8) (k := 4) (v := 58) rfl rfl ⟨rfl, rfl⟩ rfl ?_
    refine r_iload rfl rfl ?_
    obtain ⟨b48, hr⟩ := gopt hr
    refine r_iaload (n := 5) rfl rfl (gvp_in b48) ?_
    refine r_const rfl (gcst 3) ?_
    refine r_icmp_ne 31 rfl rfl (fun c49 => ?_) (fun c49 => ?_)
    · rw [if_pos c49] at hr
      refine gforget (ls := [.ref 57, .null, .int a2, .int a3, .int a4, .int ((nI 27) * a1), .null]) ⟨(Or.inl rfl), ⟨(Or.inr (Or.inl ⟨rfl, _, rfl⟩)), ⟨(Or.inl rfl), ⟨(Or.inl rfl), ⟨(Or.inl rfl), ⟨(Or.inl rfl), ⟨(Or.inl rfl), trivial⟩⟩⟩⟩⟩⟩⟩ ?_
      exact t_X8_toneOf_31  hr hQ
    · rw [if_neg c49] at hr
      refine r_iload rfl rfl ?_
      refine r_const rfl (gcst 5) ?_
      refine r_icmp_ge 31 rfl rfl (fun c50 => ?_) (fun c50 => ?_)
      · rw [if_pos c50] at hr
        refine gforget (ls := [.ref 57, .null, .int a2, .int a3, .int a4, .int ((nI 27) * a1), .null]) ⟨(Or.inl rfl), ⟨(Or.inr (Or.inl ⟨rfl, _, rfl⟩)), ⟨(Or.inl rfl), ⟨(Or.inl rfl), ⟨(Or.inl rfl), ⟨(Or.inl rfl), ⟨(Or.inl rfl), trivial⟩⟩⟩⟩⟩⟩⟩ ?_
        exact t_X8_toneOf_31  hr hQ
      · rw [if_neg c50] at hr
        refine gforget (ls := [.null, .null, .null, .null, .null, .null, .null]) ⟨(Or.inr (Or.inr ⟨rfl, _, rfl⟩)), ⟨(Or.inr (Or.inl ⟨rfl, _, rfl⟩)), ⟨(Or.inr (Or.inl ⟨rfl, _, rfl⟩)), ⟨(Or.inr (Or.inl ⟨rfl, _, rfl⟩)), ⟨(Or.inr (Or.inl ⟨rfl, _, rfl⟩)), ⟨(Or.inr (Or.inl ⟨rfl, _, rfl⟩)), ⟨(Or.inl rfl), trivial⟩⟩⟩⟩⟩⟩⟩ ?_
        exact t_X8_toneOf_29  hr hQ
def r_X8_sing_41    (I : Nat → Nat → Int32) (L : Nat → Nat → Int64) : Option gRs := some (0, I, L)
set_option maxHeartbeats 4000000 in
set_option maxRecDepth 100000 in
theorem t_X8_sing_41 {n f g d : Nat} {Q : gP} {z : gRs}     {I : Nat → Nat → Int32} {L : Nat → Nat → Int64} (hr : r_X8_sing_41 I L = some z) (hQ : Q none (gKn n, gRf f g, z.2.1, z.2.2)) : gW gM (d + 0) 0 0 k_X8_sing 41 [.null, .null, .null, .null] [] (gKn n, gRf f g, I, L) Q := by
  unfold r_X8_sing_41 at hr
  refine r_vret rfl ?_
  cases hr
  exact hQ
def r_X8_sing (I : Nat → Nat → Int32) (L : Nat → Nat → Int64) (a1 : Int32) (a2 : Int32) (a3 : Int32) : Option gRs := (if gvp (((nI 12) * a1) + (I 57 24)) 24 = true then (if a3 = 0 then (r_X8_sing_41 (gu2 (gu2 I 69 (gx (((nI 12) * a1) + (I 57 24))) a2) 57 24 (((gu2 I 69 (gx (((nI 12) * a1) + (I 57 24))) a2) 57 24) + (nI 1))) L) else (if a2 = (nI 12) then (r_X8_sing_41 (gu2 (gu2 I 69 (gx (((nI 12) * a1) + (I 57 24))) a2) 57 24 (((gu2 I 69 (gx (((nI 12) * a1) + (I 57 24))) a2) 57 24) + (nI 1))) L) else (if gvp (((nI 12) * a1) + ((gu2 (gu2 I 69 (gx (((nI 12) * a1) + (I 57 24))) a2) 57 24 (((gu2 I 69 (gx (((nI 12) * a1) + (I 57 24))) a2) 57 24) + (nI 1))) 57 24)) 24 = true then (r_X8_sing_41 (gu2 (gu2 (gu2 (gu2 I 69 (gx (((nI 12) * a1) + (I 57 24))) a2) 57 24 (((gu2 I 69 (gx (((nI 12) * a1) + (I 57 24))) a2) 57 24) + (nI 1))) 69 (gx (((nI 12) * a1) + ((gu2 (gu2 I 69 (gx (((nI 12) * a1) + (I 57 24))) a2) 57 24 (((gu2 I 69 (gx (((nI 12) * a1) + (I 57 24))) a2) 57 24) + (nI 1))) 57 24))) (grem (a2 + (nI 1)) (nI 12))) 57 24 (((gu2 (gu2 (gu2 I 69 (gx (((nI 12) * a1) + (I 57 24))) a2) 57 24 (((gu2 I 69 (gx (((nI 12) * a1) + (I 57 24))) a2) 57 24) + (nI 1))) 69 (gx (((nI 12) * a1) + ((gu2 (gu2 I 69 (gx (((nI 12) * a1) + (I 57 24))) a2) 57 24 (((gu2 I 69 (gx (((nI 12) * a1) + (I 57 24))) a2) 57 24) + (nI 1))) 57 24))) (grem (a2 + (nI 1)) (nI 12))) 57 24) + (nI 1))) L) else none))) else none)
set_option maxHeartbeats 4000000 in
set_option maxRecDepth 100000 in
theorem s_X8_sing {n f g d : Nat} {Q : gP} {I : Nat → Nat → Int32} {L : Nat → Nat → Int64} {a1 : Int32} {a2 : Int32} {a3 : Int32} {z : gRs}  (hr : r_X8_sing I L a1 a2 a3 = some z) (hQ : Q none (gKn n, gRf f g, z.2.1, z.2.2)) : gR gM (d + 0) 122 [.ref 57, .int a1, .int a2, .int a3] (gKn n, gRf f g, I, L) Q := by
  unfold r_X8_sing at hr
  show gW gM (d + 0) 0 0 k_X8_sing 0 [.ref 57, .int a1, .int a2, .int a3] [] (gKn n, gRf f g, I, L) Q
  refine r_aload rfl rfl ?_
  refine r_getR (c := 8) (k := 23) (v := 69) rfl rfl ⟨rfl, rfl⟩ rfl ?_
  refine r_const rfl (gcst 12) ?_
  refine r_iload rfl rfl ?_
  refine r_imul rfl ?_
  refine r_aload rfl rfl ?_
  refine r_getI (c := 8) (k := 24) rfl rfl ⟨rfl, rfl⟩ ?_
  refine r_iadd rfl ?_
  refine r_iload rfl rfl ?_
  obtain ⟨b9, hr⟩ := gopt hr
  refine r_iastore (n := 24) rfl rfl (gvp_in b9) (by decide) ?_
  refine r_aload rfl rfl ?_
  refine r_dup rfl rfl ?_
  refine r_getI (c := 8) (k := 24) rfl rfl ⟨rfl, rfl⟩ ?_
  refine r_const rfl (gcst 1) ?_
  refine r_iadd rfl ?_
  refine r_putI (c := 8) (k := 24) rfl rfl ⟨rfl, rfl⟩ ?_
  refine r_iload rfl rfl ?_
  refine r_if_eq 41 rfl rfl (fun c10 => ?_) (fun c10 => ?_)
  · rw [if_pos c10] at hr
    refine gforget (ls := [.null, .null, .null, .null]) ⟨(Or.inr (Or.inr ⟨rfl, _, rfl⟩)), ⟨(Or.inr (Or.inl ⟨rfl, _, rfl⟩)), ⟨(Or.inr (Or.inl ⟨rfl, _, rfl⟩)), ⟨(Or.inr (Or.inl ⟨rfl, _, rfl⟩)), trivial⟩⟩⟩⟩ ?_
    exact t_X8_sing_41  hr hQ
  · rw [if_neg c10] at hr
    refine r_iload rfl rfl ?_
    refine r_const rfl (gcst 12) ?_
    refine r_icmp_eq 41 rfl rfl (fun c11 => ?_) (fun c11 => ?_)
    · rw [if_pos c11] at hr
      refine gforget (ls := [.null, .null, .null, .null]) ⟨(Or.inr (Or.inr ⟨rfl, _, rfl⟩)), ⟨(Or.inr (Or.inl ⟨rfl, _, rfl⟩)), ⟨(Or.inr (Or.inl ⟨rfl, _, rfl⟩)), ⟨(Or.inr (Or.inl ⟨rfl, _, rfl⟩)), trivial⟩⟩⟩⟩ ?_
      exact t_X8_sing_41  hr hQ
    · rw [if_neg c11] at hr
      refine r_aload rfl rfl ?_
      refine r_getR (c := 8) (k := 23) (v := 69) rfl rfl ⟨rfl, rfl⟩ rfl ?_
      refine r_const rfl (gcst 12) ?_
      refine r_iload rfl rfl ?_
      refine r_imul rfl ?_
      refine r_aload rfl rfl ?_
      refine r_getI (c := 8) (k := 24) rfl rfl ⟨rfl, rfl⟩ ?_
      refine r_iadd rfl ?_
      refine r_iload rfl rfl ?_
      refine r_const rfl (gcst 1) ?_
      refine r_iadd rfl ?_
      refine r_const rfl (gcst 12) ?_
      refine r_irem rfl (nI_ne0 (n := 12) (by decide) (by decide)) ?_
      obtain ⟨b12, hr⟩ := gopt hr
      refine r_iastore (n := 24) rfl rfl (gvp_in b12) (by decide) ?_
      refine r_aload rfl rfl ?_
      refine r_dup rfl rfl ?_
      refine r_getI (c := 8) (k := 24) rfl rfl ⟨rfl, rfl⟩ ?_
      refine r_const rfl (gcst 1) ?_
      refine r_iadd rfl ?_
      refine r_putI (c := 8) (k := 24) rfl rfl ⟨rfl, rfl⟩ ?_
      refine gforget (ls := [.null, .null, .null, .null]) ⟨(Or.inr (Or.inr ⟨rfl, _, rfl⟩)), ⟨(Or.inr (Or.inl ⟨rfl, _, rfl⟩)), ⟨(Or.inr (Or.inl ⟨rfl, _, rfl⟩)), ⟨(Or.inr (Or.inl ⟨rfl, _, rfl⟩)), trivial⟩⟩⟩⟩ ?_
      exact t_X8_sing_41  hr hQ
def r_X8_laySong_56  (K5 : Int32 → Int32 → Int32 → Int32 → Int32 → (Nat → Nat → Int32) → (Nat → Nat → Int64) → Option gRs) (v1 : Int32) (v2 : Int32) (v3 : Int32) (v4 : Int32) (v5 : Int32) (I : Nat → Nat → Int32) (L : Nat → Nat → Int64) : Option gRs := (K5 v1 v2 v3 v4 (v5 + (nI 1)) I L)
set_option maxHeartbeats 4000000 in
set_option maxRecDepth 100000 in
theorem t_X8_laySong_56 {n f g d : Nat} {Q : gP} {z : gRs}   {K5 : Int32 → Int32 → Int32 → Int32 → Int32 → (Nat → Nat → Int32) → (Nat → Nat → Int64) → Option gRs} (hK5 : ∀ v1 v2 v3 v4 v5 I L, K5 v1 v2 v3 v4 v5 I L = some z → gW gM (d + 2) 0 0 k_X8_laySong 5 [.ref 57, .int v1, .int v2, .int v3, .int v4, .int v5, .null, .null, .null] [] (gKn n, gRf f g, I, L) Q) {v1 : Int32} {v2 : Int32} {v3 : Int32} {v4 : Int32} {v5 : Int32} {I : Nat → Nat → Int32} {L : Nat → Nat → Int64} (hr : r_X8_laySong_56 K5 v1 v2 v3 v4 v5 I L = some z) (hQ : Q (some (.int z.1)) (gKn n, gRf f g, z.2.1, z.2.2)) : gW gM (d + 2) 0 0 k_X8_laySong 56 [.ref 57, .int v1, .int v2, .int v3, .int v4, .int v5, .null, .null, .null] [] (gKn n, gRf f g, I, L) Q := by
  unfold r_X8_laySong_56 at hr
  refine r_iinc (y := (v5 + (nI 1))) [.ref 57, .int v1, .int v2, .int v3, .int v4, .int (v5 + (nI 1)), .null, .null, .null] rfl rfl rfl (ginc _ 1) rfl ?_
  refine r_goto 5 rfl rfl ?_
  exact hK5 _ _ _ _ _ _ _ hr
def r_X8_laySong_39  (K5 : Int32 → Int32 → Int32 → Int32 → Int32 → (Nat → Nat → Int32) → (Nat → Nat → Int64) → Option gRs) (v1 : Int32) (v2 : Int32) (v3 : Int32) (v4 : Int32) (v5 : Int32) (v6 : Int32) (v7 : Int32) (s0 : Int32) (I : Nat → Nat → Int32) (L : Nat → Nat → Int64) : Option gRs := ((r_X8_sing I L v2 v7 s0).bind (fun z30 => (if gvp v6 5 = true then (if ¬ (z30.2.1 58 (gx v6)) = (nI 1) then (r_X8_laySong_56 K5 v1 v2 v3 v4 v5 z30.2.1 z30.2.2) else ((r_X8_sing z30.2.1 z30.2.2 v2 v7 s0).bind (fun z33 => (r_X8_laySong_56 K5 v1 v2 v3 v4 v5 z33.2.1 z33.2.2)))) else none)))
set_option maxHeartbeats 4000000 in
set_option maxRecDepth 100000 in
theorem t_X8_laySong_39 {n f g d : Nat} {Q : gP} {z : gRs}   {K5 : Int32 → Int32 → Int32 → Int32 → Int32 → (Nat → Nat → Int32) → (Nat → Nat → Int64) → Option gRs} (hK5 : ∀ v1 v2 v3 v4 v5 I L, K5 v1 v2 v3 v4 v5 I L = some z → gW gM (d + 2) 0 0 k_X8_laySong 5 [.ref 57, .int v1, .int v2, .int v3, .int v4, .int v5, .null, .null, .null] [] (gKn n, gRf f g, I, L) Q) {v1 : Int32} {v2 : Int32} {v3 : Int32} {v4 : Int32} {v5 : Int32} {v6 : Int32} {v7 : Int32} {s0 : Int32} {I : Nat → Nat → Int32} {L : Nat → Nat → Int64} (hr : r_X8_laySong_39 K5 v1 v2 v3 v4 v5 v6 v7 s0 I L = some z) (hQ : Q (some (.int z.1)) (gKn n, gRf f g, z.2.1, z.2.2)) : gW gM (d + 2) 0 0 k_X8_laySong 39 [.ref 57, .int v1, .int v2, .int v3, .int v4, .int v5, .int v6, .int v7, .null] [.int s0] (gKn n, gRf f g, I, L) Q := by
  unfold r_X8_laySong_39 at hr
  refine r_istore [.ref 57, .int v1, .int v2, .int v3, .int v4, .int v5, .int v6, .int v7, .int s0] rfl rfl (Nat.le_of_ble_eq_true rfl) rfl ?_
  refine r_aload rfl rfl ?_
  refine r_iload rfl rfl ?_
  refine r_iload rfl rfl ?_
  refine r_iload rfl rfl ?_
  obtain ⟨z30, hz30, hr⟩ := gbnd hr
  refine r_invv (a := 57) [.int v2, .int v7, .int s0] rfl rfl rfl rfl rfl (Nat.le_of_ble_eq_true rfl) ⟨rfl, rfl⟩ ?_
  refine s_X8_sing  hz30 ?_
  show gW _ _ _ _ _ 45 [.ref 57, .int v1, .int v2, .int v3, .int v4, .int v5, .int v6, .int v7, .int s0] [] (gKn n, gRf f g, z30.2.1, z30.2.2) _
  refine r_aload rfl rfl ?_
  refine r_getR (c := 8) (k := 4) (v := 58) rfl rfl ⟨rfl, rfl⟩ rfl ?_
  refine r_iload rfl rfl ?_
  obtain ⟨b31, hr⟩ := gopt hr
  refine r_iaload (n := 5) rfl rfl (gvp_in b31) ?_
  refine r_const rfl (gcst 1) ?_
  refine r_icmp_ne 56 rfl rfl (fun c32 => ?_) (fun c32 => ?_)
  · rw [if_pos c32] at hr
    refine gforget (ls := [.ref 57, .int v1, .int v2, .int v3, .int v4, .int v5, .null, .null, .null]) ⟨(Or.inl rfl), ⟨(Or.inl rfl), ⟨(Or.inl rfl), ⟨(Or.inl rfl), ⟨(Or.inl rfl), ⟨(Or.inl rfl), ⟨(Or.inr (Or.inl ⟨rfl, _, rfl⟩)), ⟨(Or.inr (Or.inl ⟨rfl, _, rfl⟩)), ⟨(Or.inr (Or.inl ⟨rfl, _, rfl⟩)), trivial⟩⟩⟩⟩⟩⟩⟩⟩⟩ ?_
    exact t_X8_laySong_56 hK5 hr hQ
  · rw [if_neg c32] at hr
    refine r_aload rfl rfl ?_
    refine r_iload rfl rfl ?_
    refine r_iload rfl rfl ?_
    refine r_iload rfl rfl ?_
    obtain ⟨z33, hz33, hr⟩ := gbnd hr
    refine r_invv (a := 57) [.int v2, .int v7, .int s0] rfl rfl rfl rfl rfl (Nat.le_of_ble_eq_true rfl) ⟨rfl, rfl⟩ ?_
    refine s_X8_sing  hz33 ?_
    show gW _ _ _ _ _ 56 [.ref 57, .int v1, .int v2, .int v3, .int v4, .int v5, .int v6, .int v7, .int s0] [] (gKn n, gRf f g, z33.2.1, z33.2.2) _
    refine gforget (ls := [.ref 57, .int v1, .int v2, .int v3, .int v4, .int v5, .null, .null, .null]) ⟨(Or.inl rfl), ⟨(Or.inl rfl), ⟨(Or.inl rfl), ⟨(Or.inl rfl), ⟨(Or.inl rfl), ⟨(Or.inl rfl), ⟨(Or.inr (Or.inl ⟨rfl, _, rfl⟩)), ⟨(Or.inr (Or.inl ⟨rfl, _, rfl⟩)), ⟨(Or.inr (Or.inl ⟨rfl, _, rfl⟩)), trivial⟩⟩⟩⟩⟩⟩⟩⟩⟩ ?_
    exact t_X8_laySong_56 hK5 hr hQ
def r_X8_laySong_5   : Nat → Int32 → Int32 → Int32 → Int32 → Int32 → (Nat → Nat → Int32) → (Nat → Nat → Int64) → Option gRs
  | 0, _, _, _, _, _, _, _ => none
  | m + 1, v1, v2, v3, v4, v5, I, L => (if (nI 3) ≤ v5 then some ((I 57 24), I, L) else (if gvp (((nI 3) * v4) + v5) 9 = true then (if gvp v3 5 = true then (if gvp v3 5 = true then ((r_X8_toneOf I L v1 (I 59 (gx (((nI 3) * v4) + v5))) (I 61 (gx v3)) (I 60 (gx v3))).bind (fun z38 => (if gvp v3 5 = true then (if ¬ (z38.2.1 61 (gx v3)) = (nI 1) then (r_X8_laySong_39 (r_X8_laySong_5  m) v1 v2 v3 v4 v5 (I 59 (gx (((nI 3) * v4) + v5))) z38.1 (nI 0) z38.2.1 z38.2.2) else (r_X8_laySong_39 (r_X8_laySong_5  m) v1 v2 v3 v4 v5 (I 59 (gx (((nI 3) * v4) + v5))) z38.1 (nI 1) z38.2.1 z38.2.2)) else none))) else none) else none) else none))
set_option maxHeartbeats 4000000 in
set_option maxRecDepth 100000 in
theorem t_X8_laySong_5 {n f g d : Nat} {Q : gP} {z : gRs}    : ∀ {m : Nat} {v1 : Int32} {v2 : Int32} {v3 : Int32} {v4 : Int32} {v5 : Int32} {I : Nat → Nat → Int32} {L : Nat → Nat → Int64}, r_X8_laySong_5 m v1 v2 v3 v4 v5 I L = some z → Q (some (.int z.1)) (gKn n, gRf f g, z.2.1, z.2.2) → gW gM (d + 2) 0 0 k_X8_laySong 5 [.ref 57, .int v1, .int v2, .int v3, .int v4, .int v5, .null, .null, .null] [] (gKn n, gRf f g, I, L) Q := by
  intro m
  induction m with
  | zero =>
    intro v1 v2 v3 v4 v5 I L hr _
    cases hr
  | succ m ih =>
    intro v1 v2 v3 v4 v5 I L hr hQ
    have hK5 : ∀ v1 v2 v3 v4 v5 I L, r_X8_laySong_5 m v1 v2 v3 v4 v5 I L = some z → gW gM (d + 2) 0 0 k_X8_laySong 5 [.ref 57, .int v1, .int v2, .int v3, .int v4, .int v5, .null, .null, .null] [] (gKn n, gRf f g, I, L) Q := fun v1 v2 v3 v4 v5 I L hr => ih hr hQ
    unfold r_X8_laySong_5 at hr
    refine r_iload rfl rfl ?_
    refine r_const rfl (gcst 3) ?_
    refine r_icmp_ge 58 rfl rfl (fun c34 => ?_) (fun c34 => ?_)
    · rw [if_pos c34] at hr
      refine r_aload rfl rfl ?_
      refine r_getI (c := 8) (k := 24) rfl rfl ⟨rfl, rfl⟩ ?_
      refine r_iret rfl ?_
      cases hr
      exact hQ
    · rw [if_neg c34] at hr
      refine r_aload rfl rfl ?_
      refine r_getR (c := 8) (k := 5) (v := 59) rfl rfl ⟨rfl, rfl⟩ rfl ?_
      refine r_const rfl (gcst 3) ?_
      refine r_iload rfl rfl ?_
      refine r_imul rfl ?_
      refine r_iload rfl rfl ?_
      refine r_iadd rfl ?_
      obtain ⟨b35, hr⟩ := gopt hr
      refine r_iaload (n := 9) rfl rfl (gvp_in b35) ?_
      refine r_istore [.ref 57, .int v1, .int v2, .int v3, .int v4, .int v5, .int (I 59 (gx (((nI 3) * v4) + v5))), .null, .null] rfl rfl (Nat.le_of_ble_eq_true rfl) rfl ?_
      refine r_aload rfl rfl ?_
      refine r_iload rfl rfl ?_
      refine r_iload rfl rfl ?_
      refine r_aload rfl rfl ?_
      refine r_getR (c := 8) (k := 7) (v := 61) rfl rfl ⟨rfl, rfl⟩ rfl ?_
      refine r_iload rfl rfl ?_
      obtain ⟨b36, hr⟩ := gopt hr
      refine r_iaload (n := 5) rfl rfl (gvp_in b36) ?_
      refine r_aload rfl rfl ?_
      refine r_getR (c := 8) (k := 6) (v := 60) rfl rfl ⟨rfl, rfl⟩ rfl ?_
      refine r_iload rfl rfl ?_
      obtain ⟨b37, hr⟩ := gopt hr
      refine r_iaload (n := 5) rfl rfl (gvp_in b37) ?_
      obtain ⟨z38, hz38, hr⟩ := gbnd hr
      refine r_invv (a := 57) [.int v1, .int (I 59 (gx (((nI 3) * v4) + v5))), .int (I 61 (gx v3)), .int (I 60 (gx v3))] rfl rfl rfl rfl rfl (Nat.le_of_ble_eq_true rfl) ⟨rfl, rfl⟩ ?_
      refine s_X8_toneOf  hz38 ?_
      show gW _ _ _ _ _ 29 [.ref 57, .int v1, .int v2, .int v3, .int v4, .int v5, .int (I 59 (gx (((nI 3) * v4) + v5))), .null, .null] [.int z38.1] (gKn n, gRf f g, z38.2.1, z38.2.2) _
      refine r_istore [.ref 57, .int v1, .int v2, .int v3, .int v4, .int v5, .int (I 59 (gx (((nI 3) * v4) + v5))), .int z38.1, .null] rfl rfl (Nat.le_of_ble_eq_true rfl) rfl ?_
      refine r_aload rfl rfl ?_
      refine r_getR (c := 8) (k := 7) (v := 61) rfl rfl ⟨rfl, rfl⟩ rfl ?_
      refine r_iload rfl rfl ?_
      obtain ⟨b39, hr⟩ := gopt hr
      refine r_iaload (n := 5) rfl rfl (gvp_in b39) ?_
      refine r_const rfl (gcst 1) ?_
      refine r_icmp_ne 38 rfl rfl (fun c40 => ?_) (fun c40 => ?_)
      · rw [if_pos c40] at hr
        refine r_const rfl (gcst 0) ?_
        exact t_X8_laySong_39 hK5 hr hQ
      · rw [if_neg c40] at hr
        refine r_const rfl (gcst 1) ?_
        refine r_goto 39 rfl rfl ?_
        exact t_X8_laySong_39 hK5 hr hQ
def r_X8_laySong (I : Nat → Nat → Int32) (L : Nat → Nat → Int64) (a1 : Int32) (a2 : Int32) (a3 : Int32) (a4 : Int32) : Option gRs := (r_X8_laySong_5 100 a1 a2 a3 a4 (nI 0) (gu2 I 57 24 (nI 0)) L)
set_option maxHeartbeats 4000000 in
set_option maxRecDepth 100000 in
theorem s_X8_laySong {n f g d : Nat} {Q : gP} {I : Nat → Nat → Int32} {L : Nat → Nat → Int64} {a1 : Int32} {a2 : Int32} {a3 : Int32} {a4 : Int32} {z : gRs}  (hr : r_X8_laySong I L a1 a2 a3 a4 = some z) (hQ : Q (some (.int z.1)) (gKn n, gRf f g, z.2.1, z.2.2)) : gR gM (d + 2) 123 [.ref 57, .int a1, .int a2, .int a3, .int a4] (gKn n, gRf f g, I, L) Q := by
  unfold r_X8_laySong at hr
  show gW gM (d + 2) 0 0 k_X8_laySong 0 [.ref 57, .int a1, .int a2, .int a3, .int a4, .null, .null, .null, .null] [] (gKn n, gRf f g, I, L) Q
  refine r_aload rfl rfl ?_
  refine r_const rfl (gcst 0) ?_
  refine r_putI (c := 8) (k := 24) rfl rfl ⟨rfl, rfl⟩ ?_
  refine r_const rfl (gcst 0) ?_
  refine r_istore [.ref 57, .int a1, .int a2, .int a3, .int a4, .int (nI 0), .null, .null, .null] rfl rfl (Nat.le_of_ble_eq_true rfl) rfl ?_
  exact t_X8_laySong_5  hr hQ
