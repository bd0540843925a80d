/-! FUNCTIONS (dec.py, dec2.py) -/
def i_X0_forgetAll (I : Nat → Nat → Int32) (L : Nat → Nat → Int64)  : Nat → Nat → Int32 := (gu2 (gu2 I 20 1 (nI 0)) 20 2 (nI 0))
set_option maxHeartbeats 4000000 in
set_option maxRecDepth 100000 in
theorem s_X0_forgetAll {n f g d : Nat} {Q : gP} {I : Nat → Nat → Int32} {L : Nat → Nat → Int64}   (hQ : Q none (gKn n, gRf f g, i_X0_forgetAll I L , L)) : gR gM (d + 0) 2 [.ref 20] (gKn n, gRf f g, I, L) Q := by
  unfold i_X0_forgetAll at hQ
  show gW gM (d + 0) 0 0 k_X0_forgetAll 0 [.ref 20] [] (gKn n, gRf f g, I, L) Q
  refine r_aload rfl rfl ?_
  refine r_const rfl (gcst 0) ?_
  refine r_putI (c := 0) (k := 1) rfl rfl ⟨rfl, rfl⟩ ?_
  refine r_aload rfl rfl ?_
  refine r_const rfl (gcst 0) ?_
  refine r_putI (c := 0) (k := 2) rfl rfl ⟨rfl, rfl⟩ ?_
  refine r_vret rfl ?_
  first | exact hQ | simpa only [if_true] using hQ
def i_X4_become (I : Nat → Nat → Int32) (L : Nat → Nat → Int64) (a0 : Nat) (a1 : Nat) : Nat → Nat → Int32 := (gu2 (gu2 (gu2 (gu2 (gu2 (gu2 (gu2 I a0 0 (I a1 0)) a0 1 ((gu2 I a0 0 (I a1 0)) a1 1)) a0 2 ((gu2 (gu2 I a0 0 (I a1 0)) a0 1 ((gu2 I a0 0 (I a1 0)) a1 1)) a1 2)) a0 3 ((gu2 (gu2 (gu2 I a0 0 (I a1 0)) a0 1 ((gu2 I a0 0 (I a1 0)) a1 1)) a0 2 ((gu2 (gu2 I a0 0 (I a1 0)) a0 1 ((gu2 I a0 0 (I a1 0)) a1 1)) a1 2)) a1 3)) a0 4 ((gu2 (gu2 (gu2 (gu2 I a0 0 (I a1 0)) a0 1 ((gu2 I a0 0 (I a1 0)) a1 1)) a0 2 ((gu2 (gu2 I a0 0 (I a1 0)) a0 1 ((gu2 I a0 0 (I a1 0)) a1 1)) a1 2)) a0 3 ((gu2 (gu2 (gu2 I a0 0 (I a1 0)) a0 1 ((gu2 I a0 0 (I a1 0)) a1 1)) a0 2 ((gu2 (gu2 I a0 0 (I a1 0)) a0 1 ((gu2 I a0 0 (I a1 0)) a1 1)) a1 2)) a1 3)) a1 4)) a0 5 ((gu2 (gu2 (gu2 (gu2 (gu2 I a0 0 (I a1 0)) a0 1 ((gu2 I a0 0 (I a1 0)) a1 1)) a0 2 ((gu2 (gu2 I a0 0 (I a1 0)) a0 1 ((gu2 I a0 0 (I a1 0)) a1 1)) a1 2)) a0 3 ((gu2 (gu2 (gu2 I a0 0 (I a1 0)) a0 1 ((gu2 I a0 0 (I a1 0)) a1 1)) a0 2 ((gu2 (gu2 I a0 0 (I a1 0)) a0 1 ((gu2 I a0 0 (I a1 0)) a1 1)) a1 2)) a1 3)) a0 4 ((gu2 (gu2 (gu2 (gu2 I a0 0 (I a1 0)) a0 1 ((gu2 I a0 0 (I a1 0)) a1 1)) a0 2 ((gu2 (gu2 I a0 0 (I a1 0)) a0 1 ((gu2 I a0 0 (I a1 0)) a1 1)) a1 2)) a0 3 ((gu2 (gu2 (gu2 I a0 0 (I a1 0)) a0 1 ((gu2 I a0 0 (I a1 0)) a1 1)) a0 2 ((gu2 (gu2 I a0 0 (I a1 0)) a0 1 ((gu2 I a0 0 (I a1 0)) a1 1)) a1 2)) a1 3)) a1 4)) a1 5)) a0 7 ((gu2 (gu2 (gu2 (gu2 (gu2 (gu2 I a0 0 (I a1 0)) a0 1 ((gu2 I a0 0 (I a1 0)) a1 1)) a0 2 ((gu2 (gu2 I a0 0 (I a1 0)) a0 1 ((gu2 I a0 0 (I a1 0)) a1 1)) a1 2)) a0 3 ((gu2 (gu2 (gu2 I a0 0 (I a1 0)) a0 1 ((gu2 I a0 0 (I a1 0)) a1 1)) a0 2 ((gu2 (gu2 I a0 0 (I a1 0)) a0 1 ((gu2 I a0 0 (I a1 0)) a1 1)) a1 2)) a1 3)) a0 4 ((gu2 (gu2 (gu2 (gu2 I a0 0 (I a1 0)) a0 1 ((gu2 I a0 0 (I a1 0)) a1 1)) a0 2 ((gu2 (gu2 I a0 0 (I a1 0)) a0 1 ((gu2 I a0 0 (I a1 0)) a1 1)) a1 2)) a0 3 ((gu2 (gu2 (gu2 I a0 0 (I a1 0)) a0 1 ((gu2 I a0 0 (I a1 0)) a1 1)) a0 2 ((gu2 (gu2 I a0 0 (I a1 0)) a0 1 ((gu2 I a0 0 (I a1 0)) a1 1)) a1 2)) a1 3)) a1 4)) a0 5 ((gu2 (gu2 (gu2 (gu2 (gu2 I a0 0 (I a1 0)) a0 1 ((gu2 I a0 0 (I a1 0)) a1 1)) a0 2 ((gu2 (gu2 I a0 0 (I a1 0)) a0 1 ((gu2 I a0 0 (I a1 0)) a1 1)) a1 2)) a0 3 ((gu2 (gu2 (gu2 I a0 0 (I a1 0)) a0 1 ((gu2 I a0 0 (I a1 0)) a1 1)) a0 2 ((gu2 (gu2 I a0 0 (I a1 0)) a0 1 ((gu2 I a0 0 (I a1 0)) a1 1)) a1 2)) a1 3)) a0 4 ((gu2 (gu2 (gu2 (gu2 I a0 0 (I a1 0)) a0 1 ((gu2 I a0 0 (I a1 0)) a1 1)) a0 2 ((gu2 (gu2 I a0 0 (I a1 0)) a0 1 ((gu2 I a0 0 (I a1 0)) a1 1)) a1 2)) a0 3 ((gu2 (gu2 (gu2 I a0 0 (I a1 0)) a0 1 ((gu2 I a0 0 (I a1 0)) a1 1)) a0 2 ((gu2 (gu2 I a0 0 (I a1 0)) a0 1 ((gu2 I a0 0 (I a1 0)) a1 1)) a1 2)) a1 3)) a1 4)) a1 5)) a1 7))
def l_X4_become (I : Nat → Nat → Int32) (L : Nat → Nat → Int64) (a0 : Nat) (a1 : Nat) : Nat → Nat → Int64 := (gu2 L a0 6 (L a1 6))
set_option maxHeartbeats 4000000 in
set_option maxRecDepth 100000 in
theorem s_X4_become {n f g d : Nat} {Q : gP} {I : Nat → Nat → Int32} {L : Nat → Nat → Int64} {a0 : Nat} {a1 : Nat} (h0 : gmo a0 = true) (h1 : gmo a1 = true) (hQ : Q none (gKn n, gRf f g, i_X4_become I L a0 a1, l_X4_become I L a0 a1)) : gR gM (d + 0) 37 [.ref a0, .ref a1] (gKn n, gRf f g, I, L) Q := by
  unfold i_X4_become l_X4_become at hQ
  show gW gM (d + 0) 0 0 k_X4_become 0 [.ref a0, .ref a1] [] (gKn n, gRf f g, I, L) Q
  refine r_aload rfl rfl ?_
  refine r_aload rfl rfl ?_
  refine r_getI (c := 4) (k := 0) rfl (shMom h1) ⟨rfl, rfl⟩ ?_
  refine r_putI (c := 4) (k := 0) rfl (shMom h0) ⟨rfl, rfl⟩ ?_
  refine r_aload rfl rfl ?_
  refine r_aload rfl rfl ?_
  refine r_getI (c := 4) (k := 1) rfl (shMom h1) ⟨rfl, rfl⟩ ?_
  refine r_putI (c := 4) (k := 1) rfl (shMom h0) ⟨rfl, rfl⟩ ?_
  refine r_aload rfl rfl ?_
  refine r_aload rfl rfl ?_
  refine r_getI (c := 4) (k := 2) rfl (shMom h1) ⟨rfl, rfl⟩ ?_
  refine r_putI (c := 4) (k := 2) rfl (shMom h0) ⟨rfl, rfl⟩ ?_
  refine r_aload rfl rfl ?_
  refine r_aload rfl rfl ?_
  refine r_getI (c := 4) (k := 3) rfl (shMom h1) ⟨rfl, rfl⟩ ?_
  refine r_putI (c := 4) (k := 3) rfl (shMom h0) ⟨rfl, rfl⟩ ?_
  refine r_aload rfl rfl ?_
  refine r_aload rfl rfl ?_
  refine r_getI (c := 4) (k := 4) rfl (shMom h1) ⟨rfl, rfl⟩ ?_
  refine r_putI (c := 4) (k := 4) rfl (shMom h0) ⟨rfl, rfl⟩ ?_
  refine r_aload rfl rfl ?_
  refine r_aload rfl rfl ?_
  refine r_getI (c := 4) (k := 5) rfl (shMom h1) ⟨rfl, rfl⟩ ?_
  refine r_putI (c := 4) (k := 5) rfl (shMom h0) ⟨rfl, rfl⟩ ?_
  refine r_aload rfl rfl ?_
  refine r_aload rfl rfl ?_
  refine r_getL (c := 4) (k := 6) rfl (shMom h1) ⟨rfl, rfl⟩ ?_
  refine r_putL (c := 4) (k := 6) rfl (shMom h0) ⟨rfl, rfl⟩ ?_
  refine r_aload rfl rfl ?_
  refine r_aload rfl rfl ?_
  refine r_getI (c := 4) (k := 7) rfl (shMom h1) ⟨rfl, rfl⟩ ?_
  refine r_putI (c := 4) (k := 7) rfl (shMom h0) ⟨rfl, rfl⟩ ?_
  refine r_vret rfl ?_
  first | exact hQ | simpa only [if_true] using hQ
def r_X0_add (I : Nat → Nat → Int32) (L : Nat → Nat → Int64) (a1 : Nat) : Option gRs := (if gvp (grem ((I 20 1) + (I 20 2)) (nI 14)) 14 = true then some (0, (if (nI 14) ≤ ((i_X4_become I L (22 + gx (grem ((I 20 1) + (I 20 2)) (nI 14))) a1) 20 2) then (gu2 (i_X4_become I L (22 + gx (grem ((I 20 1) + (I 20 2)) (nI 14))) a1) 20 1 (grem (((i_X4_become I L (22 + gx (grem ((I 20 1) + (I 20 2)) (nI 14))) a1) 20 1) + (nI 1)) (nI 14))) else (gu2 (i_X4_become I L (22 + gx (grem ((I 20 1) + (I 20 2)) (nI 14))) a1) 20 2 (((i_X4_become I L (22 + gx (grem ((I 20 1) + (I 20 2)) (nI 14))) a1) 20 2) + (nI 1)))), (l_X4_become I L (22 + gx (grem ((I 20 1) + (I 20 2)) (nI 14))) a1)) else none)
set_option maxHeartbeats 4000000 in
set_option maxRecDepth 100000 in
theorem s_X0_add {n f g d : Nat} {Q : gP} {I : Nat → Nat → Int32} {L : Nat → Nat → Int64} {a1 : Nat} {z : gRs} (h1 : gmo a1 = true) (hr : r_X0_add I L a1 = some z) (hQ : Q none (gKn n, gRf f g, z.2.1, z.2.2)) : gR gM (d + 1) 3 [.ref 20, .ref a1] (gKn n, gRf f g, I, L) Q := by
  unfold r_X0_add at hr
  show gW gM (d + 1) 0 0 k_X0_add 0 [.ref 20, .ref a1] [] (gKn n, gRf f g, I, L) Q
  refine r_aload rfl rfl ?_
  refine r_getR (c := 0) (k := 0) (v := 21) rfl rfl ⟨rfl, rfl⟩ rfl ?_
  refine r_aload rfl rfl ?_
  refine r_getI (c := 0) (k := 1) rfl rfl ⟨rfl, rfl⟩ ?_
  refine r_aload rfl rfl ?_
  refine r_getI (c := 0) (k := 2) rfl rfl ⟨rfl, rfl⟩ ?_
  refine r_iadd rfl ?_
  refine r_const rfl (gcst 14) ?_
  refine r_irem rfl (nI_ne0 (n := 14) (by decide) (by decide)) ?_
  obtain ⟨b3, hr⟩ := gopt hr
  refine r_aaload (n := 14) (v := (22 + gx (grem ((I 20 1) + (I 20 2)) (nI 14)))) rfl rfl (gvp_in b3) (rfAhead (gvp_in b3)) ?_
  refine r_aload rfl rfl ?_
  refine r_invv (a := (22 + gx (grem ((I 20 1) + (I 20 2)) (nI 14)))) [.ref a1] rfl rfl (shMom (moAhead (gvp_in b3))) rfl rfl (Nat.le_of_ble_eq_true rfl) ⟨rfl, rfl⟩ ?_
  refine s_X4_become (moAhead (gvp_in b3)) h1 ?_
  show gW _ _ _ _ _ 12 [.ref 20, .ref a1] [] (gKn n, gRf f g, (i_X4_become I L (22 + gx (grem ((I 20 1) + (I 20 2)) (nI 14))) a1), (l_X4_become I L (22 + gx (grem ((I 20 1) + (I 20 2)) (nI 14))) a1)) _
  refine r_aload rfl rfl ?_
  refine r_getI (c := 0) (k := 2) rfl rfl ⟨rfl, rfl⟩ ?_
  refine r_const rfl (gcst 14) ?_
  have j5 : gW gM (d + 1) 0 0 k_X0_add 31 [.ref 20, .ref a1] [] (gKn n, gRf f g, (if (nI 14) ≤ ((i_X4_become I L (22 + gx (grem ((I 20 1) + (I 20 2)) (nI 14))) a1) 20 2) then (gu2 (i_X4_become I L (22 + gx (grem ((I 20 1) + (I 20 2)) (nI 14))) a1) 20 1 (grem (((i_X4_become I L (22 + gx (grem ((I 20 1) + (I 20 2)) (nI 14))) a1) 20 1) + (nI 1)) (nI 14))) else (gu2 (i_X4_become I L (22 + gx (grem ((I 20 1) + (I 20 2)) (nI 14))) a1) 20 2 (((i_X4_become I L (22 + gx (grem ((I 20 1) + (I 20 2)) (nI 14))) a1) 20 2) + (nI 1)))), (l_X4_become I L (22 + gx (grem ((I 20 1) + (I 20 2)) (nI 14))) a1)) Q := by
    refine r_vret rfl ?_
    cases hr
    exact hQ
  refine r_icmp_ge 23 rfl rfl (fun c4 => ?_) (fun c4 => ?_)
  · refine r_aload rfl rfl ?_
    refine r_aload rfl rfl ?_
    refine r_getI (c := 0) (k := 1) rfl rfl ⟨rfl, rfl⟩ ?_
    refine r_const rfl (gcst 1) ?_
    refine r_iadd rfl ?_
    refine r_const rfl (gcst 14) ?_
    refine r_irem rfl (nI_ne0 (n := 14) (by decide) (by decide)) ?_
    refine r_putI (c := 0) (k := 1) rfl rfl ⟨rfl, rfl⟩ ?_
    first | contradiction | simpa only [if_pos c4] using j5
  · refine r_aload rfl rfl ?_
    refine r_dup rfl rfl ?_
    refine r_getI (c := 0) (k := 2) rfl rfl ⟨rfl, rfl⟩ ?_
    refine r_const rfl (gcst 1) ?_
    refine r_iadd rfl ?_
    refine r_putI (c := 0) (k := 2) rfl rfl ⟨rfl, rfl⟩ ?_
    refine r_goto 31 rfl rfl ?_
    first | contradiction | simpa only [if_neg c4] using j5
def r_X0_takeLast_21 (a1 : Nat)   (I : Nat → Nat → Int32) (L : Nat → Nat → Int64) : Option gRs := some (0, I, L)
set_option maxHeartbeats 4000000 in
set_option maxRecDepth 100000 in
theorem t_X0_takeLast_21 {n f g d : Nat} {Q : gP} {z : gRs} {a1 : Nat} (h1 : gmo a1 = true)   {I : Nat → Nat → Int32} {L : Nat → Nat → Int64} (hr : r_X0_takeLast_21 a1 I L = some z) (hQ : Q none (gKn n, gRf f g, z.2.1, z.2.2)) : gW gM (d + 1) 0 0 k_X0_takeLast 21 [.null, .null] [] (gKn n, gRf f g, I, L) Q := by
  unfold r_X0_takeLast_21 at hr
  refine r_vret rfl ?_
  cases hr
  exact hQ
def r_X0_takeLast (I : Nat → Nat → Int32) (L : Nat → Nat → Int64) (a1 : Nat) : Option gRs := (if (I 20 2) ≤ 0 then (r_X0_takeLast_21 a1 I L) else (if gvp (grem (((gu2 I 20 2 ((I 20 2) - (nI 1))) 20 1) + ((gu2 I 20 2 ((I 20 2) - (nI 1))) 20 2)) (nI 14)) 14 = true then (r_X0_takeLast_21 a1 (i_X4_become (gu2 I 20 2 ((I 20 2) - (nI 1))) L a1 (22 + gx (grem (((gu2 I 20 2 ((I 20 2) - (nI 1))) 20 1) + ((gu2 I 20 2 ((I 20 2) - (nI 1))) 20 2)) (nI 14)))) (l_X4_become (gu2 I 20 2 ((I 20 2) - (nI 1))) L a1 (22 + gx (grem (((gu2 I 20 2 ((I 20 2) - (nI 1))) 20 1) + ((gu2 I 20 2 ((I 20 2) - (nI 1))) 20 2)) (nI 14))))) else none))
set_option maxHeartbeats 4000000 in
set_option maxRecDepth 100000 in
theorem s_X0_takeLast {n f g d : Nat} {Q : gP} {I : Nat → Nat → Int32} {L : Nat → Nat → Int64} {a1 : Nat} {z : gRs} (h1 : gmo a1 = true) (hr : r_X0_takeLast I L a1 = some z) (hQ : Q none (gKn n, gRf f g, z.2.1, z.2.2)) : gR gM (d + 1) 4 [.ref 20, .ref a1] (gKn n, gRf f g, I, L) Q := by
  unfold r_X0_takeLast at hr
  show gW gM (d + 1) 0 0 k_X0_takeLast 0 [.ref 20, .ref a1] [] (gKn n, gRf f g, I, L) Q
  refine r_aload rfl rfl ?_
  refine r_getI (c := 0) (k := 2) rfl rfl ⟨rfl, rfl⟩ ?_
  refine r_if_le 21 rfl rfl (fun c5 => ?_) (fun c5 => ?_)
  · rw [if_pos c5] at hr
    refine gforget (ls := [.null, .null]) ⟨(Or.inr (Or.inr ⟨rfl, _, rfl⟩)), ⟨(Or.inr (Or.inr ⟨rfl, _, rfl⟩)), trivial⟩⟩ ?_
    exact t_X0_takeLast_21 h1 hr hQ
  · rw [if_neg c5] at hr
    refine r_aload rfl rfl ?_
    refine r_dup rfl rfl ?_
    refine r_getI (c := 0) (k := 2) rfl rfl ⟨rfl, rfl⟩ ?_
    refine r_const rfl (gcst 1) ?_
    refine r_isub rfl ?_
    refine r_putI (c := 0) (k := 2) rfl rfl ⟨rfl, rfl⟩ ?_
    refine r_aload rfl rfl ?_
    refine r_aload rfl rfl ?_
    refine r_getR (c := 0) (k := 0) (v := 21) rfl rfl ⟨rfl, rfl⟩ rfl ?_
    refine r_aload rfl rfl ?_
    refine r_getI (c := 0) (k := 1) rfl rfl ⟨rfl, rfl⟩ ?_
    refine r_aload rfl rfl ?_
    refine r_getI (c := 0) (k := 2) rfl rfl ⟨rfl, rfl⟩ ?_
    refine r_iadd rfl ?_
    refine r_const rfl (gcst 14) ?_
    refine r_irem rfl (nI_ne0 (n := 14) (by decide) (by decide)) ?_
    obtain ⟨b6, hr⟩ := gopt hr
    refine r_aaload (n := 14) (v := (22 + gx (grem (((gu2 I 20 2 ((I 20 2) - (nI 1))) 20 1) + ((gu2 I 20 2 ((I 20 2) - (nI 1))) 20 2)) (nI 14)))) rfl rfl (gvp_in b6) (rfAhead (gvp_in b6)) ?_
    refine r_invv (a := a1) [.ref (22 + gx (grem (((gu2 I 20 2 ((I 20 2) - (nI 1))) 20 1) + ((gu2 I 20 2 ((I 20 2) - (nI 1))) 20 2)) (nI 14)))] rfl rfl (shMom h1) rfl rfl (Nat.le_of_ble_eq_true rfl) ⟨rfl, rfl⟩ ?_
    refine s_X4_become h1 (moAhead (gvp_in b6)) ?_
    show gW _ _ _ _ _ 21 [.ref 20, .ref a1] [] (gKn n, gRf f g, (i_X4_become (gu2 I 20 2 ((I 20 2) - (nI 1))) L a1 (22 + gx (grem (((gu2 I 20 2 ((I 20 2) - (nI 1))) 20 1) + ((gu2 I 20 2 ((I 20 2) - (nI 1))) 20 2)) (nI 14)))), (l_X4_become (gu2 I 20 2 ((I 20 2) - (nI 1))) L a1 (22 + gx (grem (((gu2 I 20 2 ((I 20 2) - (nI 1))) 20 1) + ((gu2 I 20 2 ((I 20 2) - (nI 1))) 20 2)) (nI 14))))) _
    refine gforget (ls := [.null, .null]) ⟨(Or.inr (Or.inr ⟨rfl, _, rfl⟩)), ⟨(Or.inr (Or.inr ⟨rfl, _, rfl⟩)), trivial⟩⟩ ?_
    exact t_X0_takeLast_21 h1 hr hQ
def f_X1_mayStart (I : Nat → Nat → Int32) (L : Nat → Nat → Int64) (a0 : Nat) (a1 : Int32) : Int32 := (if (if a1 = (nI 66) then false else (if a1 = (nI 71) then true else false)) = true then (if (nI 5) ≤ (I a0 0) then (nI 0) else (nI 1)) else (if a1 = (nI 66) then (if (nI 5) ≤ (I a0 2) then (nI 0) else (nI 1)) else (if a1 = (nI 76) then (if (nI 3) ≤ (I a0 1) then (nI 0) else (if (I a0 0) ≤ 0 then (nI 0) else (nI 1))) else (if a1 = (nI 86) then (if (nI 2) ≤ (I a0 3) then (nI 0) else (nI 1)) else (nI 0)))))
set_option maxHeartbeats 4000000 in
set_option maxRecDepth 100000 in
theorem s_X1_mayStart {n f g d : Nat} {Q : gP} {I : Nat → Nat → Int32} {L : Nat → Nat → Int64} {a0 : Nat} {a1 : Int32} (h0 : gfe a0 = true) (hQ : Q (some (.int (f_X1_mayStart I L a0 a1))) (gKn n, gRf f g, I, L)) : gR gM (d + 0) 8 [.ref a0, .int a1] (gKn n, gRf f g, I, L) Q := by
  unfold f_X1_mayStart at hQ
  show gW gM (d + 0) 0 0 k_X1_mayStart 0 [.ref a0, .int a1] [] (gKn n, gRf f g, I, L) Q
  refine r_iload rfl rfl ?_
  have j10 : (if a1 = (nI 66) then false else (if a1 = (nI 71) then true else false)) = true → gW gM (d + 0) 0 0 k_X1_mayStart 9 [.ref a0, .int a1] [.int (if (nI 5) ≤ (I a0 0) then (nI 0) else (nI 1))] (gKn n, gRf f g, I, L) Q := by
    intro hq
    try simp only [if_pos hq] at hQ
    refine r_zret rfl (by split <;> (try split) <;> (try split) <;> decide) ?_
    first | exact hQ | simpa only [if_true] using hQ
  by_cases c1 : a1 = (nI 66)
  · try simp only [if_pos c1] at hQ
    refine r_lsw 21 rfl (by rw [c1]; decide +kernel) ?_
    refine r_aload rfl rfl ?_
    refine r_getI (c := 1) (k := 2) rfl (shFen h0) ⟨rfl, rfl⟩ ?_
    refine r_const rfl (gcst 5) ?_
    have j11 : gW gM (d + 0) 0 0 k_X1_mayStart 28 [.ref a0, .int a1] [.int (if (nI 5) ≤ (I a0 2) then (nI 0) else (nI 1))] (gKn n, gRf f g, I, L) Q := by
      refine r_zret rfl (by split <;> (try split) <;> (try split) <;> decide) ?_
      try simp only [Bool.false_eq_true, if_false] at hQ
      first | exact hQ | simpa only [if_pos c1] using hQ
    refine r_icmp_ge 27 rfl rfl (fun c2 => ?_) (fun c2 => ?_)
    · try simp only [if_pos c2] at hQ
      refine r_const rfl (gcst 0) ?_
      simpa only [if_pos c2] using j11
    · try simp only [if_neg c2] at hQ
      refine r_const rfl (gcst 1) ?_
      refine r_goto 28 rfl rfl ?_
      simpa only [if_neg c2] using j11
  · try simp only [if_neg c1] at hQ
    by_cases c3 : a1 = (nI 71)
    · try simp only [if_pos c3] at hQ
      refine r_lsw 2 rfl (by rw [c3]; decide +kernel) ?_
      refine r_aload rfl rfl ?_
      refine r_getI (c := 1) (k := 0) rfl (shFen h0) ⟨rfl, rfl⟩ ?_
      refine r_const rfl (gcst 5) ?_
      refine r_icmp_ge 8 rfl rfl (fun c4 => ?_) (fun c4 => ?_)
      · try simp only [if_pos c4] at hQ
        refine r_const rfl (gcst 0) ?_
        have hx := j10
        simp only [if_neg c1, if_pos c3, if_pos c4] at hx ⊢
        exact hx (by first | trivial | rfl)
      · try simp only [if_neg c4] at hQ
        refine r_const rfl (gcst 1) ?_
        refine r_goto 9 rfl rfl ?_
        have hx := j10
        simp only [if_neg c1, if_pos c3, if_neg c4] at hx ⊢
        exact hx (by first | trivial | rfl)
    · try simp only [if_neg c3] at hQ
      by_cases c5 : a1 = (nI 76)
      · try simp only [if_pos c5] at hQ
        refine r_lsw 10 rfl (by rw [c5]; decide +kernel) ?_
        refine r_aload rfl rfl ?_
        refine r_getI (c := 1) (k := 1) rfl (shFen h0) ⟨rfl, rfl⟩ ?_
        refine r_const rfl (gcst 3) ?_
        have j12 : gW gM (d + 0) 0 0 k_X1_mayStart 20 [.ref a0, .int a1] [.int (if (nI 3) ≤ (I a0 1) then (nI 0) else (if (I a0 0) ≤ 0 then (nI 0) else (nI 1)))] (gKn n, gRf f g, I, L) Q := by
          refine r_zret rfl (by split <;> (try split) <;> (try split) <;> decide) ?_
          try simp only [Bool.false_eq_true, if_false] at hQ
          first | exact hQ | simpa only [if_neg c1, if_neg c3, if_pos c5] using hQ
        refine r_icmp_ge 19 rfl rfl (fun c6 => ?_) (fun c6 => ?_)
        · try simp only [if_pos c6] at hQ
          refine r_const rfl (gcst 0) ?_
          simpa only [if_pos c6] using j12
        · try simp only [if_neg c6] at hQ
          refine r_aload rfl rfl ?_
          refine r_getI (c := 1) (k := 0) rfl (shFen h0) ⟨rfl, rfl⟩ ?_
          refine r_if_le 19 rfl rfl (fun c7 => ?_) (fun c7 => ?_)
          · try simp only [if_pos c7] at hQ
            refine r_const rfl (gcst 0) ?_
            simpa only [if_neg c6, if_pos c7] using j12
          · try simp only [if_neg c7] at hQ
            refine r_const rfl (gcst 1) ?_
            refine r_goto 20 rfl rfl ?_
            simpa only [if_neg c6, if_neg c7] using j12
      · try simp only [if_neg c5] at hQ
        by_cases c8 : a1 = (nI 86)
        · try simp only [if_pos c8] at hQ
          refine r_lsw 29 rfl (by rw [c8]; decide +kernel) ?_
          refine r_aload rfl rfl ?_
          refine r_getI (c := 1) (k := 3) rfl (shFen h0) ⟨rfl, rfl⟩ ?_
          refine r_const rfl (gcst 2) ?_
          have j13 : gW gM (d + 0) 0 0 k_X1_mayStart 36 [.ref a0, .int a1] [.int (if (nI 2) ≤ (I a0 3) then (nI 0) else (nI 1))] (gKn n, gRf f g, I, L) Q := by
            refine r_zret rfl (by split <;> (try split) <;> (try split) <;> decide) ?_
            try simp only [Bool.false_eq_true, if_false] at hQ
            first | exact hQ | simpa only [if_neg c1, if_neg c3, if_neg c5, if_pos c8] using hQ
          refine r_icmp_ge 35 rfl rfl (fun c9 => ?_) (fun c9 => ?_)
          · try simp only [if_pos c9] at hQ
            refine r_const rfl (gcst 0) ?_
            simpa only [if_pos c9] using j13
          · try simp only [if_neg c9] at hQ
            refine r_const rfl (gcst 1) ?_
            refine r_goto 36 rfl rfl ?_
            simpa only [if_neg c9] using j13
        · try simp only [if_neg c8] at hQ
          refine r_lsw 37 rfl (by simp only [glook, Op.lookupswitch.offset]; rw [if_neg (fun e => c1 (gI_of_toInt e.symm))]; rw [if_neg (fun e => c3 (gI_of_toInt e.symm))]; rw [if_neg (fun e => c5 (gI_of_toInt e.symm))]; rw [if_neg (fun e => c8 (gI_of_toInt e.symm))]; rfl) ?_
          refine r_const rfl (gcst 0) ?_
          refine r_zret rfl (Or.inl rfl) ?_
          try simp only [Bool.false_eq_true, if_false] at hQ
          first | exact hQ | simpa only [if_neg c1, if_neg c3, if_neg c5, if_neg c8] using hQ
def f_X1_isNote (I : Nat → Nat → Int32) (L : Nat → Nat → Int64) (a0 : Int32) : Int32 := (if a0 < (nI 97) then (nI 0) else (if (nI 108) < a0 then (nI 0) else (nI 1)))
set_option maxHeartbeats 4000000 in
set_option maxRecDepth 100000 in
theorem s_X1_isNote {n f g d : Nat} {Q : gP} {I : Nat → Nat → Int32} {L : Nat → Nat → Int64} {a0 : Int32}  (hQ : Q (some (.int (f_X1_isNote I L a0))) (gKn n, gRf f g, I, L)) : gR gM (d + 0) 14 [.int a0] (gKn n, gRf f g, I, L) Q := by
  unfold f_X1_isNote at hQ
  show gW gM (d + 0) 0 0 k_X1_isNote 0 [.int a0] [] (gKn n, gRf f g, I, L) Q
  refine r_iload rfl rfl ?_
  refine r_const rfl (gcst 97) ?_
  have j3 : gW gM (d + 0) 0 0 k_X1_isNote 9 [.int a0] [.int (if a0 < (nI 97) then (nI 0) else (if (nI 108) < a0 then (nI 0) else (nI 1)))] (gKn n, gRf f g, I, L) Q := by
    refine r_zret rfl (by split <;> (try split) <;> (try split) <;> decide) ?_
    first | exact hQ | simpa only [if_true] using hQ
  refine r_icmp_lt 8 rfl rfl (fun c1 => ?_) (fun c1 => ?_)
  · try simp only [if_pos c1] at hQ
    refine r_const rfl (gcst 0) ?_
    simpa only [if_pos c1] using j3
  · try simp only [if_neg c1] at hQ
    refine r_iload rfl rfl ?_
    refine r_const rfl (gcst 108) ?_
    refine r_icmp_gt 8 rfl rfl (fun c2 => ?_) (fun c2 => ?_)
    · try simp only [if_pos c2] at hQ
      refine r_const rfl (gcst 0) ?_
      simpa only [if_neg c1, if_pos c2] using j3
    · try simp only [if_neg c2] at hQ
      refine r_const rfl (gcst 1) ?_
      refine r_goto 9 rfl rfl ?_
      simpa only [if_neg c1, if_neg c2] using j3
def f_X7_isKind (I : Nat → Nat → Int32) (L : Nat → Nat → Int64) (a0 : Int32) : Int32 := (if a0 < 0 then (nI 0) else (if (nI 4) ≤ a0 then (nI 0) else (nI 1)))
set_option maxHeartbeats 4000000 in
set_option maxRecDepth 100000 in
theorem s_X7_isKind {n f g d : Nat} {Q : gP} {I : Nat → Nat → Int32} {L : Nat → Nat → Int64} {a0 : Int32}  (hQ : Q (some (.int (f_X7_isKind I L a0))) (gKn n, gRf f g, I, L)) : gR gM (d + 0) 91 [.int a0] (gKn n, gRf f g, I, L) Q := by
  unfold f_X7_isKind at hQ
  show gW gM (d + 0) 0 0 k_X7_isKind 0 [.int a0] [] (gKn n, gRf f g, I, L) Q
  refine r_iload rfl rfl ?_
  have j3 : gW gM (d + 0) 0 0 k_X7_isKind 8 [.int a0] [.int (if a0 < 0 then (nI 0) else (if (nI 4) ≤ a0 then (nI 0) else (nI 1)))] (gKn n, gRf f g, I, L) Q := by
    refine r_zret rfl (by split <;> (try split) <;> (try split) <;> decide) ?_
    first | exact hQ | simpa only [if_true] using hQ
  refine r_if_lt 7 rfl rfl (fun c1 => ?_) (fun c1 => ?_)
  · try simp only [if_pos c1] at hQ
    refine r_const rfl (gcst 0) ?_
    simpa only [if_pos c1] using j3
  · try simp only [if_neg c1] at hQ
    refine r_iload rfl rfl ?_
    refine r_const rfl (gcst 4) ?_
    refine r_icmp_ge 7 rfl rfl (fun c2 => ?_) (fun c2 => ?_)
    · try simp only [if_pos c2] at hQ
      refine r_const rfl (gcst 0) ?_
      simpa only [if_neg c1, if_pos c2] using j3
    · try simp only [if_neg c2] at hQ
      refine r_const rfl (gcst 1) ?_
      refine r_goto 8 rfl rfl ?_
      simpa only [if_neg c1, if_neg c2] using j3
def r_X1_takesGate (I : Nat → Nat → Int32) (L : Nat → Nat → Int64) (a0 : Nat) (a1 : Int32) : Option gRs := (if (I a0 0) < (nI 5) then (if ¬ (I a0 12) = 0 then (if gvp (I a0 0) 5 = true then (if ((f_X7_isKind (gu2 (gu2 (gu2 I (a0 + 2) (gx (I a0 0)) (a1 - (nI 48))) a0 0 (((gu2 I (a0 + 2) (gx (I a0 0)) (a1 - (nI 48))) a0 0) + (nI 1))) a0 11 (nI 0)) L (a1 - (nI 48))) = 0 ∨ (f_X7_isKind (gu2 (gu2 (gu2 I (a0 + 2) (gx (I a0 0)) (a1 - (nI 48))) a0 0 (((gu2 I (a0 + 2) (gx (I a0 0)) (a1 - (nI 48))) a0 0) + (nI 1))) a0 11 (nI 0)) L (a1 - (nI 48))) = 1) then some ((f_X7_isKind (gu2 (gu2 (gu2 I (a0 + 2) (gx (I a0 0)) (a1 - (nI 48))) a0 0 (((gu2 I (a0 + 2) (gx (I a0 0)) (a1 - (nI 48))) a0 0) + (nI 1))) a0 11 (nI 0)) L (a1 - (nI 48))), (gu2 (gu2 (gu2 I (a0 + 2) (gx (I a0 0)) (a1 - (nI 48))) a0 0 (((gu2 I (a0 + 2) (gx (I a0 0)) (a1 - (nI 48))) a0 0) + (nI 1))) a0 11 (nI 0)), L) else none) else none) else (if gvp ((gu2 I a0 12 (nI 1)) a0 0) 5 = true then (if ((f_X1_isNote (gu2 (gu2 I a0 12 (nI 1)) (a0 + 1) (gx ((gu2 I a0 12 (nI 1)) a0 0)) (a1 - (nI 97))) L a1) = 0 ∨ (f_X1_isNote (gu2 (gu2 I a0 12 (nI 1)) (a0 + 1) (gx ((gu2 I a0 12 (nI 1)) a0 0)) (a1 - (nI 97))) L a1) = 1) then some ((f_X1_isNote (gu2 (gu2 I a0 12 (nI 1)) (a0 + 1) (gx ((gu2 I a0 12 (nI 1)) a0 0)) (a1 - (nI 97))) L a1), (gu2 (gu2 I a0 12 (nI 1)) (a0 + 1) (gx ((gu2 I a0 12 (nI 1)) a0 0)) (a1 - (nI 97))), L) else none) else none)) else some ((nI 0), I, L))
set_option maxHeartbeats 4000000 in
set_option maxRecDepth 100000 in
theorem s_X1_takesGate {n f g d : Nat} {Q : gP} {I : Nat → Nat → Int32} {L : Nat → Nat → Int64} {a0 : Nat} {a1 : Int32} {z : gRs} (h0 : gfe a0 = true) (hr : r_X1_takesGate I L a0 a1 = some z) (hQ : Q (some (.int z.1)) (gKn n, gRf f g, z.2.1, z.2.2)) : gR gM (d + 1) 10 [.ref a0, .int a1] (gKn n, gRf f g, I, L) Q := by
  unfold r_X1_takesGate at hr
  show gW gM (d + 1) 0 0 k_X1_takesGate 0 [.ref a0, .int a1] [] (gKn n, gRf f g, I, L) Q
  refine r_aload rfl rfl ?_
  refine r_getI (c := 1) (k := 0) rfl (shFen h0) ⟨rfl, rfl⟩ ?_
  refine r_const rfl (gcst 5) ?_
  refine r_icmp_lt 6 rfl rfl (fun c7 => ?_) (fun c7 => ?_)
  · rw [if_pos c7] at hr
    refine r_aload rfl rfl ?_
    refine r_getI (c := 1) (k := 12) rfl (shFen h0) ⟨rfl, rfl⟩ ?_
    refine r_if_ne 23 rfl rfl (fun c8 => ?_) (fun c8 => ?_)
    · rw [if_pos c8] at hr
      refine r_aload rfl rfl ?_
      refine r_getR (c := 1) (k := 6) (v := (a0 + 2)) rfl (shFen h0) ⟨rfl, rfl⟩ (rfFen6 h0) ?_
      refine r_aload rfl rfl ?_
      refine r_getI (c := 1) (k := 0) rfl (shFen h0) ⟨rfl, rfl⟩ ?_
      refine r_iload rfl rfl ?_
      refine r_const rfl (gcst 48) ?_
      refine r_isub rfl ?_
      obtain ⟨b9, hr⟩ := gopt hr
      refine r_iastore (n := 5) rfl (shFen6 h0) (gvp_in b9) (ne1Fen h0) ?_
      refine r_aload rfl rfl ?_
      refine r_dup rfl rfl ?_
      refine r_getI (c := 1) (k := 0) rfl (shFen h0) ⟨rfl, rfl⟩ ?_
      refine r_const rfl (gcst 1) ?_
      refine r_iadd rfl ?_
      refine r_putI (c := 1) (k := 0) rfl (shFen h0) ⟨rfl, rfl⟩ ?_
      refine r_aload rfl rfl ?_
      refine r_const rfl (gcst 0) ?_
      refine r_putI (c := 1) (k := 11) rfl (shFen h0) ⟨rfl, rfl⟩ ?_
      refine r_iload rfl rfl ?_
      refine r_const rfl (gcst 48) ?_
      refine r_isub rfl ?_
      refine r_invs [.int (a1 - (nI 48))] rfl rfl rfl rfl (Nat.le_of_ble_eq_true rfl) ⟨rfl, rfl⟩ ?_
      refine s_X7_isKind  ?_
      show gW _ _ _ _ _ 44 [.ref a0, .int a1] [.int (f_X7_isKind (gu2 (gu2 (gu2 I (a0 + 2) (gx (I a0 0)) (a1 - (nI 48))) a0 0 (((gu2 I (a0 + 2) (gx (I a0 0)) (a1 - (nI 48))) a0 0) + (nI 1))) a0 11 (nI 0)) L (a1 - (nI 48)))] (gKn n, gRf f g, (gu2 (gu2 (gu2 I (a0 + 2) (gx (I a0 0)) (a1 - (nI 48))) a0 0 (((gu2 I (a0 + 2) (gx (I a0 0)) (a1 - (nI 48))) a0 0) + (nI 1))) a0 11 (nI 0)), L) _
      obtain ⟨b10, hr⟩ := gopt hr
      refine r_zret rfl b10 ?_
      cases hr
      exact hQ
    · rw [if_neg c8] at hr
      refine r_aload rfl rfl ?_
      refine r_const rfl (gcst 1) ?_
      refine r_putI (c := 1) (k := 12) rfl (shFen h0) ⟨rfl, rfl⟩ ?_
      refine r_aload rfl rfl ?_
      refine r_getR (c := 1) (k := 5) (v := (a0 + 1)) rfl (shFen h0) ⟨rfl, rfl⟩ (rfFen5 h0) ?_
      refine r_aload rfl rfl ?_
      refine r_getI (c := 1) (k := 0) rfl (shFen h0) ⟨rfl, rfl⟩ ?_
      refine r_iload rfl rfl ?_
      refine r_const rfl (gcst 97) ?_
      refine r_isub rfl ?_
      obtain ⟨b11, hr⟩ := gopt hr
      refine r_iastore (n := 5) rfl (shFen5 h0) (gvp_in b11) (ne1Fen h0) ?_
      refine r_iload rfl rfl ?_
      refine r_invs [.int a1] rfl rfl rfl rfl (Nat.le_of_ble_eq_true rfl) ⟨rfl, rfl⟩ ?_
      refine s_X1_isNote  ?_
      show gW _ _ _ _ _ 22 [.ref a0, .int a1] [.int (f_X1_isNote (gu2 (gu2 I a0 12 (nI 1)) (a0 + 1) (gx ((gu2 I a0 12 (nI 1)) a0 0)) (a1 - (nI 97))) L a1)] (gKn n, gRf f g, (gu2 (gu2 I a0 12 (nI 1)) (a0 + 1) (gx ((gu2 I a0 12 (nI 1)) a0 0)) (a1 - (nI 97))), L) _
      obtain ⟨b12, hr⟩ := gopt hr
      refine r_zret rfl b12 ?_
      cases hr
      exact hQ
  · rw [if_neg c7] at hr
    refine r_const rfl (gcst 0) ?_
    refine r_zret rfl (Or.inl rfl) ?_
    cases hr
    exact hQ
def f_X1_isGate (I : Nat → Nat → Int32) (L : Nat → Nat → Int64) (a0 : Nat) (a1 : Int32) : Int32 := (if a1 < 0 then (nI 0) else (if (I a0 0) ≤ a1 then (nI 0) else (nI 1)))
set_option maxHeartbeats 4000000 in
set_option maxRecDepth 100000 in
theorem s_X1_isGate {n f g d : Nat} {Q : gP} {I : Nat → Nat → Int32} {L : Nat → Nat → Int64} {a0 : Nat} {a1 : Int32} (h0 : gfe a0 = true) (hQ : Q (some (.int (f_X1_isGate I L a0 a1))) (gKn n, gRf f g, I, L)) : gR gM (d + 0) 15 [.ref a0, .int a1] (gKn n, gRf f g, I, L) Q := by
  unfold f_X1_isGate at hQ
  show gW gM (d + 0) 0 0 k_X1_isGate 0 [.ref a0, .int a1] [] (gKn n, gRf f g, I, L) Q
  refine r_iload rfl rfl ?_
  have j3 : gW gM (d + 0) 0 0 k_X1_isGate 9 [.ref a0, .int a1] [.int (if a1 < 0 then (nI 0) else (if (I a0 0) ≤ a1 then (nI 0) else (nI 1)))] (gKn n, gRf f g, I, L) Q := by
    refine r_zret rfl (by split <;> (try split) <;> (try split) <;> decide) ?_
    first | exact hQ | simpa only [if_true] using hQ
  refine r_if_lt 8 rfl rfl (fun c1 => ?_) (fun c1 => ?_)
  · try simp only [if_pos c1] at hQ
    refine r_const rfl (gcst 0) ?_
    simpa only [if_pos c1] using j3
  · try simp only [if_neg c1] at hQ
    refine r_iload rfl rfl ?_
    refine r_aload rfl rfl ?_
    refine r_getI (c := 1) (k := 0) rfl (shFen h0) ⟨rfl, rfl⟩ ?_
    refine r_icmp_ge 8 rfl rfl (fun c2 => ?_) (fun c2 => ?_)
    · try simp only [if_pos c2] at hQ
      refine r_const rfl (gcst 0) ?_
      simpa only [if_neg c1, if_pos c2] using j3
    · try simp only [if_neg c2] at hQ
      refine r_const rfl (gcst 1) ?_
      refine r_goto 9 rfl rfl ?_
      simpa only [if_neg c1, if_neg c2] using j3
def r_X1_takesLane_47 (a0 : Nat)   (I : Nat → Nat → Int32) (L : Nat → Nat → Int64) : Option gRs := some ((nI 1), I, L)
set_option maxHeartbeats 4000000 in
set_option maxRecDepth 100000 in
theorem t_X1_takesLane_47 {n f g d : Nat} {Q : gP} {z : gRs} {a0 : Nat} (h0 : gfe a0 = true)   {I : Nat → Nat → Int32} {L : Nat → Nat → Int64} (hr : r_X1_takesLane_47 a0 I L = some z) (hQ : Q (some (.int z.1)) (gKn n, gRf f g, z.2.1, z.2.2)) : gW gM (d + 1) 0 0 k_X1_takesLane 47 [.null, .null, .null] [] (gKn n, gRf f g, I, L) Q := by
  unfold r_X1_takesLane_47 at hr
  refine r_const rfl (gcst 1) ?_
  refine r_zret rfl (Or.inr rfl) ?_
  cases hr
  exact hQ
def r_X1_takesLane_19 (a0 : Nat)   (I : Nat → Nat → Int32) (L : Nat → Nat → Int64) : Option gRs := some ((nI 0), I, L)
set_option maxHeartbeats 4000000 in
set_option maxRecDepth 100000 in
theorem t_X1_takesLane_19 {n f g d : Nat} {Q : gP} {z : gRs} {a0 : Nat} (h0 : gfe a0 = true)   {I : Nat → Nat → Int32} {L : Nat → Nat → Int64} (hr : r_X1_takesLane_19 a0 I L = some z) (hQ : Q (some (.int z.1)) (gKn n, gRf f g, z.2.1, z.2.2)) : gW gM (d + 1) 0 0 k_X1_takesLane 19 [.null, .null, .null] [] (gKn n, gRf f g, I, L) Q := by
  unfold r_X1_takesLane_19 at hr
  refine r_const rfl (gcst 0) ?_
  refine r_zret rfl (Or.inl rfl) ?_
  cases hr
  exact hQ
def r_X1_takesLane (I : Nat → Nat → Int32) (L : Nat → Nat → Int64) (a0 : Nat) (a1 : Int32) : Option gRs := (if (nI 9) ≤ (((I a0 1) * (nI 3)) + (I a0 12)) then (r_X1_takesLane_19 a0 I L) else (if ¬ (f_X1_isGate I L a0 (a1 - (nI 48))) = 0 then (if gvp (((I a0 1) * (nI 3)) + (I a0 12)) 9 = true then (if ¬ ((gu2 (gu2 I (a0 + 3) (gx (((I a0 1) * (nI 3)) + (I a0 12))) (a1 - (nI 48))) a0 12 (((gu2 I (a0 + 3) (gx (((I a0 1) * (nI 3)) + (I a0 12))) (a1 - (nI 48))) a0 12) + (nI 1))) a0 12) = (nI 3) then (r_X1_takesLane_47 a0 (gu2 (gu2 I (a0 + 3) (gx (((I a0 1) * (nI 3)) + (I a0 12))) (a1 - (nI 48))) a0 12 (((gu2 I (a0 + 3) (gx (((I a0 1) * (nI 3)) + (I a0 12))) (a1 - (nI 48))) a0 12) + (nI 1))) L) else (r_X1_takesLane_47 a0 (gu2 (gu2 (gu2 (gu2 I (a0 + 3) (gx (((I a0 1) * (nI 3)) + (I a0 12))) (a1 - (nI 48))) a0 12 (((gu2 I (a0 + 3) (gx (((I a0 1) * (nI 3)) + (I a0 12))) (a1 - (nI 48))) a0 12) + (nI 1))) a0 1 (((gu2 (gu2 I (a0 + 3) (gx (((I a0 1) * (nI 3)) + (I a0 12))) (a1 - (nI 48))) a0 12 (((gu2 I (a0 + 3) (gx (((I a0 1) * (nI 3)) + (I a0 12))) (a1 - (nI 48))) a0 12) + (nI 1))) a0 1) + (nI 1))) a0 11 (nI 0)) L)) else none) else (r_X1_takesLane_19 a0 I L)))
set_option maxHeartbeats 4000000 in
set_option maxRecDepth 100000 in
theorem s_X1_takesLane {n f g d : Nat} {Q : gP} {I : Nat → Nat → Int32} {L : Nat → Nat → Int64} {a0 : Nat} {a1 : Int32} {z : gRs} (h0 : gfe a0 = true) (hr : r_X1_takesLane I L a0 a1 = some z) (hQ : Q (some (.int z.1)) (gKn n, gRf f g, z.2.1, z.2.2)) : gR gM (d + 1) 11 [.ref a0, .int a1] (gKn n, gRf f g, I, L) Q := by
  unfold r_X1_takesLane at hr
  show gW gM (d + 1) 0 0 k_X1_takesLane 0 [.ref a0, .int a1, .null] [] (gKn n, gRf f g, I, L) Q
  refine r_aload rfl rfl ?_
  refine r_getI (c := 1) (k := 1) rfl (shFen h0) ⟨rfl, rfl⟩ ?_
  refine r_const rfl (gcst 3) ?_
  refine r_imul rfl ?_
  refine r_aload rfl rfl ?_
  refine r_getI (c := 1) (k := 12) rfl (shFen h0) ⟨rfl, rfl⟩ ?_
  refine r_iadd rfl ?_
  refine r_istore [.ref a0, .int a1, .int (((I a0 1) * (nI 3)) + (I a0 12))] rfl rfl (Nat.le_of_ble_eq_true rfl) rfl ?_
  refine r_iload rfl rfl ?_
  refine r_aload rfl rfl ?_
  refine r_getR (c := 1) (k := 7) (v := (a0 + 3)) rfl (shFen h0) ⟨rfl, rfl⟩ (rfFen7 h0) ?_
  refine r_alen 9 0 (v := nI 9) rfl (shFen7 h0) (by decide) rfl ?_
  refine r_icmp_ge 19 rfl rfl (fun c9 => ?_) (fun c9 => ?_)
  · rw [if_pos c9] at hr
    refine gforget (ls := [.null, .null, .null]) ⟨(Or.inr (Or.inr ⟨rfl, _, rfl⟩)), ⟨(Or.inr (Or.inl ⟨rfl, _, rfl⟩)), ⟨(Or.inr (Or.inl ⟨rfl, _, rfl⟩)), trivial⟩⟩⟩ ?_
    exact t_X1_takesLane_19 h0 hr hQ
  · rw [if_neg c9] at hr
    refine r_aload rfl rfl ?_
    refine r_iload rfl rfl ?_
    refine r_const rfl (gcst 48) ?_
    refine r_isub rfl ?_
    refine r_invv (a := a0) [.int (a1 - (nI 48))] rfl rfl (shFen h0) rfl rfl (Nat.le_of_ble_eq_true rfl) ⟨rfl, rfl⟩ ?_
    refine s_X1_isGate h0 ?_
    show gW _ _ _ _ _ 18 [.ref a0, .int a1, .int (((I a0 1) * (nI 3)) + (I a0 12))] [.int (f_X1_isGate I L a0 (a1 - (nI 48)))] (gKn n, gRf f g, I, L) _
    refine r_if_ne 21 rfl rfl (fun c10 => ?_) (fun c10 => ?_)
    · rw [if_pos c10] at hr
      refine r_aload rfl rfl ?_
      refine r_getR (c := 1) (k := 7) (v := (a0 + 3)) rfl (shFen h0) ⟨rfl, rfl⟩ (rfFen7 h0) ?_
      refine r_iload rfl rfl ?_
      refine r_iload rfl rfl ?_
      refine r_const rfl (gcst 48) ?_
      refine r_isub rfl ?_
      obtain ⟨b11, hr⟩ := gopt hr
      refine r_iastore (n := 9) rfl (shFen7 h0) (gvp_in b11) (ne1Fen h0) ?_
      refine r_aload rfl rfl ?_
      refine r_dup rfl rfl ?_
      refine r_getI (c := 1) (k := 12) rfl (shFen h0) ⟨rfl, rfl⟩ ?_
      refine r_const rfl (gcst 1) ?_
      refine r_iadd rfl ?_
      refine r_putI (c := 1) (k := 12) rfl (shFen h0) ⟨rfl, rfl⟩ ?_
      refine r_aload rfl rfl ?_
      refine r_getI (c := 1) (k := 12) rfl (shFen h0) ⟨rfl, rfl⟩ ?_
      refine r_const rfl (gcst 3) ?_
      refine r_icmp_ne 47 rfl rfl (fun c12 => ?_) (fun c12 => ?_)
      · rw [if_pos c12] at hr
        refine gforget (ls := [.null, .null, .null]) ⟨(Or.inr (Or.inr ⟨rfl, _, rfl⟩)), ⟨(Or.inr (Or.inl ⟨rfl, _, rfl⟩)), ⟨(Or.inr (Or.inl ⟨rfl, _, rfl⟩)), trivial⟩⟩⟩ ?_
        exact t_X1_takesLane_47 h0 hr hQ
      · rw [if_neg c12] at hr
        refine r_aload rfl rfl ?_
        refine r_dup rfl rfl ?_
        refine r_getI (c := 1) (k := 1) rfl (shFen h0) ⟨rfl, rfl⟩ ?_
        refine r_const rfl (gcst 1) ?_
        refine r_iadd rfl ?_
        refine r_putI (c := 1) (k := 1) rfl (shFen h0) ⟨rfl, rfl⟩ ?_
        refine r_aload rfl rfl ?_
        refine r_const rfl (gcst 0) ?_
        refine r_putI (c := 1) (k := 11) rfl (shFen h0) ⟨rfl, rfl⟩ ?_
        refine gforget (ls := [.null, .null, .null]) ⟨(Or.inr (Or.inr ⟨rfl, _, rfl⟩)), ⟨(Or.inr (Or.inl ⟨rfl, _, rfl⟩)), ⟨(Or.inr (Or.inl ⟨rfl, _, rfl⟩)), trivial⟩⟩⟩ ?_
        exact t_X1_takesLane_47 h0 hr hQ
    · rw [if_neg c10] at hr
      refine gforget (ls := [.null, .null, .null]) ⟨(Or.inr (Or.inr ⟨rfl, _, rfl⟩)), ⟨(Or.inr (Or.inl ⟨rfl, _, rfl⟩)), ⟨(Or.inr (Or.inl ⟨rfl, _, rfl⟩)), trivial⟩⟩⟩ ?_
      exact t_X1_takesLane_19 h0 hr hQ
def r_X1_takesBeast_28 (a0 : Nat)   (I : Nat → Nat → Int32) (L : Nat → Nat → Int64) : Option gRs := some ((nI 0), I, L)
set_option maxHeartbeats 4000000 in
set_option maxRecDepth 100000 in
theorem t_X1_takesBeast_28 {n f g d : Nat} {Q : gP} {z : gRs} {a0 : Nat} (h0 : gfe a0 = true)   {I : Nat → Nat → Int32} {L : Nat → Nat → Int64} (hr : r_X1_takesBeast_28 a0 I L = some z) (hQ : Q (some (.int z.1)) (gKn n, gRf f g, z.2.1, z.2.2)) : gW gM (d + 1) 0 0 k_X1_takesBeast 28 [.null, .null] [] (gKn n, gRf f g, I, L) Q := by
  unfold r_X1_takesBeast_28 at hr
  refine r_const rfl (gcst 0) ?_
  refine r_zret rfl (Or.inl rfl) ?_
  cases hr
  exact hQ
def r_X1_takesBeast (I : Nat → Nat → Int32) (L : Nat → Nat → Int64) (a0 : Nat) (a1 : Int32) : Option gRs := (if (I a0 2) < (nI 5) then (if ¬ (I a0 12) = 0 then (if gvp (I a0 2) 5 = true then (if ((f_X7_isKind (gu2 (gu2 (gu2 I (a0 + 5) (gx (I a0 2)) (a1 - (nI 48))) a0 2 (((gu2 I (a0 + 5) (gx (I a0 2)) (a1 - (nI 48))) a0 2) + (nI 1))) a0 11 (nI 0)) L (a1 - (nI 48))) = 0 ∨ (f_X7_isKind (gu2 (gu2 (gu2 I (a0 + 5) (gx (I a0 2)) (a1 - (nI 48))) a0 2 (((gu2 I (a0 + 5) (gx (I a0 2)) (a1 - (nI 48))) a0 2) + (nI 1))) a0 11 (nI 0)) L (a1 - (nI 48))) = 1) then some ((f_X7_isKind (gu2 (gu2 (gu2 I (a0 + 5) (gx (I a0 2)) (a1 - (nI 48))) a0 2 (((gu2 I (a0 + 5) (gx (I a0 2)) (a1 - (nI 48))) a0 2) + (nI 1))) a0 11 (nI 0)) L (a1 - (nI 48))), (gu2 (gu2 (gu2 I (a0 + 5) (gx (I a0 2)) (a1 - (nI 48))) a0 2 (((gu2 I (a0 + 5) (gx (I a0 2)) (a1 - (nI 48))) a0 2) + (nI 1))) a0 11 (nI 0)), L) else none) else none) else (if gvp ((gu2 I a0 12 (nI 1)) a0 2) 5 = true then (if a1 < (nI 49) then (r_X1_takesBeast_28 a0 (gu2 (gu2 I a0 12 (nI 1)) (a0 + 4) (gx ((gu2 I a0 12 (nI 1)) a0 2)) (a1 - (nI 48))) L) else (if (nI 57) < a1 then (r_X1_takesBeast_28 a0 (gu2 (gu2 I a0 12 (nI 1)) (a0 + 4) (gx ((gu2 I a0 12 (nI 1)) a0 2)) (a1 - (nI 48))) L) else some ((nI 1), (gu2 (gu2 I a0 12 (nI 1)) (a0 + 4) (gx ((gu2 I a0 12 (nI 1)) a0 2)) (a1 - (nI 48))), L))) else none)) else some ((nI 0), I, L))
set_option maxHeartbeats 4000000 in
set_option maxRecDepth 100000 in
theorem s_X1_takesBeast {n f g d : Nat} {Q : gP} {I : Nat → Nat → Int32} {L : Nat → Nat → Int64} {a0 : Nat} {a1 : Int32} {z : gRs} (h0 : gfe a0 = true) (hr : r_X1_takesBeast I L a0 a1 = some z) (hQ : Q (some (.int z.1)) (gKn n, gRf f g, z.2.1, z.2.2)) : gR gM (d + 1) 12 [.ref a0, .int a1] (gKn n, gRf f g, I, L) Q := by
  unfold r_X1_takesBeast at hr
  show gW gM (d + 1) 0 0 k_X1_takesBeast 0 [.ref a0, .int a1] [] (gKn n, gRf f g, I, L) Q
  refine r_aload rfl rfl ?_
  refine r_getI (c := 1) (k := 2) rfl (shFen h0) ⟨rfl, rfl⟩ ?_
  refine r_const rfl (gcst 5) ?_
  refine r_icmp_lt 6 rfl rfl (fun c15 => ?_) (fun c15 => ?_)
  · rw [if_pos c15] at hr
    refine r_aload rfl rfl ?_
    refine r_getI (c := 1) (k := 12) rfl (shFen h0) ⟨rfl, rfl⟩ ?_
    refine r_if_ne 30 rfl rfl (fun c16 => ?_) (fun c16 => ?_)
    · rw [if_pos c16] at hr
      refine r_aload rfl rfl ?_
      refine r_getR (c := 1) (k := 9) (v := (a0 + 5)) rfl (shFen h0) ⟨rfl, rfl⟩ (rfFen9 h0) ?_
      refine r_aload rfl rfl ?_
      refine r_getI (c := 1) (k := 2) rfl (shFen h0) ⟨rfl, rfl⟩ ?_
      refine r_iload rfl rfl ?_
      refine r_const rfl (gcst 48) ?_
      refine r_isub rfl ?_
      obtain ⟨b17, hr⟩ := gopt hr
      refine r_iastore (n := 5) rfl (shFen9 h0) (gvp_in b17) (ne1Fen h0) ?_
      refine r_aload rfl rfl ?_
      refine r_dup rfl rfl ?_
      refine r_getI (c := 1) (k := 2) rfl (shFen h0) ⟨rfl, rfl⟩ ?_
      refine r_const rfl (gcst 1) ?_
      refine r_iadd rfl ?_
      refine r_putI (c := 1) (k := 2) rfl (shFen h0) ⟨rfl, rfl⟩ ?_
      refine r_aload rfl rfl ?_
      refine r_const rfl (gcst 0) ?_
      refine r_putI (c := 1) (k := 11) rfl (shFen h0) ⟨rfl, rfl⟩ ?_
      refine r_iload rfl rfl ?_
      refine r_const rfl (gcst 48) ?_
      refine r_isub rfl ?_
      refine r_invs [.int (a1 - (nI 48))] rfl rfl rfl rfl (Nat.le_of_ble_eq_true rfl) ⟨rfl, rfl⟩ ?_
      refine s_X7_isKind  ?_
      show gW _ _ _ _ _ 51 [.ref a0, .int a1] [.int (f_X7_isKind (gu2 (gu2 (gu2 I (a0 + 5) (gx (I a0 2)) (a1 - (nI 48))) a0 2 (((gu2 I (a0 + 5) (gx (I a0 2)) (a1 - (nI 48))) a0 2) + (nI 1))) a0 11 (nI 0)) L (a1 - (nI 48)))] (gKn n, gRf f g, (gu2 (gu2 (gu2 I (a0 + 5) (gx (I a0 2)) (a1 - (nI 48))) a0 2 (((gu2 I (a0 + 5) (gx (I a0 2)) (a1 - (nI 48))) a0 2) + (nI 1))) a0 11 (nI 0)), L) _
      obtain ⟨b18, hr⟩ := gopt hr
      refine r_zret rfl b18 ?_
      cases hr
      exact hQ
    · rw [if_neg c16] at hr
      refine r_aload rfl rfl ?_
      refine r_const rfl (gcst 1) ?_
      refine r_putI (c := 1) (k := 12) rfl (shFen h0) ⟨rfl, rfl⟩ ?_
      refine r_aload rfl rfl ?_
      refine r_getR (c := 1) (k := 8) (v := (a0 + 4)) rfl (shFen h0) ⟨rfl, rfl⟩ (rfFen8 h0) ?_
      refine r_aload rfl rfl ?_
      refine r_getI (c := 1) (k := 2) rfl (shFen h0) ⟨rfl, rfl⟩ ?_
      refine r_iload rfl rfl ?_
      refine r_const rfl (gcst 48) ?_
      refine r_isub rfl ?_
      obtain ⟨b19, hr⟩ := gopt hr
      refine r_iastore (n := 5) rfl (shFen8 h0) (gvp_in b19) (ne1Fen h0) ?_
      refine r_iload rfl rfl ?_
      refine r_const rfl (gcst 49) ?_
      refine r_icmp_lt 28 rfl rfl (fun c20 => ?_) (fun c20 => ?_)
      · rw [if_pos c20] at hr
        refine gforget (ls := [.null, .null]) ⟨(Or.inr (Or.inr ⟨rfl, _, rfl⟩)), ⟨(Or.inr (Or.inl ⟨rfl, _, rfl⟩)), trivial⟩⟩ ?_
        exact t_X1_takesBeast_28 h0 hr hQ
      · rw [if_neg c20] at hr
        refine r_iload rfl rfl ?_
        refine r_const rfl (gcst 57) ?_
        refine r_icmp_gt 28 rfl rfl (fun c21 => ?_) (fun c21 => ?_)
        · rw [if_pos c21] at hr
          refine gforget (ls := [.null, .null]) ⟨(Or.inr (Or.inr ⟨rfl, _, rfl⟩)), ⟨(Or.inr (Or.inl ⟨rfl, _, rfl⟩)), trivial⟩⟩ ?_
          exact t_X1_takesBeast_28 h0 hr hQ
        · rw [if_neg c21] at hr
          refine r_const rfl (gcst 1) ?_
          refine r_goto 29 rfl rfl ?_
          refine r_zret rfl (Or.inr rfl) ?_
          cases hr
          exact hQ
  · rw [if_neg c15] at hr
    refine r_const rfl (gcst 0) ?_
    refine r_zret rfl (Or.inl rfl) ?_
    cases hr
    exact hQ
def r_X1_takesVerse_21 (a0 : Nat)  (v1 : Int32) (v2 : Int32) (I : Nat → Nat → Int32) (L : Nat → Nat → Int64) : Option gRs := (if gvp v2 8 = true then some ((nI 1), (if ¬ ((gu2 (gu2 I (a0 + 6) (gx v2) (if ¬ v1 = (nI 45) then (v1 - (nI 97)) else (nI 12))) a0 12 (((gu2 I (a0 + 6) (gx v2) (if ¬ v1 = (nI 45) then (v1 - (nI 97)) else (nI 12))) a0 12) + (nI 1))) a0 12) = (nI 4) then (gu2 (gu2 I (a0 + 6) (gx v2) (if ¬ v1 = (nI 45) then (v1 - (nI 97)) else (nI 12))) a0 12 (((gu2 I (a0 + 6) (gx v2) (if ¬ v1 = (nI 45) then (v1 - (nI 97)) else (nI 12))) a0 12) + (nI 1))) else (gu2 (gu2 (gu2 (gu2 I (a0 + 6) (gx v2) (if ¬ v1 = (nI 45) then (v1 - (nI 97)) else (nI 12))) a0 12 (((gu2 I (a0 + 6) (gx v2) (if ¬ v1 = (nI 45) then (v1 - (nI 97)) else (nI 12))) a0 12) + (nI 1))) a0 3 (((gu2 (gu2 I (a0 + 6) (gx v2) (if ¬ v1 = (nI 45) then (v1 - (nI 97)) else (nI 12))) a0 12 (((gu2 I (a0 + 6) (gx v2) (if ¬ v1 = (nI 45) then (v1 - (nI 97)) else (nI 12))) a0 12) + (nI 1))) a0 3) + (nI 1))) a0 11 (nI 0))), L) else none)
set_option maxHeartbeats 4000000 in
set_option maxRecDepth 100000 in
theorem t_X1_takesVerse_21 {n f g d : Nat} {Q : gP} {z : gRs} {a0 : Nat} (h0 : gfe a0 = true)  {v1 : Int32} {v2 : Int32} {I : Nat → Nat → Int32} {L : Nat → Nat → Int64} (hr : r_X1_takesVerse_21 a0 v1 v2 I L = some z) (hQ : Q (some (.int z.1)) (gKn n, gRf f g, z.2.1, z.2.2)) : gW gM (d + 1) 0 0 k_X1_takesVerse 21 [.ref a0, .int v1, .int v2] [] (gKn n, gRf f g, I, L) Q := by
  unfold r_X1_takesVerse_21 at hr
  refine r_aload rfl rfl ?_
  refine r_getR (c := 1) (k := 10) (v := (a0 + 6)) rfl (shFen h0) ⟨rfl, rfl⟩ (rfFen10 h0) ?_
  refine r_iload rfl rfl ?_
  refine r_iload rfl rfl ?_
  refine r_const rfl (gcst 45) ?_
  have j13 : gW gM (d + 1) 0 0 k_X1_takesVerse 32 [.ref a0, .int v1, .int v2] [.int (if ¬ v1 = (nI 45) then (v1 - (nI 97)) else (nI 12)), .int v2, .ref (a0 + 6)] (gKn n, gRf f g, I, L) Q := by
    obtain ⟨b11, hr⟩ := gopt hr
    refine r_iastore (n := 8) rfl (shFen10 h0) (gvp_in b11) (ne1Fen h0) ?_
    refine r_aload rfl rfl ?_
    refine r_dup rfl rfl ?_
    refine r_getI (c := 1) (k := 12) rfl (shFen h0) ⟨rfl, rfl⟩ ?_
    refine r_const rfl (gcst 1) ?_
    refine r_iadd rfl ?_
    refine r_putI (c := 1) (k := 12) rfl (shFen h0) ⟨rfl, rfl⟩ ?_
    refine r_aload rfl rfl ?_
    refine r_getI (c := 1) (k := 12) rfl (shFen h0) ⟨rfl, rfl⟩ ?_
    refine r_const rfl (gcst 4) ?_
    have j14 : gW gM (d + 1) 0 0 k_X1_takesVerse 52 [.ref a0, .int v1, .int v2] [] (gKn n, gRf f g, (if ¬ ((gu2 (gu2 I (a0 + 6) (gx v2) (if ¬ v1 = (nI 45) then (v1 - (nI 97)) else (nI 12))) a0 12 (((gu2 I (a0 + 6) (gx v2) (if ¬ v1 = (nI 45) then (v1 - (nI 97)) else (nI 12))) a0 12) + (nI 1))) a0 12) = (nI 4) then (gu2 (gu2 I (a0 + 6) (gx v2) (if ¬ v1 = (nI 45) then (v1 - (nI 97)) else (nI 12))) a0 12 (((gu2 I (a0 + 6) (gx v2) (if ¬ v1 = (nI 45) then (v1 - (nI 97)) else (nI 12))) a0 12) + (nI 1))) else (gu2 (gu2 (gu2 (gu2 I (a0 + 6) (gx v2) (if ¬ v1 = (nI 45) then (v1 - (nI 97)) else (nI 12))) a0 12 (((gu2 I (a0 + 6) (gx v2) (if ¬ v1 = (nI 45) then (v1 - (nI 97)) else (nI 12))) a0 12) + (nI 1))) a0 3 (((gu2 (gu2 I (a0 + 6) (gx v2) (if ¬ v1 = (nI 45) then (v1 - (nI 97)) else (nI 12))) a0 12 (((gu2 I (a0 + 6) (gx v2) (if ¬ v1 = (nI 45) then (v1 - (nI 97)) else (nI 12))) a0 12) + (nI 1))) a0 3) + (nI 1))) a0 11 (nI 0))), L) Q := by
      refine r_const rfl (gcst 1) ?_
      refine r_zret rfl (Or.inr rfl) ?_
      cases hr
      exact hQ
    refine r_icmp_ne 52 rfl rfl (fun c12 => ?_) (fun c12 => ?_)
    · first | contradiction | simpa only [if_pos c12] using j14
    · refine r_aload rfl rfl ?_
      refine r_dup rfl rfl ?_
      refine r_getI (c := 1) (k := 3) rfl (shFen h0) ⟨rfl, rfl⟩ ?_
      refine r_const rfl (gcst 1) ?_
      refine r_iadd rfl ?_
      refine r_putI (c := 1) (k := 3) rfl (shFen h0) ⟨rfl, rfl⟩ ?_
      refine r_aload rfl rfl ?_
      refine r_const rfl (gcst 0) ?_
      refine r_putI (c := 1) (k := 11) rfl (shFen h0) ⟨rfl, rfl⟩ ?_
      first | contradiction | simpa only [if_neg c12] using j14
  refine r_icmp_ne 29 rfl rfl (fun c10 => ?_) (fun c10 => ?_)
  · refine r_iload rfl rfl ?_
    refine r_const rfl (gcst 97) ?_
    refine r_isub rfl ?_
    first | contradiction | simpa only [if_pos c10] using j13
  · refine r_const rfl (gcst 12) ?_
    refine r_goto 32 rfl rfl ?_
    first | contradiction | simpa only [if_neg c10] using j13
def r_X1_takesVerse_19 (a0 : Nat)   (I : Nat → Nat → Int32) (L : Nat → Nat → Int64) : Option gRs := some ((nI 0), I, L)
set_option maxHeartbeats 4000000 in
set_option maxRecDepth 100000 in
theorem t_X1_takesVerse_19 {n f g d : Nat} {Q : gP} {z : gRs} {a0 : Nat} (h0 : gfe a0 = true)   {I : Nat → Nat → Int32} {L : Nat → Nat → Int64} (hr : r_X1_takesVerse_19 a0 I L = some z) (hQ : Q (some (.int z.1)) (gKn n, gRf f g, z.2.1, z.2.2)) : gW gM (d + 1) 0 0 k_X1_takesVerse 19 [.null, .null, .null] [] (gKn n, gRf f g, I, L) Q := by
  unfold r_X1_takesVerse_19 at hr
  refine r_const rfl (gcst 0) ?_
  refine r_zret rfl (Or.inl rfl) ?_
  cases hr
  exact hQ
def r_X1_takesVerse (I : Nat → Nat → Int32) (L : Nat → Nat → Int64) (a0 : Nat) (a1 : Int32) : Option gRs := (if (nI 8) ≤ (((I a0 3) * (nI 4)) + (I a0 12)) then (r_X1_takesVerse_19 a0 I L) else (if a1 = (nI 45) then (r_X1_takesVerse_21 a0 a1 (((I a0 3) * (nI 4)) + (I a0 12)) I L) else (if ¬ (f_X1_isNote I L a1) = 0 then (r_X1_takesVerse_21 a0 a1 (((I a0 3) * (nI 4)) + (I a0 12)) I L) else (r_X1_takesVerse_19 a0 I L))))
set_option maxHeartbeats 4000000 in
set_option maxRecDepth 100000 in
theorem s_X1_takesVerse {n f g d : Nat} {Q : gP} {I : Nat → Nat → Int32} {L : Nat → Nat → Int64} {a0 : Nat} {a1 : Int32} {z : gRs} (h0 : gfe a0 = true) (hr : r_X1_takesVerse I L a0 a1 = some z) (hQ : Q (some (.int z.1)) (gKn n, gRf f g, z.2.1, z.2.2)) : gR gM (d + 1) 13 [.ref a0, .int a1] (gKn n, gRf f g, I, L) Q := by
  unfold r_X1_takesVerse at hr
  show gW gM (d + 1) 0 0 k_X1_takesVerse 0 [.ref a0, .int a1, .null] [] (gKn n, gRf f g, I, L) Q
  refine r_aload rfl rfl ?_
  refine r_getI (c := 1) (k := 3) rfl (shFen h0) ⟨rfl, rfl⟩ ?_
  refine r_const rfl (gcst 4) ?_
  refine r_imul rfl ?_
  refine r_aload rfl rfl ?_
  refine r_getI (c := 1) (k := 12) rfl (shFen h0) ⟨rfl, rfl⟩ ?_
  refine r_iadd rfl ?_
  refine r_istore [.ref a0, .int a1, .int (((I a0 3) * (nI 4)) + (I a0 12))] rfl rfl (Nat.le_of_ble_eq_true rfl) rfl ?_
  refine r_iload rfl rfl ?_
  refine r_aload rfl rfl ?_
  refine r_getR (c := 1) (k := 10) (v := (a0 + 6)) rfl (shFen h0) ⟨rfl, rfl⟩ (rfFen10 h0) ?_
  refine r_alen 8 0 (v := nI 8) rfl (shFen10 h0) (by decide) rfl ?_
  refine r_icmp_ge 19 rfl rfl (fun c15 => ?_) (fun c15 => ?_)
  · rw [if_pos c15] at hr
    refine gforget (ls := [.null, .null, .null]) ⟨(Or.inr (Or.inr ⟨rfl, _, rfl⟩)), ⟨(Or.inr (Or.inl ⟨rfl, _, rfl⟩)), ⟨(Or.inr (Or.inl ⟨rfl, _, rfl⟩)), trivial⟩⟩⟩ ?_
    exact t_X1_takesVerse_19 h0 hr hQ
  · rw [if_neg c15] at hr
    refine r_iload rfl rfl ?_
    refine r_const rfl (gcst 45) ?_
    refine r_icmp_eq 21 rfl rfl (fun c16 => ?_) (fun c16 => ?_)
    · rw [if_pos c16] at hr
      exact t_X1_takesVerse_21 h0 hr hQ
    · rw [if_neg c16] at hr
      refine r_iload rfl rfl ?_
      refine r_invs [.int a1] rfl rfl rfl rfl (Nat.le_of_ble_eq_true rfl) ⟨rfl, rfl⟩ ?_
      refine s_X1_isNote  ?_
      show gW _ _ _ _ _ 18 [.ref a0, .int a1, .int (((I a0 3) * (nI 4)) + (I a0 12))] [.int (f_X1_isNote I L a1)] (gKn n, gRf f g, I, L) _
      refine r_if_ne 21 rfl rfl (fun c17 => ?_) (fun c17 => ?_)
      · rw [if_pos c17] at hr
        exact t_X1_takesVerse_21 h0 hr hQ
      · rw [if_neg c17] at hr
        refine gforget (ls := [.null, .null, .null]) ⟨(Or.inr (Or.inr ⟨rfl, _, rfl⟩)), ⟨(Or.inr (Or.inl ⟨rfl, _, rfl⟩)), ⟨(Or.inr (Or.inl ⟨rfl, _, rfl⟩)), trivial⟩⟩⟩ ?_
        exact t_X1_takesVerse_19 h0 hr hQ
def r_X1_goesOn (I : Nat → Nat → Int32) (L : Nat → Nat → Int64) (a0 : Nat) (a1 : Int32) : Option gRs := (if (I a0 11) = (nI 66) then ((r_X1_takesBeast I L a0 a1).bind (fun z14 => (if (z14.1 = 0 ∨ z14.1 = 1) then some (z14.1, z14.2.1, z14.2.2) else none))) else (if (I a0 11) = (nI 71) then ((r_X1_takesGate I L a0 a1).bind (fun z17 => (if (z17.1 = 0 ∨ z17.1 = 1) then some (z17.1, z17.2.1, z17.2.2) else none))) else (if (I a0 11) = (nI 76) then ((r_X1_takesLane I L a0 a1).bind (fun z20 => (if (z20.1 = 0 ∨ z20.1 = 1) then some (z20.1, z20.2.1, z20.2.2) else none))) else (if (I a0 11) = (nI 86) then ((r_X1_takesVerse I L a0 a1).bind (fun z23 => (if (z23.1 = 0 ∨ z23.1 = 1) then some (z23.1, z23.2.1, z23.2.2) else none))) else some ((nI 0), I, L)))))
set_option maxHeartbeats 4000000 in
set_option maxRecDepth 100000 in
theorem s_X1_goesOn {n f g d : Nat} {Q : gP} {I : Nat → Nat → Int32} {L : Nat → Nat → Int64} {a0 : Nat} {a1 : Int32} {z : gRs} (h0 : gfe a0 = true) (hr : r_X1_goesOn I L a0 a1 = some z) (hQ : Q (some (.int z.1)) (gKn n, gRf f g, z.2.1, z.2.2)) : gR gM (d + 2) 9 [.ref a0, .int a1] (gKn n, gRf f g, I, L) Q := by
  unfold r_X1_goesOn at hr
  show gW gM (d + 2) 0 0 k_X1_goesOn 0 [.ref a0, .int a1] [] (gKn n, gRf f g, I, L) Q
  refine r_aload rfl rfl ?_
  refine r_getI (c := 1) (k := 11) rfl (shFen h0) ⟨rfl, rfl⟩ ?_
  by_cases c13 : (I a0 11) = (nI 66)
  · rw [if_pos c13] at hr
    refine r_lsw 11 rfl (by rw [c13]; decide +kernel) ?_
    refine r_aload rfl rfl ?_
    refine r_iload rfl rfl ?_
    obtain ⟨z14, hz14, hr⟩ := gbnd hr
    refine r_invv (a := a0) [.int a1] rfl rfl (shFen h0) rfl rfl (Nat.le_of_ble_eq_true rfl) ⟨rfl, rfl⟩ ?_
    refine s_X1_takesBeast h0 hz14 ?_
    show gW _ _ _ _ _ 14 [.ref a0, .int a1] [.int z14.1] (gKn n, gRf f g, z14.2.1, z14.2.2) _
    obtain ⟨b15, hr⟩ := gopt hr
    refine r_zret rfl b15 ?_
    cases hr
    exact hQ
  · rw [if_neg c13] at hr
    by_cases c16 : (I a0 11) = (nI 71)
    · rw [if_pos c16] at hr
      refine r_lsw 3 rfl (by rw [c16]; decide +kernel) ?_
      refine r_aload rfl rfl ?_
      refine r_iload rfl rfl ?_
      obtain ⟨z17, hz17, hr⟩ := gbnd hr
      refine r_invv (a := a0) [.int a1] rfl rfl (shFen h0) rfl rfl (Nat.le_of_ble_eq_true rfl) ⟨rfl, rfl⟩ ?_
      refine s_X1_takesGate h0 hz17 ?_
      show gW _ _ _ _ _ 6 [.ref a0, .int a1] [.int z17.1] (gKn n, gRf f g, z17.2.1, z17.2.2) _
      obtain ⟨b18, hr⟩ := gopt hr
      refine r_zret rfl b18 ?_
      cases hr
      exact hQ
    · rw [if_neg c16] at hr
      by_cases c19 : (I a0 11) = (nI 76)
      · rw [if_pos c19] at hr
        refine r_lsw 7 rfl (by rw [c19]; decide +kernel) ?_
        refine r_aload rfl rfl ?_
        refine r_iload rfl rfl ?_
        obtain ⟨z20, hz20, hr⟩ := gbnd hr
        refine r_invv (a := a0) [.int a1] rfl rfl (shFen h0) rfl rfl (Nat.le_of_ble_eq_true rfl) ⟨rfl, rfl⟩ ?_
        refine s_X1_takesLane h0 hz20 ?_
        show gW _ _ _ _ _ 10 [.ref a0, .int a1] [.int z20.1] (gKn n, gRf f g, z20.2.1, z20.2.2) _
        obtain ⟨b21, hr⟩ := gopt hr
        refine r_zret rfl b21 ?_
        cases hr
        exact hQ
      · rw [if_neg c19] at hr
        by_cases c22 : (I a0 11) = (nI 86)
        · rw [if_pos c22] at hr
          refine r_lsw 15 rfl (by rw [c22]; decide +kernel) ?_
          refine r_aload rfl rfl ?_
          refine r_iload rfl rfl ?_
          obtain ⟨z23, hz23, hr⟩ := gbnd hr
          refine r_invv (a := a0) [.int a1] rfl rfl (shFen h0) rfl rfl (Nat.le_of_ble_eq_true rfl) ⟨rfl, rfl⟩ ?_
          refine s_X1_takesVerse h0 hz23 ?_
          show gW _ _ _ _ _ 18 [.ref a0, .int a1] [.int z23.1] (gKn n, gRf f g, z23.2.1, z23.2.2) _
          obtain ⟨b24, hr⟩ := gopt hr
          refine r_zret rfl b24 ?_
          cases hr
          exact hQ
        · rw [if_neg c22] at hr
          refine r_lsw 19 rfl (by simp only [glook, Op.lookupswitch.offset]; rw [if_neg (fun e => c13 (gI_of_toInt e.symm))]; rw [if_neg (fun e => c16 (gI_of_toInt e.symm))]; rw [if_neg (fun e => c19 (gI_of_toInt e.symm))]; rw [if_neg (fun e => c22 (gI_of_toInt e.symm))]; rfl) ?_
          refine r_const rfl (gcst 0) ?_
          refine r_zret rfl (Or.inl rfl) ?_
          cases hr
          exact hQ
def r_X1_takes_23 (a0 : Nat)   (I : Nat → Nat → Int32) (L : Nat → Nat → Int64) : Option gRs := some ((nI 1), I, L)
set_option maxHeartbeats 4000000 in
set_option maxRecDepth 100000 in
theorem t_X1_takes_23 {n f g d : Nat} {Q : gP} {z : gRs} {a0 : Nat} (h0 : gfe a0 = true)   {I : Nat → Nat → Int32} {L : Nat → Nat → Int64} (hr : r_X1_takes_23 a0 I L = some z) (hQ : Q (some (.int z.1)) (gKn n, gRf f g, z.2.1, z.2.2)) : gW gM (d + 3) 0 0 k_X1_takes 23 [.null, .null, .null] [] (gKn n, gRf f g, I, L) Q := by
  unfold r_X1_takes_23 at hr
  refine r_const rfl (gcst 1) ?_
  refine r_goto 26 rfl rfl ?_
  refine r_zret rfl (Or.inr rfl) ?_
  cases hr
  exact hQ
def r_X1_takes_8 (a0 : Nat)  (s0 : Int32) (I : Nat → Nat → Int32) (L : Nat → Nat → Int64) : Option gRs := (if (s0 = 0 ∨ s0 = 1) then some (s0, I, L) else none)
set_option maxHeartbeats 4000000 in
set_option maxRecDepth 100000 in
theorem t_X1_takes_8 {n f g d : Nat} {Q : gP} {z : gRs} {a0 : Nat} (h0 : gfe a0 = true)  {s0 : Int32} {I : Nat → Nat → Int32} {L : Nat → Nat → Int64} (hr : r_X1_takes_8 a0 s0 I L = some z) (hQ : Q (some (.int z.1)) (gKn n, gRf f g, z.2.1, z.2.2)) : gW gM (d + 3) 0 0 k_X1_takes 8 [.null, .null, .null] [.int s0] (gKn n, gRf f g, I, L) Q := by
  unfold r_X1_takes_8 at hr
  obtain ⟨b20, hr⟩ := gopt hr
  refine r_zret rfl b20 ?_
  cases hr
  exact hQ
def r_X1_takes (I : Nat → Nat → Int32) (L : Nat → Nat → Int64) (a0 : Nat) (a1 : Int32) (a2 : Int32) : Option gRs := (if ¬ a2 = 0 then (if ¬ a2 = (nI 1) then (if ¬ (I a0 11) = 0 then ((r_X1_goesOn I L a0 a1).bind (fun z24 => (if (z24.1 = 0 ∨ z24.1 = 1) then some (z24.1, z24.2.1, z24.2.2) else none))) else (if ((f_X1_mayStart (gu2 (gu2 I a0 11 a1) a0 12 (nI 0)) L a0 a1) = 0 ∨ (f_X1_mayStart (gu2 (gu2 I a0 11 a1) a0 12 (nI 0)) L a0 a1) = 1) then some ((f_X1_mayStart (gu2 (gu2 I a0 11 a1) a0 12 (nI 0)) L a0 a1), (gu2 (gu2 I a0 11 a1) a0 12 (nI 0)), L) else none)) else (if a1 = (nI 48) then (r_X1_takes_23 a0 (gu2 I a0 4 (a1 - (nI 48))) L) else (if ¬ a1 = (nI 49) then some ((nI 0), (gu2 I a0 4 (a1 - (nI 48))), L) else (r_X1_takes_23 a0 (gu2 I a0 4 (a1 - (nI 48))) L)))) else (if ¬ a1 = (nI 67) then (r_X1_takes_8 a0 (nI 0) I L) else (r_X1_takes_8 a0 (nI 1) I L)))
set_option maxHeartbeats 4000000 in
set_option maxRecDepth 100000 in
theorem s_X1_takes {n f g d : Nat} {Q : gP} {I : Nat → Nat → Int32} {L : Nat → Nat → Int64} {a0 : Nat} {a1 : Int32} {a2 : Int32} {z : gRs} (h0 : gfe a0 = true) (hr : r_X1_takes I L a0 a1 a2 = some z) (hQ : Q (some (.int z.1)) (gKn n, gRf f g, z.2.1, z.2.2)) : gR gM (d + 3) 7 [.ref a0, .int a1, .int a2] (gKn n, gRf f g, I, L) Q := by
  unfold r_X1_takes at hr
  show gW gM (d + 3) 0 0 k_X1_takes 0 [.ref a0, .int a1, .int a2] [] (gKn n, gRf f g, I, L) Q
  refine r_iload rfl rfl ?_
  refine r_if_ne 9 rfl rfl (fun c21 => ?_) (fun c21 => ?_)
  · rw [if_pos c21] at hr
    refine r_iload rfl rfl ?_
    refine r_const rfl (gcst 1) ?_
    refine r_icmp_ne 27 rfl rfl (fun c22 => ?_) (fun c22 => ?_)
    · rw [if_pos c22] at hr
      refine r_aload rfl rfl ?_
      refine r_getI (c := 1) (k := 11) rfl (shFen h0) ⟨rfl, rfl⟩ ?_
      refine r_if_ne 40 rfl rfl (fun c23 => ?_) (fun c23 => ?_)
      · rw [if_pos c23] at hr
        refine r_aload rfl rfl ?_
        refine r_iload rfl rfl ?_
        obtain ⟨z24, hz24, hr⟩ := gbnd hr
        refine r_invv (a := a0) [.int a1] rfl rfl (shFen h0) rfl rfl (Nat.le_of_ble_eq_true rfl) ⟨rfl, rfl⟩ ?_
        refine s_X1_goesOn h0 hz24 ?_
        show gW _ _ _ _ _ 43 [.ref a0, .int a1, .int a2] [.int z24.1] (gKn n, gRf f g, z24.2.1, z24.2.2) _
        obtain ⟨b25, hr⟩ := gopt hr
        refine r_zret rfl b25 ?_
        cases hr
        exact hQ
      · rw [if_neg c23] at hr
        refine r_aload rfl rfl ?_
        refine r_iload rfl rfl ?_
        refine r_putI (c := 1) (k := 11) rfl (shFen h0) ⟨rfl, rfl⟩ ?_
        refine r_aload rfl rfl ?_
        refine r_const rfl (gcst 0) ?_
        refine r_putI (c := 1) (k := 12) rfl (shFen h0) ⟨rfl, rfl⟩ ?_
        refine r_aload rfl rfl ?_
        refine r_iload rfl rfl ?_
        refine r_invv (a := a0) [.int a1] rfl rfl (shFen h0) rfl rfl (Nat.le_of_ble_eq_true rfl) ⟨rfl, rfl⟩ ?_
        refine s_X1_mayStart h0 ?_
        show gW _ _ _ _ _ 39 [.ref a0, .int a1, .int a2] [.int (f_X1_mayStart (gu2 (gu2 I a0 11 a1) a0 12 (nI 0)) L a0 a1)] (gKn n, gRf f g, (gu2 (gu2 I a0 11 a1) a0 12 (nI 0)), L) _
        obtain ⟨b26, hr⟩ := gopt hr
        refine r_zret rfl b26 ?_
        cases hr
        exact hQ
    · rw [if_neg c22] at hr
      refine r_aload rfl rfl ?_
      refine r_iload rfl rfl ?_
      refine r_const rfl (gcst 48) ?_
      refine r_isub rfl ?_
      refine r_putI (c := 1) (k := 4) rfl (shFen h0) ⟨rfl, rfl⟩ ?_
      refine r_iload rfl rfl ?_
      refine r_const rfl (gcst 48) ?_
      refine r_icmp_eq 23 rfl rfl (fun c27 => ?_) (fun c27 => ?_)
      · rw [if_pos c27] at hr
        refine gforget (ls := [.null, .null, .null]) ⟨(Or.inr (Or.inr ⟨rfl, _, rfl⟩)), ⟨(Or.inr (Or.inl ⟨rfl, _, rfl⟩)), ⟨(Or.inr (Or.inl ⟨rfl, _, rfl⟩)), trivial⟩⟩⟩ ?_
        exact t_X1_takes_23 h0 hr hQ
      · rw [if_neg c27] at hr
        refine r_iload rfl rfl ?_
        refine r_const rfl (gcst 49) ?_
        refine r_icmp_ne 25 rfl rfl (fun c28 => ?_) (fun c28 => ?_)
        · rw [if_pos c28] at hr
          refine r_const rfl (gcst 0) ?_
          refine r_zret rfl (Or.inl rfl) ?_
          cases hr
          exact hQ
        · rw [if_neg c28] at hr
          refine gforget (ls := [.null, .null, .null]) ⟨(Or.inr (Or.inr ⟨rfl, _, rfl⟩)), ⟨(Or.inr (Or.inl ⟨rfl, _, rfl⟩)), ⟨(Or.inr (Or.inl ⟨rfl, _, rfl⟩)), trivial⟩⟩⟩ ?_
          exact t_X1_takes_23 h0 hr hQ
  · rw [if_neg c21] at hr
    refine r_iload rfl rfl ?_
    refine r_const rfl (gcst 67) ?_
    refine r_icmp_ne 7 rfl rfl (fun c29 => ?_) (fun c29 => ?_)
    · rw [if_pos c29] at hr
      refine r_const rfl (gcst 0) ?_
      refine gforget (ls := [.null, .null, .null]) ⟨(Or.inr (Or.inr ⟨rfl, _, rfl⟩)), ⟨(Or.inr (Or.inl ⟨rfl, _, rfl⟩)), ⟨(Or.inr (Or.inl ⟨rfl, _, rfl⟩)), trivial⟩⟩⟩ ?_
      exact t_X1_takes_8 h0 hr hQ
    · rw [if_neg c29] at hr
      refine r_const rfl (gcst 1) ?_
      refine r_goto 8 rfl rfl ?_
      refine gforget (ls := [.null, .null, .null]) ⟨(Or.inr (Or.inr ⟨rfl, _, rfl⟩)), ⟨(Or.inr (Or.inl ⟨rfl, _, rfl⟩)), ⟨(Or.inr (Or.inl ⟨rfl, _, rfl⟩)), trivial⟩⟩⟩ ?_
      exact t_X1_takes_8 h0 hr hQ
def r_X1_read_35 (a0 : Nat)  (v2 : Int32) (I : Nat → Nat → Int32) (L : Nat → Nat → Int64) : Option gRs := some ((if v2 < (nI 2) then v2 else (if (I a0 11) = 0 then (-9 : Int32) else v2)), I, L)
set_option maxHeartbeats 4000000 in
set_option maxRecDepth 100000 in
theorem t_X1_read_35 {n f g d : Nat} {Q : gP} {z : gRs} {a0 : Nat} (h0 : gfe a0 = true)  {v2 : Int32} {I : Nat → Nat → Int32} {L : Nat → Nat → Int64} (hr : r_X1_read_35 a0 v2 I L = some z) (hQ : Q (some (.int z.1)) (gKn n, gRf f g, z.2.1, z.2.2)) : gW gM (d + 4) 0 0 k_X1_read 35 [.ref a0, .null, .int v2, .null] [] (gKn n, gRf f g, I, L) Q := by
  unfold r_X1_read_35 at hr
  refine r_iload rfl rfl ?_
  refine r_const rfl (gcst 2) ?_
  have j15 : gW gM (d + 4) 0 0 k_X1_read 44 [.ref a0, .null, .int v2, .null] [.int (if v2 < (nI 2) then v2 else (if (I a0 11) = 0 then (-9 : Int32) else v2))] (gKn n, gRf f g, I, L) Q := by
    refine r_iret rfl ?_
    cases hr
    exact hQ
  refine r_icmp_lt 41 rfl rfl (fun c13 => ?_) (fun c13 => ?_)
  · refine r_iload rfl rfl ?_
    refine r_goto 44 rfl rfl ?_
    first | contradiction | simpa only [if_pos c13] using j15
  · refine r_aload rfl rfl ?_
    refine r_getI (c := 1) (k := 11) rfl (shFen h0) ⟨rfl, rfl⟩ ?_
    refine r_if_eq 43 rfl rfl (fun c14 => ?_) (fun c14 => ?_)
    · refine r_const rfl (v := -9) (by decide) ?_
      first | contradiction | simpa only [if_neg c13, if_pos c14] using j15
    · refine r_iload rfl rfl ?_
      refine r_goto 44 rfl rfl ?_
      first | contradiction | simpa only [if_neg c13, if_neg c14] using j15
def r_X1_read_17 (a0 : Nat)  : Nat → Int32 → Int32 → (Nat → Nat → Int32) → (Nat → Nat → Int64) → Option gRs
  | 0, _, _, _, _ => none
  | m + 1, v2, v3, I, L => (if v2 ≤ v3 then (r_X1_read_35 a0 v2 I L) else (if (nI 60) ≤ v3 then (r_X1_read_35 a0 v2 I L) else (if gvp v3 60 = true then ((r_X1_takes I L a0 (I 3 (gx v3)) v3).bind (fun z19 => (if ¬ z19.1 = 0 then (r_X1_read_17 a0 m v2 (v3 + (nI 1)) z19.2.1 z19.2.2) else some (v3, z19.2.1, z19.2.2)))) else none)))
set_option maxHeartbeats 4000000 in
set_option maxRecDepth 100000 in
theorem t_X1_read_17 {n f g d : Nat} {Q : gP} {z : gRs} {a0 : Nat} (h0 : gfe a0 = true)  : ∀ {m : Nat} {v2 : Int32} {v3 : Int32} {I : Nat → Nat → Int32} {L : Nat → Nat → Int64}, r_X1_read_17 a0 m v2 v3 I L = some z → Q (some (.int z.1)) (gKn n, gRf f g, z.2.1, z.2.2) → gW gM (d + 4) 0 0 k_X1_read 17 [.ref a0, .ref 3, .int v2, .int v3] [] (gKn n, gRf f g, I, L) Q := by
  intro m
  induction m with
  | zero =>
    intro v2 v3 I L hr _
    cases hr
  | succ m ih =>
    intro v2 v3 I L hr hQ
    have hK17 : ∀ v2 v3 I L, r_X1_read_17 a0 m v2 v3 I L = some z → gW gM (d + 4) 0 0 k_X1_read 17 [.ref a0, .ref 3, .int v2, .int v3] [] (gKn n, gRf f g, I, L) Q := fun v2 v3 I L hr => ih hr hQ
    unfold r_X1_read_17 at hr
    refine r_iload rfl rfl ?_
    refine r_iload rfl rfl ?_
    refine r_icmp_ge 35 rfl rfl (fun c16 => ?_) (fun c16 => ?_)
    · rw [if_pos c16] at hr
      refine gforget (ls := [.ref a0, .null, .int v2, .null]) ⟨(Or.inl rfl), ⟨(Or.inr (Or.inr ⟨rfl, _, rfl⟩)), ⟨(Or.inl rfl), ⟨(Or.inr (Or.inl ⟨rfl, _, rfl⟩)), trivial⟩⟩⟩⟩ ?_
      exact t_X1_read_35 h0 hr hQ
    · rw [if_neg c16] at hr
      refine r_iload rfl rfl ?_
      refine r_aload rfl rfl ?_
      refine r_alen 60 0 (v := nI 60) rfl rfl (by decide) rfl ?_
      refine r_icmp_ge 35 rfl rfl (fun c17 => ?_) (fun c17 => ?_)
      · rw [if_pos c17] at hr
        refine gforget (ls := [.ref a0, .null, .int v2, .null]) ⟨(Or.inl rfl), ⟨(Or.inr (Or.inr ⟨rfl, _, rfl⟩)), ⟨(Or.inl rfl), ⟨(Or.inr (Or.inl ⟨rfl, _, rfl⟩)), trivial⟩⟩⟩⟩ ?_
        exact t_X1_read_35 h0 hr hQ
      · rw [if_neg c17] at hr
        refine r_aload rfl rfl ?_
        refine r_aload rfl rfl ?_
        refine r_iload rfl rfl ?_
        obtain ⟨b18, hr⟩ := gopt hr
        refine r_iaload (n := 60) rfl rfl (gvp_in b18) ?_
        refine r_iload rfl rfl ?_
        obtain ⟨z19, hz19, hr⟩ := gbnd hr
        refine r_invv (a := a0) [.int (I 3 (gx v3)), .int v3] rfl rfl (shFen h0) rfl rfl (Nat.le_of_ble_eq_true rfl) ⟨rfl, rfl⟩ ?_
        refine s_X1_takes h0 hz19 ?_
        show gW _ _ _ _ _ 30 [.ref a0, .ref 3, .int v2, .int v3] [.int z19.1] (gKn n, gRf f g, z19.2.1, z19.2.2) _
        refine r_if_ne 33 rfl rfl (fun c20 => ?_) (fun c20 => ?_)
        · rw [if_pos c20] at hr
          refine r_iinc (y := (v3 + (nI 1))) [.ref a0, .ref 3, .int v2, .int (v3 + (nI 1))] rfl rfl rfl (ginc _ 1) rfl ?_
          refine r_goto 17 rfl rfl ?_
          exact hK17 _ _ _ _ hr
        · rw [if_neg c20] at hr
          refine r_iload rfl rfl ?_
          refine r_iret rfl ?_
          cases hr
          exact hQ
def r_X1_read (I : Nat → Nat → Int32) (L : Nat → Nat → Int64) (a0 : Nat) (a2 : Int32) : Option gRs := (r_X1_read_17 a0 100 a2 (nI 0) (gu2 (gu2 (gu2 (gu2 (gu2 I a0 0 (nI 0)) a0 1 (nI 0)) a0 2 (nI 0)) a0 3 (nI 0)) a0 11 (nI 0)) L)
set_option maxHeartbeats 4000000 in
set_option maxRecDepth 100000 in
theorem s_X1_read {n f g d : Nat} {Q : gP} {I : Nat → Nat → Int32} {L : Nat → Nat → Int64} {a0 : Nat} {a2 : Int32} {z : gRs} (h0 : gfe a0 = true) (hr : r_X1_read I L a0 a2 = some z) (hQ : Q (some (.int z.1)) (gKn n, gRf f g, z.2.1, z.2.2)) : gR gM (d + 4) 6 [.ref a0, .ref 3, .int a2] (gKn n, gRf f g, I, L) Q := by
  unfold r_X1_read at hr
  show gW gM (d + 4) 0 0 k_X1_read 0 [.ref a0, .ref 3, .int a2, .null] [] (gKn n, gRf f g, I, L) Q
  refine r_aload rfl rfl ?_
  refine r_const rfl (gcst 0) ?_
  refine r_putI (c := 1) (k := 0) rfl (shFen h0) ⟨rfl, rfl⟩ ?_
  refine r_aload rfl rfl ?_
  refine r_const rfl (gcst 0) ?_
  refine r_putI (c := 1) (k := 1) rfl (shFen h0) ⟨rfl, rfl⟩ ?_
  refine r_aload rfl rfl ?_
  refine r_const rfl (gcst 0) ?_
  refine r_putI (c := 1) (k := 2) rfl (shFen h0) ⟨rfl, rfl⟩ ?_
  refine r_aload rfl rfl ?_
  refine r_const rfl (gcst 0) ?_
  refine r_putI (c := 1) (k := 3) rfl (shFen h0) ⟨rfl, rfl⟩ ?_
  refine r_aload rfl rfl ?_
  refine r_const rfl (gcst 0) ?_
  refine r_putI (c := 1) (k := 11) rfl (shFen h0) ⟨rfl, rfl⟩ ?_
  refine r_const rfl (gcst 0) ?_
  refine r_istore [.ref a0, .ref 3, .int a2, .int (nI 0)] rfl rfl (Nat.le_of_ble_eq_true rfl) rfl ?_
  exact t_X1_read_17 h0 hr hQ
def f_X1_isLane (I : Nat → Nat → Int32) (L : Nat → Nat → Int64) (a0 : Nat) (a1 : Int32) : Int32 := (if a1 < 0 then (nI 0) else (if (I a0 1) ≤ a1 then (nI 0) else (nI 1)))
set_option maxHeartbeats 4000000 in
set_option maxRecDepth 100000 in
theorem s_X1_isLane {n f g d : Nat} {Q : gP} {I : Nat → Nat → Int32} {L : Nat → Nat → Int64} {a0 : Nat} {a1 : Int32} (h0 : gfe a0 = true) (hQ : Q (some (.int (f_X1_isLane I L a0 a1))) (gKn n, gRf f g, I, L)) : gR gM (d + 0) 16 [.ref a0, .int a1] (gKn n, gRf f g, I, L) Q := by
  unfold f_X1_isLane at hQ
  show gW gM (d + 0) 0 0 k_X1_isLane 0 [.ref a0, .int a1] [] (gKn n, gRf f g, I, L) Q
  refine r_iload rfl rfl ?_
  have j3 : gW gM (d + 0) 0 0 k_X1_isLane 9 [.ref a0, .int a1] [.int (if a1 < 0 then (nI 0) else (if (I a0 1) ≤ a1 then (nI 0) else (nI 1)))] (gKn n, gRf f g, I, L) Q := by
    refine r_zret rfl (by split <;> (try split) <;> (try split) <;> decide) ?_
    first | exact hQ | simpa only [if_true] using hQ
  refine r_if_lt 8 rfl rfl (fun c1 => ?_) (fun c1 => ?_)
  · try simp only [if_pos c1] at hQ
    refine r_const rfl (gcst 0) ?_
    simpa only [if_pos c1] using j3
  · try simp only [if_neg c1] at hQ
    refine r_iload rfl rfl ?_
    refine r_aload rfl rfl ?_
    refine r_getI (c := 1) (k := 1) rfl (shFen h0) ⟨rfl, rfl⟩ ?_
    refine r_icmp_ge 8 rfl rfl (fun c2 => ?_) (fun c2 => ?_)
    · try simp only [if_pos c2] at hQ
      refine r_const rfl (gcst 0) ?_
      simpa only [if_neg c1, if_pos c2] using j3
    · try simp only [if_neg c2] at hQ
      refine r_const rfl (gcst 1) ?_
      refine r_goto 9 rfl rfl ?_
      simpa only [if_neg c1, if_neg c2] using j3
def f_X1_isBeast (I : Nat → Nat → Int32) (L : Nat → Nat → Int64) (a0 : Nat) (a1 : Int32) : Int32 := (if a1 < 0 then (nI 0) else (if (I a0 2) ≤ a1 then (nI 0) else (nI 1)))
set_option maxHeartbeats 4000000 in
set_option maxRecDepth 100000 in
theorem s_X1_isBeast {n f g d : Nat} {Q : gP} {I : Nat → Nat → Int32} {L : Nat → Nat → Int64} {a0 : Nat} {a1 : Int32} (h0 : gfe a0 = true) (hQ : Q (some (.int (f_X1_isBeast I L a0 a1))) (gKn n, gRf f g, I, L)) : gR gM (d + 0) 17 [.ref a0, .int a1] (gKn n, gRf f g, I, L) Q := by
  unfold f_X1_isBeast at hQ
  show gW gM (d + 0) 0 0 k_X1_isBeast 0 [.ref a0, .int a1] [] (gKn n, gRf f g, I, L) Q
  refine r_iload rfl rfl ?_
  have j3 : gW gM (d + 0) 0 0 k_X1_isBeast 9 [.ref a0, .int a1] [.int (if a1 < 0 then (nI 0) else (if (I a0 2) ≤ a1 then (nI 0) else (nI 1)))] (gKn n, gRf f g, I, L) Q := by
    refine r_zret rfl (by split <;> (try split) <;> (try split) <;> decide) ?_
    first | exact hQ | simpa only [if_true] using hQ
  refine r_if_lt 8 rfl rfl (fun c1 => ?_) (fun c1 => ?_)
  · try simp only [if_pos c1] at hQ
    refine r_const rfl (gcst 0) ?_
    simpa only [if_pos c1] using j3
  · try simp only [if_neg c1] at hQ
    refine r_iload rfl rfl ?_
    refine r_aload rfl rfl ?_
    refine r_getI (c := 1) (k := 2) rfl (shFen h0) ⟨rfl, rfl⟩ ?_
    refine r_icmp_ge 8 rfl rfl (fun c2 => ?_) (fun c2 => ?_)
    · try simp only [if_pos c2] at hQ
      refine r_const rfl (gcst 0) ?_
      simpa only [if_neg c1, if_pos c2] using j3
    · try simp only [if_neg c2] at hQ
      refine r_const rfl (gcst 1) ?_
      refine r_goto 9 rfl rfl ?_
      simpa only [if_neg c1, if_neg c2] using j3
def f_X1_isVerse (I : Nat → Nat → Int32) (L : Nat → Nat → Int64) (a0 : Nat) (a1 : Int32) : Int32 := (if a1 < 0 then (nI 0) else (if (I a0 3) ≤ a1 then (nI 0) else (nI 1)))
set_option maxHeartbeats 4000000 in
set_option maxRecDepth 100000 in
theorem s_X1_isVerse {n f g d : Nat} {Q : gP} {I : Nat → Nat → Int32} {L : Nat → Nat → Int64} {a0 : Nat} {a1 : Int32} (h0 : gfe a0 = true) (hQ : Q (some (.int (f_X1_isVerse I L a0 a1))) (gKn n, gRf f g, I, L)) : gR gM (d + 0) 18 [.ref a0, .int a1] (gKn n, gRf f g, I, L) Q := by
  unfold f_X1_isVerse at hQ
  show gW gM (d + 0) 0 0 k_X1_isVerse 0 [.ref a0, .int a1] [] (gKn n, gRf f g, I, L) Q
  refine r_iload rfl rfl ?_
  have j3 : gW gM (d + 0) 0 0 k_X1_isVerse 9 [.ref a0, .int a1] [.int (if a1 < 0 then (nI 0) else (if (I a0 3) ≤ a1 then (nI 0) else (nI 1)))] (gKn n, gRf f g, I, L) Q := by
    refine r_zret rfl (by split <;> (try split) <;> (try split) <;> decide) ?_
    first | exact hQ | simpa only [if_true] using hQ
  refine r_if_lt 8 rfl rfl (fun c1 => ?_) (fun c1 => ?_)
  · try simp only [if_pos c1] at hQ
    refine r_const rfl (gcst 0) ?_
    simpa only [if_pos c1] using j3
  · try simp only [if_neg c1] at hQ
    refine r_iload rfl rfl ?_
    refine r_aload rfl rfl ?_
    refine r_getI (c := 1) (k := 3) rfl (shFen h0) ⟨rfl, rfl⟩ ?_
    refine r_icmp_ge 8 rfl rfl (fun c2 => ?_) (fun c2 => ?_)
    · try simp only [if_pos c2] at hQ
      refine r_const rfl (gcst 0) ?_
      simpa only [if_neg c1, if_pos c2] using j3
    · try simp only [if_neg c2] at hQ
      refine r_const rfl (gcst 1) ?_
      refine r_goto 9 rfl rfl ?_
      simpa only [if_neg c1, if_neg c2] using j3
def r_X1_gatesOf_4 (a0 : Nat)  : Nat → Int32 → Int32 → Int32 → (Nat → Nat → Int32) → (Nat → Nat → Int64) → Option gRs
  | 0, _, _, _, _, _ => none
  | m + 1, v1, v2, v3, I, L => (if (nI 3) ≤ v3 then some (v2, I, L) else (if gvp ((v1 * (nI 3)) + v3) 9 = true then (r_X1_gatesOf_4 a0 m v1 (v2 ||| (gshl (nI 1) (I (a0 + 3) (gx ((v1 * (nI 3)) + v3))))) (v3 + (nI 1)) I L) else none))
set_option maxHeartbeats 4000000 in
set_option maxRecDepth 100000 in
theorem t_X1_gatesOf_4 {n f g d : Nat} {Q : gP} {z : gRs} {a0 : Nat} (h0 : gfe a0 = true)  : ∀ {m : Nat} {v1 : Int32} {v2 : Int32} {v3 : Int32} {I : Nat → Nat → Int32} {L : Nat → Nat → Int64}, r_X1_gatesOf_4 a0 m v1 v2 v3 I L = some z → Q (some (.int z.1)) (gKn n, gRf f g, z.2.1, z.2.2) → gW gM (d + 0) 0 0 k_X1_gatesOf 4 [.ref a0, .int v1, .int v2, .int v3] [] (gKn n, gRf f g, I, L) Q := by
  intro m
  induction m with
  | zero =>
    intro v1 v2 v3 I L hr _
    cases hr
  | succ m ih =>
    intro v1 v2 v3 I L hr hQ
    have hK4 : ∀ v1 v2 v3 I L, r_X1_gatesOf_4 a0 m v1 v2 v3 I L = some z → gW gM (d + 0) 0 0 k_X1_gatesOf 4 [.ref a0, .int v1, .int v2, .int v3] [] (gKn n, gRf f g, I, L) Q := fun v1 v2 v3 I L hr => ih hr hQ
    unfold r_X1_gatesOf_4 at hr
    refine r_iload rfl rfl ?_
    refine r_const rfl (gcst 3) ?_
    refine r_icmp_ge 22 rfl rfl (fun c3 => ?_) (fun c3 => ?_)
    · rw [if_pos c3] at hr
      refine r_iload rfl rfl ?_
      refine r_iret rfl ?_
      cases hr
      exact hQ
    · rw [if_neg c3] at hr
      refine r_iload rfl rfl ?_
      refine r_const rfl (gcst 1) ?_
      refine r_aload rfl rfl ?_
      refine r_getR (c := 1) (k := 7) (v := (a0 + 3)) rfl (shFen h0) ⟨rfl, rfl⟩ (rfFen7 h0) ?_
      refine r_iload rfl rfl ?_
      refine r_const rfl (gcst 3) ?_
      refine r_imul rfl ?_
      refine r_iload rfl rfl ?_
      refine r_iadd rfl ?_
      obtain ⟨b4, hr⟩ := gopt hr
      refine r_iaload (n := 9) rfl (shFen7 h0) (gvp_in b4) ?_
      refine r_ishl rfl ?_
      refine r_ior rfl ?_
      refine r_istore [.ref a0, .int v1, .int (v2 ||| (gshl (nI 1) (I (a0 + 3) (gx ((v1 * (nI 3)) + v3))))), .int v3] rfl rfl (Nat.le_of_ble_eq_true rfl) rfl ?_
      refine r_iinc (y := (v3 + (nI 1))) [.ref a0, .int v1, .int (v2 ||| (gshl (nI 1) (I (a0 + 3) (gx ((v1 * (nI 3)) + v3))))), .int (v3 + (nI 1))] rfl rfl rfl (ginc _ 1) rfl ?_
      refine r_goto 4 rfl rfl ?_
      exact hK4 _ _ _ _ _ hr
def r_X1_gatesOf (I : Nat → Nat → Int32) (L : Nat → Nat → Int64) (a0 : Nat) (a1 : Int32) : Option gRs := (r_X1_gatesOf_4 a0 100 a1 (nI 0) (nI 0) I L)
set_option maxHeartbeats 4000000 in
set_option maxRecDepth 100000 in
theorem s_X1_gatesOf {n f g d : Nat} {Q : gP} {I : Nat → Nat → Int32} {L : Nat → Nat → Int64} {a0 : Nat} {a1 : Int32} {z : gRs} (h0 : gfe a0 = true) (hr : r_X1_gatesOf I L a0 a1 = some z) (hQ : Q (some (.int z.1)) (gKn n, gRf f g, z.2.1, z.2.2)) : gR gM (d + 0) 19 [.ref a0, .int a1] (gKn n, gRf f g, I, L) Q := by
  unfold r_X1_gatesOf at hr
  show gW gM (d + 0) 0 0 k_X1_gatesOf 0 [.ref a0, .int a1, .null, .null] [] (gKn n, gRf f g, I, L) Q
  refine r_const rfl (gcst 0) ?_
  refine r_istore [.ref a0, .int a1, .int (nI 0), .null] rfl rfl (Nat.le_of_ble_eq_true rfl) rfl ?_
  refine r_const rfl (gcst 0) ?_
  refine r_istore [.ref a0, .int a1, .int (nI 0), .int (nI 0)] rfl rfl (Nat.le_of_ble_eq_true rfl) rfl ?_
  exact t_X1_gatesOf_4 h0 hr hQ
def r_X1_lanesWith_4 (a0 : Nat)  : Nat → Int32 → Int32 → Int32 → (Nat → Nat → Int32) → (Nat → Nat → Int64) → Option gRs
  | 0, _, _, _, _, _ => none
  | m + 1, v1, v2, v3, I, L => (if (I a0 1) ≤ v3 then some (v2, I, L) else ((r_X1_gatesOf I L a0 v3).bind (fun z4 => (r_X1_lanesWith_4 a0 m v1 (v2 ||| (gshl ((gshr z4.1 v1) &&& (nI 1)) v3)) (v3 + (nI 1)) z4.2.1 z4.2.2))))
set_option maxHeartbeats 4000000 in
set_option maxRecDepth 100000 in
theorem t_X1_lanesWith_4 {n f g d : Nat} {Q : gP} {z : gRs} {a0 : Nat} (h0 : gfe a0 = true)  : ∀ {m : Nat} {v1 : Int32} {v2 : Int32} {v3 : Int32} {I : Nat → Nat → Int32} {L : Nat → Nat → Int64}, r_X1_lanesWith_4 a0 m v1 v2 v3 I L = some z → Q (some (.int z.1)) (gKn n, gRf f g, z.2.1, z.2.2) → gW gM (d + 1) 0 0 k_X1_lanesWith 4 [.ref a0, .int v1, .int v2, .int v3] [] (gKn n, gRf f g, I, L) Q := by
  intro m
  induction m with
  | zero =>
    intro v1 v2 v3 I L hr _
    cases hr
  | succ m ih =>
    intro v1 v2 v3 I L hr hQ
    have hK4 : ∀ v1 v2 v3 I L, r_X1_lanesWith_4 a0 m v1 v2 v3 I L = some z → gW gM (d + 1) 0 0 k_X1_lanesWith 4 [.ref a0, .int v1, .int v2, .int v3] [] (gKn n, gRf f g, I, L) Q := fun v1 v2 v3 I L hr => ih hr hQ
    unfold r_X1_lanesWith_4 at hr
    refine r_iload rfl rfl ?_
    refine r_aload rfl rfl ?_
    refine r_getI (c := 1) (k := 1) rfl (shFen h0) ⟨rfl, rfl⟩ ?_
    refine r_icmp_ge 22 rfl rfl (fun c3 => ?_) (fun c3 => ?_)
    · rw [if_pos c3] at hr
      refine r_iload rfl rfl ?_
      refine r_iret rfl ?_
      cases hr
      exact hQ
    · rw [if_neg c3] at hr
      refine r_iload rfl rfl ?_
      refine r_aload rfl rfl ?_
      refine r_iload rfl rfl ?_
      obtain ⟨z4, hz4, hr⟩ := gbnd hr
      refine r_invv (a := a0) [.int v3] rfl rfl (shFen h0) rfl rfl (Nat.le_of_ble_eq_true rfl) ⟨rfl, rfl⟩ ?_
      refine s_X1_gatesOf h0 hz4 ?_
      show gW _ _ _ _ _ 12 [.ref a0, .int v1, .int v2, .int v3] [.int z4.1, .int v2] (gKn n, gRf f g, z4.2.1, z4.2.2) _
      refine r_iload rfl rfl ?_
      refine r_ishr rfl ?_
      refine r_const rfl (gcst 1) ?_
      refine r_iand rfl ?_
      refine r_iload rfl rfl ?_
      refine r_ishl rfl ?_
      refine r_ior rfl ?_
      refine r_istore [.ref a0, .int v1, .int (v2 ||| (gshl ((gshr z4.1 v1) &&& (nI 1)) v3)), .int v3] rfl rfl (Nat.le_of_ble_eq_true rfl) rfl ?_
      refine r_iinc (y := (v3 + (nI 1))) [.ref a0, .int v1, .int (v2 ||| (gshl ((gshr z4.1 v1) &&& (nI 1)) v3)), .int (v3 + (nI 1))] rfl rfl rfl (ginc _ 1) rfl ?_
      refine r_goto 4 rfl rfl ?_
      exact hK4 _ _ _ _ _ hr
def r_X1_lanesWith (I : Nat → Nat → Int32) (L : Nat → Nat → Int64) (a0 : Nat) (a1 : Int32) : Option gRs := (r_X1_lanesWith_4 a0 100 a1 (nI 0) (nI 0) I L)
set_option maxHeartbeats 4000000 in
set_option maxRecDepth 100000 in
theorem s_X1_lanesWith {n f g d : Nat} {Q : gP} {I : Nat → Nat → Int32} {L : Nat → Nat → Int64} {a0 : Nat} {a1 : Int32} {z : gRs} (h0 : gfe a0 = true) (hr : r_X1_lanesWith I L a0 a1 = some z) (hQ : Q (some (.int z.1)) (gKn n, gRf f g, z.2.1, z.2.2)) : gR gM (d + 1) 20 [.ref a0, .int a1] (gKn n, gRf f g, I, L) Q := by
  unfold r_X1_lanesWith at hr
  show gW gM (d + 1) 0 0 k_X1_lanesWith 0 [.ref a0, .int a1, .null, .null] [] (gKn n, gRf f g, I, L) Q
  refine r_const rfl (gcst 0) ?_
  refine r_istore [.ref a0, .int a1, .int (nI 0), .null] rfl rfl (Nat.le_of_ble_eq_true rfl) rfl ?_
  refine r_const rfl (gcst 0) ?_
  refine r_istore [.ref a0, .int a1, .int (nI 0), .int (nI 0)] rfl rfl (Nat.le_of_ble_eq_true rfl) rfl ?_
  exact t_X1_lanesWith_4 h0 hr hQ
def r_X1_verseBits_4 (a0 : Nat)  : Nat → Int32 → Int32 → Int32 → (Nat → Nat → Int32) → (Nat → Nat → Int64) → Option gRs
  | 0, _, _, _, _, _ => none
  | m + 1, v1, v2, v3, I, L => (if (nI 4) ≤ v3 then some ((v2 &&& (-4097 : Int32)), I, L) else (if gvp ((v1 * (nI 4)) + v3) 8 = true then (r_X1_verseBits_4 a0 m v1 (v2 ||| (gshl (nI 1) (I (a0 + 6) (gx ((v1 * (nI 4)) + v3))))) (v3 + (nI 1)) I L) else none))
set_option maxHeartbeats 4000000 in
set_option maxRecDepth 100000 in
theorem t_X1_verseBits_4 {n f g d : Nat} {Q : gP} {z : gRs} {a0 : Nat} (h0 : gfe a0 = true)  : ∀ {m : Nat} {v1 : Int32} {v2 : Int32} {v3 : Int32} {I : Nat → Nat → Int32} {L : Nat → Nat → Int64}, r_X1_verseBits_4 a0 m v1 v2 v3 I L = some z → Q (some (.int z.1)) (gKn n, gRf f g, z.2.1, z.2.2) → gW gM (d + 0) 0 0 k_X1_verseBits 4 [.ref a0, .int v1, .int v2, .int v3] [] (gKn n, gRf f g, I, L) Q := by
  intro m
  induction m with
  | zero =>
    intro v1 v2 v3 I L hr _
    cases hr
  | succ m ih =>
    intro v1 v2 v3 I L hr hQ
    have hK4 : ∀ v1 v2 v3 I L, r_X1_verseBits_4 a0 m v1 v2 v3 I L = some z → gW gM (d + 0) 0 0 k_X1_verseBits 4 [.ref a0, .int v1, .int v2, .int v3] [] (gKn n, gRf f g, I, L) Q := fun v1 v2 v3 I L hr => ih hr hQ
    unfold r_X1_verseBits_4 at hr
    refine r_iload rfl rfl ?_
    refine r_const rfl (gcst 4) ?_
    refine r_icmp_ge 22 rfl rfl (fun c3 => ?_) (fun c3 => ?_)
    · rw [if_pos c3] at hr
      refine r_iload rfl rfl ?_
      refine r_const rfl (v := -4097) (by decide) ?_
      refine r_iand rfl ?_
      refine r_iret rfl ?_
      cases hr
      exact hQ
    · rw [if_neg c3] at hr
      refine r_iload rfl rfl ?_
      refine r_const rfl (gcst 1) ?_
      refine r_aload rfl rfl ?_
      refine r_getR (c := 1) (k := 10) (v := (a0 + 6)) rfl (shFen h0) ⟨rfl, rfl⟩ (rfFen10 h0) ?_
      refine r_iload rfl rfl ?_
      refine r_const rfl (gcst 4) ?_
      refine r_imul rfl ?_
      refine r_iload rfl rfl ?_
      refine r_iadd rfl ?_
      obtain ⟨b4, hr⟩ := gopt hr
      refine r_iaload (n := 8) rfl (shFen10 h0) (gvp_in b4) ?_
      refine r_ishl rfl ?_
      refine r_ior rfl ?_
      refine r_istore [.ref a0, .int v1, .int (v2 ||| (gshl (nI 1) (I (a0 + 6) (gx ((v1 * (nI 4)) + v3))))), .int v3] rfl rfl (Nat.le_of_ble_eq_true rfl) rfl ?_
      refine r_iinc (y := (v3 + (nI 1))) [.ref a0, .int v1, .int (v2 ||| (gshl (nI 1) (I (a0 + 6) (gx ((v1 * (nI 4)) + v3))))), .int (v3 + (nI 1))] rfl rfl rfl (ginc _ 1) rfl ?_
      refine r_goto 4 rfl rfl ?_
      exact hK4 _ _ _ _ _ hr
def r_X1_verseBits (I : Nat → Nat → Int32) (L : Nat → Nat → Int64) (a0 : Nat) (a1 : Int32) : Option gRs := (r_X1_verseBits_4 a0 100 a1 (nI 0) (nI 0) I L)
set_option maxHeartbeats 4000000 in
set_option maxRecDepth 100000 in
theorem s_X1_verseBits {n f g d : Nat} {Q : gP} {I : Nat → Nat → Int32} {L : Nat → Nat → Int64} {a0 : Nat} {a1 : Int32} {z : gRs} (h0 : gfe a0 = true) (hr : r_X1_verseBits I L a0 a1 = some z) (hQ : Q (some (.int z.1)) (gKn n, gRf f g, z.2.1, z.2.2)) : gR gM (d + 0) 21 [.ref a0, .int a1] (gKn n, gRf f g, I, L) Q := by
  unfold r_X1_verseBits at hr
  show gW gM (d + 0) 0 0 k_X1_verseBits 0 [.ref a0, .int a1, .null, .null] [] (gKn n, gRf f g, I, L) Q
  refine r_const rfl (gcst 0) ?_
  refine r_istore [.ref a0, .int a1, .int (nI 0), .null] rfl rfl (Nat.le_of_ble_eq_true rfl) rfl ?_
  refine r_const rfl (gcst 0) ?_
  refine r_istore [.ref a0, .int a1, .int (nI 0), .int (nI 0)] rfl rfl (Nat.le_of_ble_eq_true rfl) rfl ?_
  exact t_X1_verseBits_4 h0 hr hQ
def f_X4_noteOf (I : Nat → Nat → Int32) (L : Nat → Nat → Int64) (a0 : Nat) (a1 : Int32) : Int32 := ((gshr (I a0 0) ((nI 4) * a1)) &&& (nI 15))
set_option maxHeartbeats 4000000 in
set_option maxRecDepth 100000 in
theorem s_X4_noteOf {n f g d : Nat} {Q : gP} {I : Nat → Nat → Int32} {L : Nat → Nat → Int64} {a0 : Nat} {a1 : Int32} (h0 : gmo a0 = true) (hQ : Q (some (.int (f_X4_noteOf I L a0 a1))) (gKn n, gRf f g, I, L)) : gR gM (d + 0) 38 [.ref a0, .int a1] (gKn n, gRf f g, I, L) Q := by
  unfold f_X4_noteOf at hQ
  show gW gM (d + 0) 0 0 k_X4_noteOf 0 [.ref a0, .int a1] [] (gKn n, gRf f g, I, L) Q
  refine r_aload rfl rfl ?_
  refine r_getI (c := 4) (k := 0) rfl (shMom h0) ⟨rfl, rfl⟩ ?_
  refine r_const rfl (gcst 4) ?_
  refine r_iload rfl rfl ?_
  refine r_imul rfl ?_
  refine r_ishr rfl ?_
  refine r_const rfl (gcst 15) ?_
  refine r_iand rfl ?_
  refine r_iret rfl ?_
  first | exact hQ | simpa only [if_true] using hQ
def f_X4_passedOf (I : Nat → Nat → Int32) (L : Nat → Nat → Int64) (a0 : Nat) (a1 : Int32) : Int32 := ((gshr (I a0 1) ((nI 2) * a1)) &&& (nI 3))
set_option maxHeartbeats 4000000 in
set_option maxRecDepth 100000 in
theorem s_X4_passedOf {n f g d : Nat} {Q : gP} {I : Nat → Nat → Int32} {L : Nat → Nat → Int64} {a0 : Nat} {a1 : Int32} (h0 : gmo a0 = true) (hQ : Q (some (.int (f_X4_passedOf I L a0 a1))) (gKn n, gRf f g, I, L)) : gR gM (d + 0) 40 [.ref a0, .int a1] (gKn n, gRf f g, I, L) Q := by
  unfold f_X4_passedOf at hQ
  show gW gM (d + 0) 0 0 k_X4_passedOf 0 [.ref a0, .int a1] [] (gKn n, gRf f g, I, L) Q
  refine r_aload rfl rfl ?_
  refine r_getI (c := 4) (k := 1) rfl (shMom h0) ⟨rfl, rfl⟩ ?_
  refine r_const rfl (gcst 2) ?_
  refine r_iload rfl rfl ?_
  refine r_imul rfl ?_
  refine r_ishr rfl ?_
  refine r_const rfl (gcst 3) ?_
  refine r_iand rfl ?_
  refine r_iret rfl ?_
  first | exact hQ | simpa only [if_true] using hQ
def r_J9_floorMod_7cf53_14   (v2 : Int32) (I : Nat → Nat → Int32) (L : Nat → Nat → Int64) : Option gRs := some (v2, I, L)
set_option maxHeartbeats 4000000 in
set_option maxRecDepth 100000 in
theorem t_J9_floorMod_7cf53_14 {n f g d : Nat} {Q : gP} {z : gRs}    {v2 : Int32} {I : Nat → Nat → Int32} {L : Nat → Nat → Int64} (hr : r_J9_floorMod_7cf53_14 v2 I L = some z) (hQ : Q (some (.int z.1)) (gKn n, gRf f g, z.2.1, z.2.2)) : gW gM (d + 0) 0 0 k_J9_floorMod_7cf53 14 [.null, .null, .int v2] [] (gKn n, gRf f g, I, L) Q := by
  unfold r_J9_floorMod_7cf53_14 at hr
  refine r_iload rfl rfl ?_
  refine r_iret rfl ?_
  cases hr
  exact hQ
def r_J9_floorMod_7cf53 (I : Nat → Nat → Int32) (L : Nat → Nat → Int64) (a0 : Int32) (a1 : Int32) : Option gRs := (if ¬ a1 = 0 then (if 0 ≤ (a0 ^^^ a1) then (r_J9_floorMod_7cf53_14 (grem a0 a1) I L) else (if (grem a0 a1) = 0 then (r_J9_floorMod_7cf53_14 (grem a0 a1) I L) else some (((grem a0 a1) + a1), I, L))) else none)
set_option maxHeartbeats 4000000 in
set_option maxRecDepth 100000 in
theorem s_J9_floorMod_7cf53 {n f g d : Nat} {Q : gP} {I : Nat → Nat → Int32} {L : Nat → Nat → Int64} {a0 : Int32} {a1 : Int32} {z : gRs}  (hr : r_J9_floorMod_7cf53 I L a0 a1 = some z) (hQ : Q (some (.int z.1)) (gKn n, gRf f g, z.2.1, z.2.2)) : gR gM (d + 0) 178 [.int a0, .int a1] (gKn n, gRf f g, I, L) Q := by
  unfold r_J9_floorMod_7cf53 at hr
  show gW gM (d + 0) 0 0 k_J9_floorMod_7cf53 0 [.int a0, .int a1, .null] [] (gKn n, gRf f g, I, L) Q
  refine r_iload rfl rfl ?_
  refine r_iload rfl rfl ?_
  obtain ⟨b7, hr⟩ := gopt hr
  refine r_irem rfl b7 ?_
  refine r_istore [.int a0, .int a1, .int (grem a0 a1)] rfl rfl (Nat.le_of_ble_eq_true rfl) rfl ?_
  refine r_iload rfl rfl ?_
  refine r_iload rfl rfl ?_
  refine r_ixor rfl ?_
  refine r_if_ge 14 rfl rfl (fun c8 => ?_) (fun c8 => ?_)
  · rw [if_pos c8] at hr
    refine gforget (ls := [.null, .null, .int (grem a0 a1)]) ⟨(Or.inr (Or.inl ⟨rfl, _, rfl⟩)), ⟨(Or.inr (Or.inl ⟨rfl, _, rfl⟩)), ⟨(Or.inl rfl), trivial⟩⟩⟩ ?_
    exact t_J9_floorMod_7cf53_14  hr hQ
  · rw [if_neg c8] at hr
    refine r_iload rfl rfl ?_
    refine r_if_eq 14 rfl rfl (fun c9 => ?_) (fun c9 => ?_)
    · rw [if_pos c9] at hr
      refine gforget (ls := [.null, .null, .int (grem a0 a1)]) ⟨(Or.inr (Or.inl ⟨rfl, _, rfl⟩)), ⟨(Or.inr (Or.inl ⟨rfl, _, rfl⟩)), ⟨(Or.inl rfl), trivial⟩⟩⟩ ?_
      exact t_J9_floorMod_7cf53_14  hr hQ
    · rw [if_neg c9] at hr
      refine r_iload rfl rfl ?_
      refine r_iload rfl rfl ?_
      refine r_iadd rfl ?_
      refine r_iret rfl ?_
      cases hr
      exact hQ
def r_X1_toneBy_37 (a0 : Nat) (a1 : Nat)  (v2 : Int32) (v4 : Int32) (s0 : Int32) (s1 : Int32) (s2 : Int32) (I : Nat → Nat → Int32) (L : Nat → Nat → Int64) : Option gRs := (if ¬ s2 = 0 then (if gvp v2 5 = true then ((r_J9_floorMod_7cf53 I L (if ¬ v4 = (nI 2) then (if ¬ (I (a0 + 2) (gx v2)) = (nI 2) then ((s0 + (s1 / s2)) + ((nI 4) * (I a1 5))) else (((s0 + (s1 / s2)) + ((nI 4) * (I a1 5))) - (f_X4_passedOf I L a1 v2))) else ((if ¬ (I (a0 + 2) (gx v2)) = (nI 2) then ((s0 + (s1 / s2)) + ((nI 4) * (I a1 5))) else (((s0 + (s1 / s2)) + ((nI 4) * (I a1 5))) - (f_X4_passedOf I L a1 v2))) + (-5 : Int32))) (nI 12)).bind (fun z22 => some (z22.1, z22.2.1, z22.2.2))) else none) else none)
set_option maxHeartbeats 4000000 in
set_option maxRecDepth 100000 in
theorem t_X1_toneBy_37 {n f g d : Nat} {Q : gP} {z : gRs} {a0 : Nat} {a1 : Nat} (h0 : gfe a0 = true) (h1 : gmo a1 = true)  {v2 : Int32} {v4 : Int32} {s0 : Int32} {s1 : Int32} {s2 : Int32} {I : Nat → Nat → Int32} {L : Nat → Nat → Int64} (hr : r_X1_toneBy_37 a0 a1 v2 v4 s0 s1 s2 I L = some z) (hQ : Q (some (.int z.1)) (gKn n, gRf f g, z.2.1, z.2.2)) : gW gM (d + 1) 0 0 k_X1_toneBy 37 [.ref a0, .ref a1, .int v2, .null, .int v4, .null, .null] [.int s2, .int s1, .int s0] (gKn n, gRf f g, I, L) Q := by
  unfold r_X1_toneBy_37 at hr
  obtain ⟨b18, hr⟩ := gopt hr
  refine r_idiv rfl b18 ?_
  refine r_iadd rfl ?_
  refine r_const rfl (gcst 4) ?_
  refine r_aload rfl rfl ?_
  refine r_getI (c := 4) (k := 5) rfl (shMom h1) ⟨rfl, rfl⟩ ?_
  refine r_imul rfl ?_
  refine r_iadd rfl ?_
  refine r_istore [.ref a0, .ref a1, .int v2, .null, .int v4, .null, .int ((s0 + (s1 / s2)) + ((nI 4) * (I a1 5)))] rfl rfl (Nat.le_of_ble_eq_true rfl) rfl ?_
  refine r_aload rfl rfl ?_
  refine r_getR (c := 1) (k := 6) (v := (a0 + 2)) rfl (shFen h0) ⟨rfl, rfl⟩ (rfFen6 h0) ?_
  refine r_iload rfl rfl ?_
  obtain ⟨b19, hr⟩ := gopt hr
  refine r_iaload (n := 5) rfl (shFen6 h0) (gvp_in b19) ?_
  refine r_const rfl (gcst 2) ?_
  have j23 : gW gM (d + 1) 0 0 k_X1_toneBy 57 [.ref a0, .ref a1, .int v2, .null, .int v4, .null, .int (if ¬ (I (a0 + 2) (gx v2)) = (nI 2) then ((s0 + (s1 / s2)) + ((nI 4) * (I a1 5))) else (((s0 + (s1 / s2)) + ((nI 4) * (I a1 5))) - (f_X4_passedOf I L a1 v2)))] [] (gKn n, gRf f g, I, L) Q := by
    refine r_iload rfl rfl ?_
    refine r_const rfl (gcst 2) ?_
    have j24 : gW gM (d + 1) 0 0 k_X1_toneBy 61 [.ref a0, .ref a1, .int v2, .null, .int v4, .null, .int (if ¬ v4 = (nI 2) then (if ¬ (I (a0 + 2) (gx v2)) = (nI 2) then ((s0 + (s1 / s2)) + ((nI 4) * (I a1 5))) else (((s0 + (s1 / s2)) + ((nI 4) * (I a1 5))) - (f_X4_passedOf I L a1 v2))) else ((if ¬ (I (a0 + 2) (gx v2)) = (nI 2) then ((s0 + (s1 / s2)) + ((nI 4) * (I a1 5))) else (((s0 + (s1 / s2)) + ((nI 4) * (I a1 5))) - (f_X4_passedOf I L a1 v2))) + (-5 : Int32)))] [] (gKn n, gRf f g, I, L) Q := by
      refine r_iload rfl rfl ?_
      refine r_const rfl (gcst 12) ?_
      obtain ⟨z22, hz22, hr⟩ := gbnd hr
      refine r_invs [.int (if ¬ v4 = (nI 2) then (if ¬ (I (a0 + 2) (gx v2)) = (nI 2) then ((s0 + (s1 / s2)) + ((nI 4) * (I a1 5))) else (((s0 + (s1 / s2)) + ((nI 4) * (I a1 5))) - (f_X4_passedOf I L a1 v2))) else ((if ¬ (I (a0 + 2) (gx v2)) = (nI 2) then ((s0 + (s1 / s2)) + ((nI 4) * (I a1 5))) else (((s0 + (s1 / s2)) + ((nI 4) * (I a1 5))) - (f_X4_passedOf I L a1 v2))) + (-5 : Int32))), .int (nI 12)] rfl rfl rfl rfl (Nat.le_of_ble_eq_true rfl) ⟨rfl, rfl⟩ ?_
      refine s_J9_floorMod_7cf53  hz22 ?_
      show gW _ _ _ _ _ 64 [.ref a0, .ref a1, .int v2, .null, .int v4, .null, .int (if ¬ v4 = (nI 2) then (if ¬ (I (a0 + 2) (gx v2)) = (nI 2) then ((s0 + (s1 / s2)) + ((nI 4) * (I a1 5))) else (((s0 + (s1 / s2)) + ((nI 4) * (I a1 5))) - (f_X4_passedOf I L a1 v2))) else ((if ¬ (I (a0 + 2) (gx v2)) = (nI 2) then ((s0 + (s1 / s2)) + ((nI 4) * (I a1 5))) else (((s0 + (s1 / s2)) + ((nI 4) * (I a1 5))) - (f_X4_passedOf I L a1 v2))) + (-5 : Int32)))] [.int z22.1] (gKn n, gRf f g, z22.2.1, z22.2.2) _
      refine r_iret rfl ?_
      cases hr
      exact hQ
    refine r_icmp_ne 61 rfl rfl (fun c21 => ?_) (fun c21 => ?_)
    · first | contradiction | simpa only [if_pos c21] using j24
    · refine r_iinc (y := ((if ¬ (I (a0 + 2) (gx v2)) = (nI 2) then ((s0 + (s1 / s2)) + ((nI 4) * (I a1 5))) else (((s0 + (s1 / s2)) + ((nI 4) * (I a1 5))) - (f_X4_passedOf I L a1 v2))) + (-5 : Int32))) [.ref a0, .ref a1, .int v2, .null, .int v4, .null, .int ((if ¬ (I (a0 + 2) (gx v2)) = (nI 2) then ((s0 + (s1 / s2)) + ((nI 4) * (I a1 5))) else (((s0 + (s1 / s2)) + ((nI 4) * (I a1 5))) - (f_X4_passedOf I L a1 v2))) + (-5 : Int32))] rfl rfl rfl rfl rfl ?_
      first | contradiction | simpa only [if_neg c21] using j24
  refine r_icmp_ne 57 rfl rfl (fun c20 => ?_) (fun c20 => ?_)
  · first | contradiction | simpa only [if_pos c20] using j23
  · refine r_iload rfl rfl ?_
    refine r_aload rfl rfl ?_
    refine r_iload rfl rfl ?_
    refine r_invv (a := a1) [.int v2] rfl rfl (shMom h1) rfl rfl (Nat.le_of_ble_eq_true rfl) ⟨rfl, rfl⟩ ?_
    refine s_X4_passedOf h1 ?_
    show gW _ _ _ _ _ 55 [.ref a0, .ref a1, .int v2, .null, .int v4, .null, .int ((s0 + (s1 / s2)) + ((nI 4) * (I a1 5)))] [.int (f_X4_passedOf I L a1 v2), .int ((s0 + (s1 / s2)) + ((nI 4) * (I a1 5)))] (gKn n, gRf f g, I, L) _
    refine r_isub rfl ?_
    refine r_istore [.ref a0, .ref a1, .int v2, .null, .int v4, .null, .int (((s0 + (s1 / s2)) + ((nI 4) * (I a1 5))) - (f_X4_passedOf I L a1 v2))] rfl rfl (Nat.le_of_ble_eq_true rfl) rfl ?_
    first | contradiction | simpa only [if_neg c20] using j23
def r_X1_toneBy_25 (a0 : Nat) (a1 : Nat)   (I : Nat → Nat → Int32) (L : Nat → Nat → Int64) : Option gRs := some ((nI 12), I, L)
set_option maxHeartbeats 4000000 in
set_option maxRecDepth 100000 in
theorem t_X1_toneBy_25 {n f g d : Nat} {Q : gP} {z : gRs} {a0 : Nat} {a1 : Nat} (h0 : gfe a0 = true) (h1 : gmo a1 = true)   {I : Nat → Nat → Int32} {L : Nat → Nat → Int64} (hr : r_X1_toneBy_25 a0 a1 I L = some z) (hQ : Q (some (.int z.1)) (gKn n, gRf f g, z.2.1, z.2.2)) : gW gM (d + 1) 0 0 k_X1_toneBy 25 [.null, .null, .null, .null, .null, .null, .null] [] (gKn n, gRf f g, I, L) Q := by
  unfold r_X1_toneBy_25 at hr
  refine r_const rfl (gcst 12) ?_
  refine r_iret rfl ?_
  cases hr
  exact hQ
def r_X1_toneBy (I : Nat → Nat → Int32) (L : Nat → Nat → Int64) (a0 : Nat) (a1 : Nat) (a2 : Int32) (a3 : Int32) (a4 : Int32) : Option gRs := (if gvp a2 5 = true then (if ¬ (if ¬ (I (a0 + 2) (gx a2)) = (nI 3) then (nI 0) else (if (nI 5) ≤ a3 then (nI 0) else (nI 1))) = 0 then (r_X1_toneBy_25 a0 a1 I L) else (if ((gshr ((I a1 2) ||| (I a1 3)) a2) &&& (nI 1)) = 0 then (if ¬ a4 = (nI 3) then (r_X1_toneBy_37 a0 a1 a2 a4 (f_X4_noteOf I L a1 a2) a3 (nI 2) I L) else (r_X1_toneBy_37 a0 a1 a2 a4 (f_X4_noteOf I L a1 a2) a3 (nI 4) I L)) else (r_X1_toneBy_25 a0 a1 I L))) else none)
set_option maxHeartbeats 4000000 in
set_option maxRecDepth 100000 in
theorem s_X1_toneBy {n f g d : Nat} {Q : gP} {I : Nat → Nat → Int32} {L : Nat → Nat → Int64} {a0 : Nat} {a1 : Nat} {a2 : Int32} {a3 : Int32} {a4 : Int32} {z : gRs} (h0 : gfe a0 = true) (h1 : gmo a1 = true) (hr : r_X1_toneBy I L a0 a1 a2 a3 a4 = some z) (hQ : Q (some (.int z.1)) (gKn n, gRf f g, z.2.1, z.2.2)) : gR gM (d + 1) 22 [.ref a0, .ref a1, .int a2, .int a3, .int a4] (gKn n, gRf f g, I, L) Q := by
  unfold r_X1_toneBy at hr
  show gW gM (d + 1) 0 0 k_X1_toneBy 0 [.ref a0, .ref a1, .int a2, .int a3, .int a4, .null, .null] [] (gKn n, gRf f g, I, L) Q
  refine r_aload rfl rfl ?_
  refine r_getR (c := 1) (k := 6) (v := (a0 + 2)) rfl (shFen h0) ⟨rfl, rfl⟩ (rfFen6 h0) ?_
  refine r_iload rfl rfl ?_
  obtain ⟨b25, hr⟩ := gopt hr
  refine r_iaload (n := 5) rfl (shFen6 h0) (gvp_in b25) ?_
  refine r_const rfl (gcst 3) ?_
  have j31 : gW gM (d + 1) 0 0 k_X1_toneBy 12 [.ref a0, .ref a1, .int a2, .int a3, .int a4, .null, .null] [.int (if ¬ (I (a0 + 2) (gx a2)) = (nI 3) then (nI 0) else (if (nI 5) ≤ a3 then (nI 0) else (nI 1)))] (gKn n, gRf f g, I, L) Q := by
    refine r_istore [.ref a0, .ref a1, .int a2, .int a3, .int a4, .int (if ¬ (I (a0 + 2) (gx a2)) = (nI 3) then (nI 0) else (if (nI 5) ≤ a3 then (nI 0) else (nI 1))), .null] rfl rfl (Nat.le_of_ble_eq_true rfl) rfl ?_
    refine r_iload rfl rfl ?_
    refine r_if_ne 25 rfl rfl (fun c28 => ?_) (fun c28 => ?_)
    · rw [if_pos c28] at hr
      refine gforget (ls := [.null, .null, .null, .null, .null, .null, .null]) ⟨(Or.inr (Or.inr ⟨rfl, _, rfl⟩)), ⟨(Or.inr (Or.inr ⟨rfl, _, rfl⟩)), ⟨(Or.inr (Or.inl ⟨rfl, _, rfl⟩)), ⟨(Or.inr (Or.inl ⟨rfl, _, rfl⟩)), ⟨(Or.inr (Or.inl ⟨rfl, _, rfl⟩)), ⟨(Or.inr (Or.inl ⟨rfl, _, rfl⟩)), ⟨(Or.inl rfl), trivial⟩⟩⟩⟩⟩⟩⟩ ?_
      exact t_X1_toneBy_25 h0 h1 hr hQ
    · rw [if_neg c28] at hr
      refine r_aload rfl rfl ?_
      refine r_getI (c := 4) (k := 2) rfl (shMom h1) ⟨rfl, rfl⟩ ?_
      refine r_aload rfl rfl ?_
      refine r_getI (c := 4) (k := 3) rfl (shMom h1) ⟨rfl, rfl⟩ ?_
      refine r_ior rfl ?_
      refine r_iload rfl rfl ?_
      refine r_ishr rfl ?_
      refine r_const rfl (gcst 1) ?_
      refine r_iand rfl ?_
      refine r_if_eq 27 rfl rfl (fun c29 => ?_) (fun c29 => ?_)
      · rw [if_pos c29] at hr
        refine r_aload rfl rfl ?_
        refine r_iload rfl rfl ?_
        refine r_invv (a := a1) [.int a2] rfl rfl (shMom h1) rfl rfl (Nat.le_of_ble_eq_true rfl) ⟨rfl, rfl⟩ ?_
        refine s_X4_noteOf h1 ?_
        show gW _ _ _ _ _ 30 [.ref a0, .ref a1, .int a2, .int a3, .int a4, .int (if ¬ (I (a0 + 2) (gx a2)) = (nI 3) then (nI 0) else (if (nI 5) ≤ a3 then (nI 0) else (nI 1))), .null] [.int (f_X4_noteOf I L a1 a2)] (gKn n, gRf f g, I, L) _
        refine r_iload rfl rfl ?_
        refine r_iload rfl rfl ?_
        refine r_const rfl (gcst 3) ?_
        refine r_icmp_ne 36 rfl rfl (fun c30 => ?_) (fun c30 => ?_)
        · rw [if_pos c30] at hr
          refine r_const rfl (gcst 2) ?_
          refine gforget (ls := [.ref a0, .ref a1, .int a2, .null, .int a4, .null, .null]) ⟨(Or.inl rfl), ⟨(Or.inl rfl), ⟨(Or.inl rfl), ⟨(Or.inr (Or.inl ⟨rfl, _, rfl⟩)), ⟨(Or.inl rfl), ⟨(Or.inr (Or.inl ⟨rfl, _, rfl⟩)), ⟨(Or.inl rfl), trivial⟩⟩⟩⟩⟩⟩⟩ ?_
          exact t_X1_toneBy_37 h0 h1 hr hQ
        · rw [if_neg c30] at hr
          refine r_const rfl (gcst 4) ?_
          refine r_goto 37 rfl rfl ?_
          refine gforget (ls := [.ref a0, .ref a1, .int a2, .null, .int a4, .null, .null]) ⟨(Or.inl rfl), ⟨(Or.inl rfl), ⟨(Or.inl rfl), ⟨(Or.inr (Or.inl ⟨rfl, _, rfl⟩)), ⟨(Or.inl rfl), ⟨(Or.inr (Or.inl ⟨rfl, _, rfl⟩)), ⟨(Or.inl rfl), trivial⟩⟩⟩⟩⟩⟩⟩ ?_
          exact t_X1_toneBy_37 h0 h1 hr hQ
      · rw [if_neg c29] at hr
        refine gforget (ls := [.null, .null, .null, .null, .null, .null, .null]) ⟨(Or.inr (Or.inr ⟨rfl, _, rfl⟩)), ⟨(Or.inr (Or.inr ⟨rfl, _, rfl⟩)), ⟨(Or.inr (Or.inl ⟨rfl, _, rfl⟩)), ⟨(Or.inr (Or.inl ⟨rfl, _, rfl⟩)), ⟨(Or.inr (Or.inl ⟨rfl, _, rfl⟩)), ⟨(Or.inr (Or.inl ⟨rfl, _, rfl⟩)), ⟨(Or.inl rfl), trivial⟩⟩⟩⟩⟩⟩⟩ ?_
        exact t_X1_toneBy_25 h0 h1 hr hQ
  refine r_icmp_ne 11 rfl rfl (fun c26 => ?_) (fun c26 => ?_)
  · refine r_const rfl (gcst 0) ?_
    first | contradiction | simpa only [if_pos c26] using j31
  · refine r_iload rfl rfl ?_
    refine r_const rfl (gcst 5) ?_
    refine r_icmp_ge 11 rfl rfl (fun c27 => ?_) (fun c27 => ?_)
    · refine r_const rfl (gcst 0) ?_
      first | contradiction | simpa only [if_neg c26, if_pos c27] using j31
    · refine r_const rfl (gcst 1) ?_
      refine r_goto 12 rfl rfl ?_
      first | contradiction | simpa only [if_neg c26, if_neg c27] using j31
def r_X6_add_16 (a0 : Nat)   (I : Nat → Nat → Int32) (L : Nat → Nat → Int64) : Option gRs := some (0, I, L)
set_option maxHeartbeats 4000000 in
set_option maxRecDepth 100000 in
theorem t_X6_add_16 {n f g d : Nat} {Q : gP} {z : gRs} {a0 : Nat} (h0 : gso a0 = true)   {I : Nat → Nat → Int32} {L : Nat → Nat → Int64} (hr : r_X6_add_16 a0 I L = some z) (hQ : Q none (gKn n, gRf f g, z.2.1, z.2.2)) : gW gM (d + 0) 0 0 k_X6_add 16 [.null, .null] [] (gKn n, gRf f g, I, L) Q := by
  unfold r_X6_add_16 at hr
  refine r_vret rfl ?_
  cases hr
  exact hQ
def r_X6_add (I : Nat → Nat → Int32) (L : Nat → Nat → Int64) (a0 : Nat) (a1 : Int32) : Option gRs := (if (nI 12) ≤ (I a0 1) then (r_X6_add_16 a0 I L) else (if gvp (I a0 1) 12 = true then (r_X6_add_16 a0 (gu2 (gu2 I (a0 + 1) (gx (I a0 1)) a1) a0 1 (((gu2 I (a0 + 1) (gx (I a0 1)) a1) a0 1) + (nI 1))) L) else none))
set_option maxHeartbeats 4000000 in
set_option maxRecDepth 100000 in
theorem s_X6_add {n f g d : Nat} {Q : gP} {I : Nat → Nat → Int32} {L : Nat → Nat → Int64} {a0 : Nat} {a1 : Int32} {z : gRs} (h0 : gso a0 = true) (hr : r_X6_add I L a0 a1 = some z) (hQ : Q none (gKn n, gRf f g, z.2.1, z.2.2)) : gR gM (d + 0) 51 [.ref a0, .int a1] (gKn n, gRf f g, I, L) Q := by
  unfold r_X6_add at hr
  show gW gM (d + 0) 0 0 k_X6_add 0 [.ref a0, .int a1] [] (gKn n, gRf f g, I, L) Q
  refine r_aload rfl rfl ?_
  refine r_getI (c := 6) (k := 1) rfl (shSong h0) ⟨rfl, rfl⟩ ?_
  refine r_const rfl (gcst 12) ?_
  refine r_icmp_ge 16 rfl rfl (fun c5 => ?_) (fun c5 => ?_)
  · rw [if_pos c5] at hr
    refine gforget (ls := [.null, .null]) ⟨(Or.inr (Or.inr ⟨rfl, _, rfl⟩)), ⟨(Or.inr (Or.inl ⟨rfl, _, rfl⟩)), trivial⟩⟩ ?_
    exact t_X6_add_16 h0 hr hQ
  · rw [if_neg c5] at hr
    refine r_aload rfl rfl ?_
    refine r_getR (c := 6) (k := 0) (v := (a0 + 1)) rfl (shSong h0) ⟨rfl, rfl⟩ (rfSong h0) ?_
    refine r_aload rfl rfl ?_
    refine r_getI (c := 6) (k := 1) rfl (shSong h0) ⟨rfl, rfl⟩ ?_
    refine r_iload rfl rfl ?_
    obtain ⟨b6, hr⟩ := gopt hr
    refine r_iastore (n := 12) rfl (shSong0 h0) (gvp_in b6) (ne1Song h0) ?_
    refine r_aload rfl rfl ?_
    refine r_dup rfl rfl ?_
    refine r_getI (c := 6) (k := 1) rfl (shSong h0) ⟨rfl, rfl⟩ ?_
    refine r_const rfl (gcst 1) ?_
    refine r_iadd rfl ?_
    refine r_putI (c := 6) (k := 1) rfl (shSong h0) ⟨rfl, rfl⟩ ?_
    refine gforget (ls := [.null, .null]) ⟨(Or.inr (Or.inr ⟨rfl, _, rfl⟩)), ⟨(Or.inr (Or.inl ⟨rfl, _, rfl⟩)), trivial⟩⟩ ?_
    exact t_X6_add_16 h0 hr hQ
def r_X1_sing_64 (a0 : Nat) (a1 : Nat) (a4 : Nat) (K5 : Int32 → Int32 → Int32 → (Nat → Nat → Int32) → (Nat → Nat → Int64) → Option gRs) (K42 : Int32 → Int32 → Int32 → Int32 → Int32 → Int32 → (Nat → Nat → Int32) → (Nat → Nat → Int64) → Option gRs) (v2 : Int32) (v3 : Int32) (v5 : Int32) (v7 : Int32) (v8 : Int32) (v9 : Int32) (I : Nat → Nat → Int32) (L : Nat → Nat → Int64) : Option gRs := (K42 v2 v3 v5 v7 v8 (v9 + (nI 1)) I L)
set_option maxHeartbeats 4000000 in
set_option maxRecDepth 100000 in
theorem t_X1_sing_64 {n f g d : Nat} {Q : gP} {z : gRs} {a0 : Nat} {a1 : Nat} {a4 : Nat} (h0 : gfe a0 = true) (h1 : gmo a1 = true) (h4 : gso a4 = true) {K5 : Int32 → Int32 → Int32 → (Nat → Nat → Int32) → (Nat → Nat → Int64) → Option gRs} (hK5 : ∀ v2 v3 v5 I L, K5 v2 v3 v5 I L = some z → gW gM (d + 2) 0 0 k_X1_sing 5 [.ref a0, .ref a1, .int v2, .int v3, .ref a4, .int v5, .null, .null, .null, .null] [] (gKn n, gRf f g, I, L) Q) {K42 : Int32 → Int32 → Int32 → Int32 → Int32 → Int32 → (Nat → Nat → Int32) → (Nat → Nat → Int64) → Option gRs} (hK42 : ∀ v2 v3 v5 v7 v8 v9 I L, K42 v2 v3 v5 v7 v8 v9 I L = some z → gW gM (d + 2) 0 0 k_X1_sing 42 [.ref a0, .ref a1, .int v2, .int v3, .ref a4, .int v5, .null, .int v7, .int v8, .int v9] [] (gKn n, gRf f g, I, L) Q) {v2 : Int32} {v3 : Int32} {v5 : Int32} {v7 : Int32} {v8 : Int32} {v9 : Int32} {I : Nat → Nat → Int32} {L : Nat → Nat → Int64} (hr : r_X1_sing_64 a0 a1 a4 K5 K42 v2 v3 v5 v7 v8 v9 I L = some z) (hQ : Q none (gKn n, gRf f g, z.2.1, z.2.2)) : gW gM (d + 2) 0 0 k_X1_sing 64 [.ref a0, .ref a1, .int v2, .int v3, .ref a4, .int v5, .null, .int v7, .int v8, .int v9] [] (gKn n, gRf f g, I, L) Q := by
  unfold r_X1_sing_64 at hr
  refine r_iinc (y := (v9 + (nI 1))) [.ref a0, .ref a1, .int v2, .int v3, .ref a4, .int v5, .null, .int v7, .int v8, .int (v9 + (nI 1))] rfl rfl rfl (ginc _ 1) rfl ?_
  refine r_goto 42 rfl rfl ?_
  exact hK42 _ _ _ _ _ _ _ _ hr
def r_X1_sing_42 (a0 : Nat) (a1 : Nat) (a4 : Nat) (K5 : Int32 → Int32 → Int32 → (Nat → Nat → Int32) → (Nat → Nat → Int64) → Option gRs) : Nat → Int32 → Int32 → Int32 → Int32 → Int32 → Int32 → (Nat → Nat → Int32) → (Nat → Nat → Int64) → Option gRs
  | 0, _, _, _, _, _, _, _, _ => none
  | m + 1, v2, v3, v5, v7, v8, v9, I, L => (if v8 ≤ v9 then (K5 v2 v3 (v5 + (nI 1)) I L) else ((r_X6_add I L a4 v7).bind (fun z35 => (if gvp v2 5 = true then (if ¬ (z35.2.1 (a0 + 5) (gx v2)) = (nI 1) then (r_X1_sing_64 a0 a1 a4 K5 (r_X1_sing_42 a0 a1 a4 K5 m) v2 v3 v5 v7 v8 v9 z35.2.1 z35.2.2) else (if v7 = (nI 12) then (r_X1_sing_64 a0 a1 a4 K5 (r_X1_sing_42 a0 a1 a4 K5 m) v2 v3 v5 v7 v8 v9 z35.2.1 z35.2.2) else ((r_X6_add z35.2.1 z35.2.2 a4 (grem (v7 + (nI 1)) (nI 12))).bind (fun z39 => (r_X1_sing_64 a0 a1 a4 K5 (r_X1_sing_42 a0 a1 a4 K5 m) v2 v3 v5 v7 v8 v9 z39.2.1 z39.2.2))))) else none))))
set_option maxHeartbeats 4000000 in
set_option maxRecDepth 100000 in
theorem t_X1_sing_42 {n f g d : Nat} {Q : gP} {z : gRs} {a0 : Nat} {a1 : Nat} {a4 : Nat} (h0 : gfe a0 = true) (h1 : gmo a1 = true) (h4 : gso a4 = true) {K5 : Int32 → Int32 → Int32 → (Nat → Nat → Int32) → (Nat → Nat → Int64) → Option gRs} (hK5 : ∀ v2 v3 v5 I L, K5 v2 v3 v5 I L = some z → gW gM (d + 2) 0 0 k_X1_sing 5 [.ref a0, .ref a1, .int v2, .int v3, .ref a4, .int v5, .null, .null, .null, .null] [] (gKn n, gRf f g, I, L) Q) : ∀ {m : Nat} {v2 : Int32} {v3 : Int32} {v5 : Int32} {v7 : Int32} {v8 : Int32} {v9 : Int32} {I : Nat → Nat → Int32} {L : Nat → Nat → Int64}, r_X1_sing_42 a0 a1 a4 K5 m v2 v3 v5 v7 v8 v9 I L = some z → Q none (gKn n, gRf f g, z.2.1, z.2.2) → gW gM (d + 2) 0 0 k_X1_sing 42 [.ref a0, .ref a1, .int v2, .int v3, .ref a4, .int v5, .null, .int v7, .int v8, .int v9] [] (gKn n, gRf f g, I, L) Q := by
  intro m
  induction m with
  | zero =>
    intro v2 v3 v5 v7 v8 v9 I L hr _
    cases hr
  | succ m ih =>
    intro v2 v3 v5 v7 v8 v9 I L hr hQ
    have hK42 : ∀ v2 v3 v5 v7 v8 v9 I L, r_X1_sing_42 a0 a1 a4 K5 m v2 v3 v5 v7 v8 v9 I L = some z → gW gM (d + 2) 0 0 k_X1_sing 42 [.ref a0, .ref a1, .int v2, .int v3, .ref a4, .int v5, .null, .int v7, .int v8, .int v9] [] (gKn n, gRf f g, I, L) Q := fun v2 v3 v5 v7 v8 v9 I L hr => ih hr hQ
    unfold r_X1_sing_42 at hr
    refine r_iload rfl rfl ?_
    refine r_iload rfl rfl ?_
    refine r_icmp_ge 66 rfl rfl (fun c34 => ?_) (fun c34 => ?_)
    · rw [if_pos c34] at hr
      refine r_iinc (y := (v5 + (nI 1))) [.ref a0, .ref a1, .int v2, .int v3, .ref a4, .int (v5 + (nI 1)), .null, .int v7, .int v8, .int v9] rfl rfl rfl (ginc _ 1) rfl ?_
      refine r_goto 5 rfl rfl ?_
      refine gforget (ls := [.ref a0, .ref a1, .int v2, .int v3, .ref a4, .int (v5 + (nI 1)), .null, .null, .null, .null]) ⟨(Or.inl rfl), ⟨(Or.inl rfl), ⟨(Or.inl rfl), ⟨(Or.inl rfl), ⟨(Or.inl rfl), ⟨(Or.inl rfl), ⟨(Or.inl rfl), ⟨(Or.inr (Or.inl ⟨rfl, _, rfl⟩)), ⟨(Or.inr (Or.inl ⟨rfl, _, rfl⟩)), ⟨(Or.inr (Or.inl ⟨rfl, _, rfl⟩)), trivial⟩⟩⟩⟩⟩⟩⟩⟩⟩⟩ ?_
      exact hK5 _ _ _ _ _ hr
    · rw [if_neg c34] at hr
      refine r_aload rfl rfl ?_
      refine r_iload rfl rfl ?_
      obtain ⟨z35, hz35, hr⟩ := gbnd hr
      refine r_invv (a := a4) [.int v7] rfl rfl (shSong h4) rfl rfl (Nat.le_of_ble_eq_true rfl) ⟨rfl, rfl⟩ ?_
      refine s_X6_add h4 hz35 ?_
      show gW _ _ _ _ _ 48 [.ref a0, .ref a1, .int v2, .int v3, .ref a4, .int v5, .null, .int v7, .int v8, .int v9] [] (gKn n, gRf f g, z35.2.1, z35.2.2) _
      refine r_aload rfl rfl ?_
      refine r_getR (c := 1) (k := 9) (v := (a0 + 5)) rfl (shFen h0) ⟨rfl, rfl⟩ (rfFen9 h0) ?_
      refine r_iload rfl rfl ?_
      obtain ⟨b36, hr⟩ := gopt hr
      refine r_iaload (n := 5) rfl (shFen9 h0) (gvp_in b36) ?_
      refine r_const rfl (gcst 1) ?_
      refine r_icmp_ne 64 rfl rfl (fun c37 => ?_) (fun c37 => ?_)
      · rw [if_pos c37] at hr
        exact t_X1_sing_64 h0 h1 h4 hK5 hK42 hr hQ
      · rw [if_neg c37] at hr
        refine r_iload rfl rfl ?_
        refine r_const rfl (gcst 12) ?_
        refine r_icmp_eq 64 rfl rfl (fun c38 => ?_) (fun c38 => ?_)
        · rw [if_pos c38] at hr
          exact t_X1_sing_64 h0 h1 h4 hK5 hK42 hr hQ
        · rw [if_neg c38] at hr
          refine r_aload rfl rfl ?_
          refine r_iload rfl rfl ?_
          refine r_const rfl (gcst 1) ?_
          refine r_iadd rfl ?_
          refine r_const rfl (gcst 12) ?_
          refine r_irem rfl (nI_ne0 (n := 12) (by decide) (by decide)) ?_
          obtain ⟨z39, hz39, hr⟩ := gbnd hr
          refine r_invv (a := a4) [.int (grem (v7 + (nI 1)) (nI 12))] rfl rfl (shSong h4) rfl rfl (Nat.le_of_ble_eq_true rfl) ⟨rfl, rfl⟩ ?_
          refine s_X6_add h4 hz39 ?_
          show gW _ _ _ _ _ 64 [.ref a0, .ref a1, .int v2, .int v3, .ref a4, .int v5, .null, .int v7, .int v8, .int v9] [] (gKn n, gRf f g, z39.2.1, z39.2.2) _
          exact t_X1_sing_64 h0 h1 h4 hK5 hK42 hr hQ
def r_X1_sing_39 (a0 : Nat) (a1 : Nat) (a4 : Nat) (K5 : Int32 → Int32 → Int32 → (Nat → Nat → Int32) → (Nat → Nat → Int64) → Option gRs) (v2 : Int32) (v3 : Int32) (v5 : Int32) (v7 : Int32) (s0 : Int32) (I : Nat → Nat → Int32) (L : Nat → Nat → Int64) : Option gRs := (r_X1_sing_42 a0 a1 a4 K5 100 v2 v3 v5 v7 s0 (nI 0) I L)
set_option maxHeartbeats 4000000 in
set_option maxRecDepth 100000 in
theorem t_X1_sing_39 {n f g d : Nat} {Q : gP} {z : gRs} {a0 : Nat} {a1 : Nat} {a4 : Nat} (h0 : gfe a0 = true) (h1 : gmo a1 = true) (h4 : gso a4 = true) {K5 : Int32 → Int32 → Int32 → (Nat → Nat → Int32) → (Nat → Nat → Int64) → Option gRs} (hK5 : ∀ v2 v3 v5 I L, K5 v2 v3 v5 I L = some z → gW gM (d + 2) 0 0 k_X1_sing 5 [.ref a0, .ref a1, .int v2, .int v3, .ref a4, .int v5, .null, .null, .null, .null] [] (gKn n, gRf f g, I, L) Q) {v2 : Int32} {v3 : Int32} {v5 : Int32} {v7 : Int32} {s0 : Int32} {I : Nat → Nat → Int32} {L : Nat → Nat → Int64} (hr : r_X1_sing_39 a0 a1 a4 K5 v2 v3 v5 v7 s0 I L = some z) (hQ : Q none (gKn n, gRf f g, z.2.1, z.2.2)) : gW gM (d + 2) 0 0 k_X1_sing 39 [.ref a0, .ref a1, .int v2, .int v3, .ref a4, .int v5, .null, .int v7, .null, .null] [.int s0] (gKn n, gRf f g, I, L) Q := by
  unfold r_X1_sing_39 at hr
  refine r_istore [.ref a0, .ref a1, .int v2, .int v3, .ref a4, .int v5, .null, .int v7, .int s0, .null] rfl rfl (Nat.le_of_ble_eq_true rfl) rfl ?_
  refine r_const rfl (gcst 0) ?_
  refine r_istore [.ref a0, .ref a1, .int v2, .int v3, .ref a4, .int v5, .null, .int v7, .int s0, .int (nI 0)] rfl rfl (Nat.le_of_ble_eq_true rfl) rfl ?_
  exact t_X1_sing_42 h0 h1 h4 hK5 hr hQ
def r_X1_sing_5 (a0 : Nat) (a1 : Nat) (a4 : Nat)  : Nat → Int32 → Int32 → Int32 → (Nat → Nat → Int32) → (Nat → Nat → Int64) → Option gRs
  | 0, _, _, _, _, _ => none
  | m + 1, v2, v3, v5, I, L => (if (nI 3) ≤ v5 then some (0, I, L) else (if gvp ((v3 * (nI 3)) + v5) 9 = true then (if gvp v2 5 = true then (if gvp v2 5 = true then ((r_X1_toneBy I L a0 a1 (I (a0 + 3) (gx ((v3 * (nI 3)) + v5))) (I (a0 + 4) (gx v2)) (I (a0 + 5) (gx v2))).bind (fun z44 => (if gvp (I (a0 + 3) (gx ((v3 * (nI 3)) + v5))) 5 = true then (if ¬ (z44.2.1 (a0 + 2) (gx (I (a0 + 3) (gx ((v3 * (nI 3)) + v5))))) = (nI 1) then (r_X1_sing_39 a0 a1 a4 (r_X1_sing_5 a0 a1 a4 m) v2 v3 v5 z44.1 (nI 1) z44.2.1 z44.2.2) else (r_X1_sing_39 a0 a1 a4 (r_X1_sing_5 a0 a1 a4 m) v2 v3 v5 z44.1 (nI 2) z44.2.1 z44.2.2)) else none))) else none) else none) else none))
set_option maxHeartbeats 4000000 in
set_option maxRecDepth 100000 in
theorem t_X1_sing_5 {n f g d : Nat} {Q : gP} {z : gRs} {a0 : Nat} {a1 : Nat} {a4 : Nat} (h0 : gfe a0 = true) (h1 : gmo a1 = true) (h4 : gso a4 = true)  : ∀ {m : Nat} {v2 : Int32} {v3 : Int32} {v5 : Int32} {I : Nat → Nat → Int32} {L : Nat → Nat → Int64}, r_X1_sing_5 a0 a1 a4 m v2 v3 v5 I L = some z → Q none (gKn n, gRf f g, z.2.1, z.2.2) → gW gM (d + 2) 0 0 k_X1_sing 5 [.ref a0, .ref a1, .int v2, .int v3, .ref a4, .int v5, .null, .null, .null, .null] [] (gKn n, gRf f g, I, L) Q := by
  intro m
  induction m with
  | zero =>
    intro v2 v3 v5 I L hr _
    cases hr
  | succ m ih =>
    intro v2 v3 v5 I L hr hQ
    have hK5 : ∀ v2 v3 v5 I L, r_X1_sing_5 a0 a1 a4 m v2 v3 v5 I L = some z → gW gM (d + 2) 0 0 k_X1_sing 5 [.ref a0, .ref a1, .int v2, .int v3, .ref a4, .int v5, .null, .null, .null, .null] [] (gKn n, gRf f g, I, L) Q := fun v2 v3 v5 I L hr => ih hr hQ
    unfold r_X1_sing_5 at hr
    refine r_iload rfl rfl ?_
    refine r_const rfl (gcst 3) ?_
    refine r_icmp_ge 68 rfl rfl (fun c40 => ?_) (fun c40 => ?_)
    · rw [if_pos c40] at hr
      refine r_vret rfl ?_
      cases hr
      exact hQ
    · rw [if_neg c40] at hr
      refine r_aload rfl rfl ?_
      refine r_getR (c := 1) (k := 7) (v := (a0 + 3)) rfl (shFen h0) ⟨rfl, rfl⟩ (rfFen7 h0) ?_
      refine r_iload rfl rfl ?_
      refine r_const rfl (gcst 3) ?_
      refine r_imul rfl ?_
      refine r_iload rfl rfl ?_
      refine r_iadd rfl ?_
      obtain ⟨b41, hr⟩ := gopt hr
      refine r_iaload (n := 9) rfl (shFen7 h0) (gvp_in b41) ?_
      refine r_istore [.ref a0, .ref a1, .int v2, .int v3, .ref a4, .int v5, .int (I (a0 + 3) (gx ((v3 * (nI 3)) + v5))), .null, .null, .null] rfl rfl (Nat.le_of_ble_eq_true rfl) rfl ?_
      refine r_aload rfl rfl ?_
      refine r_aload rfl rfl ?_
      refine r_iload rfl rfl ?_
      refine r_aload rfl rfl ?_
      refine r_getR (c := 1) (k := 8) (v := (a0 + 4)) rfl (shFen h0) ⟨rfl, rfl⟩ (rfFen8 h0) ?_
      refine r_iload rfl rfl ?_
      obtain ⟨b42, hr⟩ := gopt hr
      refine r_iaload (n := 5) rfl (shFen8 h0) (gvp_in b42) ?_
      refine r_aload rfl rfl ?_
      refine r_getR (c := 1) (k := 9) (v := (a0 + 5)) rfl (shFen h0) ⟨rfl, rfl⟩ (rfFen9 h0) ?_
      refine r_iload rfl rfl ?_
      obtain ⟨b43, hr⟩ := gopt hr
      refine r_iaload (n := 5) rfl (shFen9 h0) (gvp_in b43) ?_
      obtain ⟨z44, hz44, hr⟩ := gbnd hr
      refine r_invv (a := a0) [.ref a1, .int (I (a0 + 3) (gx ((v3 * (nI 3)) + v5))), .int (I (a0 + 4) (gx v2)), .int (I (a0 + 5) (gx v2))] rfl rfl (shFen h0) rfl rfl (Nat.le_of_ble_eq_true rfl) ⟨rfl, rfl⟩ ?_
      refine s_X1_toneBy h0 h1 hz44 ?_
      show gW _ _ _ _ _ 29 [.ref a0, .ref a1, .int v2, .int v3, .ref a4, .int v5, .int (I (a0 + 3) (gx ((v3 * (nI 3)) + v5))), .null, .null, .null] [.int z44.1] (gKn n, gRf f g, z44.2.1, z44.2.2) _
      refine r_istore [.ref a0, .ref a1, .int v2, .int v3, .ref a4, .int v5, .int (I (a0 + 3) (gx ((v3 * (nI 3)) + v5))), .int z44.1, .null, .null] rfl rfl (Nat.le_of_ble_eq_true rfl) rfl ?_
      refine r_aload rfl rfl ?_
      refine r_getR (c := 1) (k := 6) (v := (a0 + 2)) rfl (shFen h0) ⟨rfl, rfl⟩ (rfFen6 h0) ?_
      refine r_iload rfl rfl ?_
      obtain ⟨b45, hr⟩ := gopt hr
      refine r_iaload (n := 5) rfl (shFen6 h0) (gvp_in b45) ?_
      refine r_const rfl (gcst 1) ?_
      refine r_icmp_ne 38 rfl rfl (fun c46 => ?_) (fun c46 => ?_)
      · rw [if_pos c46] at hr
        refine r_const rfl (gcst 1) ?_
        refine gforget (ls := [.ref a0, .ref a1, .int v2, .int v3, .ref a4, .int v5, .null, .int z44.1, .null, .null]) ⟨(Or.inl rfl), ⟨(Or.inl rfl), ⟨(Or.inl rfl), ⟨(Or.inl rfl), ⟨(Or.inl rfl), ⟨(Or.inl rfl), ⟨(Or.inr (Or.inl ⟨rfl, _, rfl⟩)), ⟨(Or.inl rfl), ⟨(Or.inl rfl), ⟨(Or.inl rfl), trivial⟩⟩⟩⟩⟩⟩⟩⟩⟩⟩ ?_
        exact t_X1_sing_39 h0 h1 h4 hK5 hr hQ
      · rw [if_neg c46] at hr
        refine r_const rfl (gcst 2) ?_
        refine r_goto 39 rfl rfl ?_
        refine gforget (ls := [.ref a0, .ref a1, .int v2, .int v3, .ref a4, .int v5, .null, .int z44.1, .null, .null]) ⟨(Or.inl rfl), ⟨(Or.inl rfl), ⟨(Or.inl rfl), ⟨(Or.inl rfl), ⟨(Or.inl rfl), ⟨(Or.inl rfl), ⟨(Or.inr (Or.inl ⟨rfl, _, rfl⟩)), ⟨(Or.inl rfl), ⟨(Or.inl rfl), ⟨(Or.inl rfl), trivial⟩⟩⟩⟩⟩⟩⟩⟩⟩⟩ ?_
        exact t_X1_sing_39 h0 h1 h4 hK5 hr hQ
def r_X1_sing (I : Nat → Nat → Int32) (L : Nat → Nat → Int64) (a0 : Nat) (a1 : Nat) (a2 : Int32) (a3 : Int32) (a4 : Nat) : Option gRs := (r_X1_sing_5 a0 a1 a4 100 a2 a3 (nI 0) (gu2 I a4 1 (nI 0)) L)
set_option maxHeartbeats 4000000 in
set_option maxRecDepth 100000 in
theorem s_X1_sing {n f g d : Nat} {Q : gP} {I : Nat → Nat → Int32} {L : Nat → Nat → Int64} {a0 : Nat} {a1 : Nat} {a2 : Int32} {a3 : Int32} {a4 : Nat} {z : gRs} (h0 : gfe a0 = true) (h1 : gmo a1 = true) (h4 : gso a4 = true) (hr : r_X1_sing I L a0 a1 a2 a3 a4 = some z) (hQ : Q none (gKn n, gRf f g, z.2.1, z.2.2)) : gR gM (d + 2) 23 [.ref a0, .ref a1, .int a2, .int a3, .ref a4] (gKn n, gRf f g, I, L) Q := by
  unfold r_X1_sing at hr
  show gW gM (d + 2) 0 0 k_X1_sing 0 [.ref a0, .ref a1, .int a2, .int a3, .ref a4, .null, .null, .null, .null, .null] [] (gKn n, gRf f g, I, L) Q
  refine r_aload rfl rfl ?_
  refine r_const rfl (gcst 0) ?_
  refine r_putI (c := 6) (k := 1) rfl (shSong h4) ⟨rfl, rfl⟩ ?_
  refine r_const rfl (gcst 0) ?_
  refine r_istore [.ref a0, .ref a1, .int a2, .int a3, .ref a4, .int (nI 0), .null, .null, .null, .null] rfl rfl (Nat.le_of_ble_eq_true rfl) rfl ?_
  exact t_X1_sing_5 h0 h1 h4 hr hQ
