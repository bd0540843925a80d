/-! FUNCTIONS (dec.py) -/
def f_X4_noteOf (I : Nat → Nat → Int32) (L : Nat → Nat → Int64) (a0 : Nat) (a1 : Int32) : Int32 := ((gshr (I a0 0) ((nI 4) * a1)) &&& (nI 15))
set_option maxHeartbeats 4000000 in
set_option maxRecDepth 100000 in
theorem s_X4_noteOf {n f g d : Nat} {Q : gP} {I : Nat → Nat → Int32} {L : Nat → Nat → Int64} {a0 : Nat} {a1 : Int32} (h0 : gmo a0 = true) (hQ : Q (some (.int (f_X4_noteOf I L a0 a1))) (gKn n, gRf f g, I, L)) : gR gM (d + 0) 38 [.ref a0, .int a1] (gKn n, gRf f g, I, L) Q := by
  unfold f_X4_noteOf at hQ
  show gW gM (d + 0) 0 0 k_X4_noteOf 0 [.ref a0, .int a1] [] (gKn n, gRf f g, I, L) Q
  refine r_aload rfl rfl ?_
  refine r_getI (c := 4) (k := 0) rfl (shMom h0) ⟨rfl, rfl⟩ ?_
  refine r_const rfl (gcst 4) ?_
  refine r_iload rfl rfl ?_
  refine r_imul rfl ?_
  refine r_ishr rfl ?_
  refine r_const rfl (gcst 15) ?_
  refine r_iand rfl ?_
  refine r_iret rfl ?_
  first | exact hQ | simpa only [if_true] using hQ
def f_X1_isGate (I : Nat → Nat → Int32) (L : Nat → Nat → Int64) (a0 : Nat) (a1 : Int32) : Int32 := (if a1 < 0 then (nI 0) else (if (I a0 0) ≤ a1 then (nI 0) else (nI 1)))
set_option maxHeartbeats 4000000 in
set_option maxRecDepth 100000 in
theorem s_X1_isGate {n f g d : Nat} {Q : gP} {I : Nat → Nat → Int32} {L : Nat → Nat → Int64} {a0 : Nat} {a1 : Int32} (h0 : gfe a0 = true) (hQ : Q (some (.int (f_X1_isGate I L a0 a1))) (gKn n, gRf f g, I, L)) : gR gM (d + 0) 15 [.ref a0, .int a1] (gKn n, gRf f g, I, L) Q := by
  unfold f_X1_isGate at hQ
  show gW gM (d + 0) 0 0 k_X1_isGate 0 [.ref a0, .int a1] [] (gKn n, gRf f g, I, L) Q
  refine r_iload rfl rfl ?_
  have j3 : gW gM (d + 0) 0 0 k_X1_isGate 9 [.ref a0, .int a1] [.int (if a1 < 0 then (nI 0) else (if (I a0 0) ≤ a1 then (nI 0) else (nI 1)))] (gKn n, gRf f g, I, L) Q := by
    refine r_zret rfl (by split <;> (try split) <;> (try split) <;> decide) ?_
    first | exact hQ | simpa only [if_true] using hQ
  refine r_if_lt 8 rfl rfl (fun c1 => ?_) (fun c1 => ?_)
  · try simp only [if_pos c1] at hQ
    refine r_const rfl (gcst 0) ?_
    simpa only [if_pos c1] using j3
  · try simp only [if_neg c1] at hQ
    refine r_iload rfl rfl ?_
    refine r_aload rfl rfl ?_
    refine r_getI (c := 1) (k := 0) rfl (shFen h0) ⟨rfl, rfl⟩ ?_
    refine r_icmp_ge 8 rfl rfl (fun c2 => ?_) (fun c2 => ?_)
    · try simp only [if_pos c2] at hQ
      refine r_const rfl (gcst 0) ?_
      simpa only [if_neg c1, if_pos c2] using j3
    · try simp only [if_neg c2] at hQ
      refine r_const rfl (gcst 1) ?_
      refine r_goto 9 rfl rfl ?_
      simpa only [if_neg c1, if_neg c2] using j3
def f_X8_bit (I : Nat → Nat → Int32) (L : Nat → Nat → Int64) (a0 : Int32) (a1 : Int32) : Int32 := (if ¬ ((gshr a0 a1) &&& (nI 1)) = (nI 1) then (nI 0) else (nI 1))
set_option maxHeartbeats 4000000 in
set_option maxRecDepth 100000 in
theorem s_X8_bit {n f g d : Nat} {Q : gP} {I : Nat → Nat → Int32} {L : Nat → Nat → Int64} {a0 : Int32} {a1 : Int32}  (hQ : Q (some (.int (f_X8_bit I L a0 a1))) (gKn n, gRf f g, I, L)) : gR gM (d + 0) 107 [.int a0, .int a1] (gKn n, gRf f g, I, L) Q := by
  unfold f_X8_bit at hQ
  show gW gM (d + 0) 0 0 k_X8_bit 0 [.int a0, .int a1] [] (gKn n, gRf f g, I, L) Q
  refine r_iload rfl rfl ?_
  refine r_iload rfl rfl ?_
  refine r_ishr rfl ?_
  refine r_const rfl (gcst 1) ?_
  refine r_iand rfl ?_
  refine r_const rfl (gcst 1) ?_
  have j2 : gW gM (d + 0) 0 0 k_X8_bit 10 [.int a0, .int a1] [.int (if ¬ ((gshr a0 a1) &&& (nI 1)) = (nI 1) then (nI 0) else (nI 1))] (gKn n, gRf f g, I, L) Q := by
    refine r_zret rfl (by split <;> (try split) <;> (try split) <;> decide) ?_
    first | exact hQ | simpa only [if_true] using hQ
  refine r_icmp_ne 9 rfl rfl (fun c1 => ?_) (fun c1 => ?_)
  · try simp only [if_pos c1] at hQ
    refine r_const rfl (gcst 0) ?_
    simpa only [if_pos c1] using j2
  · try simp only [if_neg c1] at hQ
    refine r_const rfl (gcst 1) ?_
    refine r_goto 10 rfl rfl ?_
    simpa only [if_neg c1] using j2
def f_X8_in (I : Nat → Nat → Int32) (L : Nat → Nat → Int64) (a0 : Int64) (a1 : Int64) (a2 : Int64) : Int32 := (if (lg_cmp a0 a1) < 0 then (nI 0) else (if 0 < (lg_cmp a0 a2) then (nI 0) else (nI 1)))
set_option maxHeartbeats 4000000 in
set_option maxRecDepth 100000 in
theorem s_X8_in {n f g d : Nat} {Q : gP} {I : Nat → Nat → Int32} {L : Nat → Nat → Int64} {a0 : Int64} {a1 : Int64} {a2 : Int64}  (hQ : Q (some (.int (f_X8_in I L a0 a1 a2))) (gKn n, gRf f g, I, L)) : gR gM (d + 0) 106 [.long a0, .long a1, .long a2] (gKn n, gRf f g, I, L) Q := by
  unfold f_X8_in at hQ
  show gW gM (d + 0) 0 0 k_X8_in 0 [.long a0, .null, .long a1, .null, .long a2, .null] [] (gKn n, gRf f g, I, L) Q
  refine r_lload rfl rfl ?_
  refine r_lload rfl rfl ?_
  refine r_lcmp rfl ?_
  have j3 : gW gM (d + 0) 0 0 k_X8_in 11 [.long a0, .null, .long a1, .null, .long a2, .null] [.int (if (lg_cmp a0 a1) < 0 then (nI 0) else (if 0 < (lg_cmp a0 a2) then (nI 0) else (nI 1)))] (gKn n, gRf f g, I, L) Q := by
    refine r_zret rfl (by split <;> (try split) <;> (try split) <;> decide) ?_
    first | exact hQ | simpa only [if_true] using hQ
  refine r_if_lt 10 rfl rfl (fun c1 => ?_) (fun c1 => ?_)
  · try simp only [if_pos c1] at hQ
    refine r_const rfl (gcst 0) ?_
    simpa only [if_pos c1] using j3
  · try simp only [if_neg c1] at hQ
    refine r_lload rfl rfl ?_
    refine r_lload rfl rfl ?_
    refine r_lcmp rfl ?_
    refine r_if_gt 10 rfl rfl (fun c2 => ?_) (fun c2 => ?_)
    · try simp only [if_pos c2] at hQ
      refine r_const rfl (gcst 0) ?_
      simpa only [if_neg c1, if_pos c2] using j3
    · try simp only [if_neg c2] at hQ
      refine r_const rfl (gcst 1) ?_
      refine r_goto 11 rfl rfl ?_
      simpa only [if_neg c1, if_neg c2] using j3
def f_J9_min_7cf53 (I : Nat → Nat → Int32) (L : Nat → Nat → Int64) (a0 : Int32) (a1 : Int32) : Int32 := (if a1 < a0 then a1 else a0)
set_option maxHeartbeats 4000000 in
set_option maxRecDepth 100000 in
theorem s_J9_min_7cf53 {n f g d : Nat} {Q : gP} {I : Nat → Nat → Int32} {L : Nat → Nat → Int64} {a0 : Int32} {a1 : Int32}  (hQ : Q (some (.int (f_J9_min_7cf53 I L a0 a1))) (gKn n, gRf f g, I, L)) : gR gM (d + 0) 180 [.int a0, .int a1] (gKn n, gRf f g, I, L) Q := by
  unfold f_J9_min_7cf53 at hQ
  show gW gM (d + 0) 0 0 k_J9_min_7cf53 0 [.int a0, .int a1] [] (gKn n, gRf f g, I, L) Q
  refine r_iload rfl rfl ?_
  refine r_iload rfl rfl ?_
  have j2 : gW gM (d + 0) 0 0 k_J9_min_7cf53 6 [.int a0, .int a1] [.int (if a1 < a0 then a1 else a0)] (gKn n, gRf f g, I, L) Q := by
    refine r_iret rfl ?_
    first | exact hQ | simpa only [if_true] using hQ
  refine r_icmp_gt 5 rfl rfl (fun c1 => ?_) (fun c1 => ?_)
  · try simp only [if_pos c1] at hQ
    refine r_iload rfl rfl ?_
    simpa only [if_pos c1] using j2
  · try simp only [if_neg c1] at hQ
    refine r_iload rfl rfl ?_
    refine r_goto 6 rfl rfl ?_
    simpa only [if_neg c1] using j2
def f_X4_passedOf (I : Nat → Nat → Int32) (L : Nat → Nat → Int64) (a0 : Nat) (a1 : Int32) : Int32 := ((gshr (I a0 1) ((nI 2) * a1)) &&& (nI 3))
set_option maxHeartbeats 4000000 in
set_option maxRecDepth 100000 in
theorem s_X4_passedOf {n f g d : Nat} {Q : gP} {I : Nat → Nat → Int32} {L : Nat → Nat → Int64} {a0 : Nat} {a1 : Int32} (h0 : gmo a0 = true) (hQ : Q (some (.int (f_X4_passedOf I L a0 a1))) (gKn n, gRf f g, I, L)) : gR gM (d + 0) 40 [.ref a0, .int a1] (gKn n, gRf f g, I, L) Q := by
  unfold f_X4_passedOf at hQ
  show gW gM (d + 0) 0 0 k_X4_passedOf 0 [.ref a0, .int a1] [] (gKn n, gRf f g, I, L) Q
  refine r_aload rfl rfl ?_
  refine r_getI (c := 4) (k := 1) rfl (shMom h0) ⟨rfl, rfl⟩ ?_
  refine r_const rfl (gcst 2) ?_
  refine r_iload rfl rfl ?_
  refine r_imul rfl ?_
  refine r_ishr rfl ?_
  refine r_const rfl (gcst 3) ?_
  refine r_iand rfl ?_
  refine r_iret rfl ?_
  first | exact hQ | simpa only [if_true] using hQ
def i_X4_pass (I : Nat → Nat → Int32) (L : Nat → Nat → Int64) (a0 : Nat) (a1 : Int32) : Nat → Nat → Int32 := (if (nI 3) ≤ (f_X4_passedOf I L a0 a1) then I else (gu2 I a0 1 ((I a0 1) + (gshl (nI 1) ((nI 2) * a1)))))
set_option maxHeartbeats 4000000 in
set_option maxRecDepth 100000 in
theorem s_X4_pass {n f g d : Nat} {Q : gP} {I : Nat → Nat → Int32} {L : Nat → Nat → Int64} {a0 : Nat} {a1 : Int32} (h0 : gmo a0 = true) (hQ : Q none (gKn n, gRf f g, i_X4_pass I L a0 a1, L)) : gR gM (d + 1) 41 [.ref a0, .int a1] (gKn n, gRf f g, I, L) Q := by
  unfold i_X4_pass at hQ
  show gW gM (d + 1) 0 0 k_X4_pass 0 [.ref a0, .int a1] [] (gKn n, gRf f g, I, L) Q
  refine r_aload rfl rfl ?_
  refine r_iload rfl rfl ?_
  refine r_invv (a := a0) [.int a1] rfl rfl (shMom h0) rfl rfl (by decide) ⟨rfl, rfl⟩ ?_
  refine s_X4_passedOf h0 ?_
  show gW _ _ _ _ _ 3 [.ref a0, .int a1] [.int (f_X4_passedOf I L a0 a1)] (gKn n, gRf f g, I, L) _
  refine r_const rfl (gcst 3) ?_
  have j3 : gW gM (d + 1) 0 0 k_X4_pass 15 [.ref a0, .int a1] [] (gKn n, gRf f g, (if (nI 3) ≤ (f_X4_passedOf I L a0 a1) then I else (gu2 I a0 1 ((I a0 1) + (gshl (nI 1) ((nI 2) * a1))))), L) Q := by
    refine r_vret rfl ?_
    first | exact hQ | simpa only [if_true] using hQ
  refine r_icmp_ge 15 rfl rfl (fun c2 => ?_) (fun c2 => ?_)
  · try simp only [if_pos c2] at hQ
    simpa only [if_pos c2] using j3
  · try simp only [if_neg c2] at hQ
    refine r_aload rfl rfl ?_
    refine r_dup rfl rfl ?_
    refine r_getI (c := 4) (k := 1) rfl (shMom h0) ⟨rfl, rfl⟩ ?_
    refine r_const rfl (gcst 1) ?_
    refine r_const rfl (gcst 2) ?_
    refine r_iload rfl rfl ?_
    refine r_imul rfl ?_
    refine r_ishl rfl ?_
    refine r_iadd rfl ?_
    refine r_putI (c := 4) (k := 1) rfl (shMom h0) ⟨rfl, rfl⟩ ?_
    simpa only [if_neg c2] using j3
