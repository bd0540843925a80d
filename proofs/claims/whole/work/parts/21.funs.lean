/-! FUNCTIONS (dec.py, dec2.py) -/
def f_X4_isHome (I : Nat → Nat → Int32) (L : Nat → Nat → Int64) (a0 : Nat) (a1 : Int32) : Int32 := (if ((gshr (I a0 4) a1) &&& (nI 1)) = 0 then (nI 0) else (nI 1))
set_option maxHeartbeats 4000000 in
set_option maxRecDepth 100000 in
theorem s_X4_isHome {n f g d : Nat} {Q : gP} {I : Nat → Nat → Int32} {L : Nat → Nat → Int64} {a0 : Nat} {a1 : Int32} (h0 : gmo a0 = true) (hQ : Q (some (.int (f_X4_isHome I L a0 a1))) (gKn n, gRf f g, I, L)) : gR gM (d + 0) 42 [.ref a0, .int a1] (gKn n, gRf f g, I, L) Q := by
  unfold f_X4_isHome at hQ
  show gW gM (d + 0) 0 0 k_X4_isHome 0 [.ref a0, .int a1] [] (gKn n, gRf f g, I, L) Q
  refine r_aload rfl rfl ?_
  refine r_getI (c := 4) (k := 4) rfl (shMom h0) ⟨rfl, rfl⟩ ?_
  refine r_iload rfl rfl ?_
  refine r_ishr rfl ?_
  refine r_const rfl (gcst 1) ?_
  refine r_iand rfl ?_
  have j2 : gW gM (d + 0) 0 0 k_X4_isHome 10 [.ref a0, .int a1] [.int (if ((gshr (I a0 4) a1) &&& (nI 1)) = 0 then (nI 0) else (nI 1))] (gKn n, gRf f g, I, L) Q := by
    refine r_zret rfl (by split <;> (try split) <;> (try split) <;> decide) ?_
    first | exact hQ | simpa only [if_true] using hQ
  refine r_if_eq 9 rfl rfl (fun c1 => ?_) (fun c1 => ?_)
  · try simp only [if_pos c1] at hQ
    refine r_const rfl (gcst 0) ?_
    simpa only [if_pos c1] using j2
  · try simp only [if_neg c1] at hQ
    refine r_const rfl (gcst 1) ?_
    refine r_goto 10 rfl rfl ?_
    simpa only [if_neg c1] using j2
def f_X1_canGoHome (I : Nat → Nat → Int32) (L : Nat → Nat → Int64) (a0 : Nat) (a1 : Nat) (a2 : Int32) (a3 : Int32) : Int32 := (if (f_X1_isBeast I L a0 a2) = 0 then (nI 0) else (if (f_X1_isLane I L a0 a3) = 0 then (nI 0) else (if ¬ (f_X4_isHome I L a1 a2) = 0 then (nI 0) else (nI 1))))
set_option maxHeartbeats 4000000 in
set_option maxRecDepth 100000 in
theorem s_X1_canGoHome {n f g d : Nat} {Q : gP} {I : Nat → Nat → Int32} {L : Nat → Nat → Int64} {a0 : Nat} {a1 : Nat} {a2 : Int32} {a3 : Int32} (h0 : gfe a0 = true) (h1 : gmo a1 = true) (hQ : Q (some (.int (f_X1_canGoHome I L a0 a1 a2 a3))) (gKn n, gRf f g, I, L)) : gR gM (d + 1) 24 [.ref a0, .ref a1, .int a2, .int a3] (gKn n, gRf f g, I, L) Q := by
  unfold f_X1_canGoHome at hQ
  show gW gM (d + 1) 0 0 k_X1_canGoHome 0 [.ref a0, .ref a1, .int a2, .int a3] [] (gKn n, gRf f g, I, L) Q
  refine r_aload rfl rfl ?_
  refine r_iload rfl rfl ?_
  refine r_invv (a := a0) [.int a2] rfl rfl (shFen h0) rfl rfl (Nat.le_of_ble_eq_true rfl) ⟨rfl, rfl⟩ ?_
  refine s_X1_isBeast h0 ?_
  show gW _ _ _ _ _ 3 [.ref a0, .ref a1, .int a2, .int a3] [.int (f_X1_isBeast I L a0 a2)] (gKn n, gRf f g, I, L) _
  have j7 : gW gM (d + 1) 0 0 k_X1_canGoHome 15 [.ref a0, .ref a1, .int a2, .int a3] [.int (if (f_X1_isBeast I L a0 a2) = 0 then (nI 0) else (if (f_X1_isLane I L a0 a3) = 0 then (nI 0) else (if ¬ (f_X4_isHome I L a1 a2) = 0 then (nI 0) else (nI 1))))] (gKn n, gRf f g, I, L) Q := by
    refine r_zret rfl (by split <;> (try split) <;> (try split) <;> decide) ?_
    first | exact hQ | simpa only [if_true] using hQ
  refine r_if_eq 14 rfl rfl (fun c2 => ?_) (fun c2 => ?_)
  · try simp only [if_pos c2] at hQ
    refine r_const rfl (gcst 0) ?_
    simpa only [if_pos c2] using j7
  · try simp only [if_neg c2] at hQ
    refine r_aload rfl rfl ?_
    refine r_iload rfl rfl ?_
    refine r_invv (a := a0) [.int a3] rfl rfl (shFen h0) rfl rfl (Nat.le_of_ble_eq_true rfl) ⟨rfl, rfl⟩ ?_
    refine s_X1_isLane h0 ?_
    show gW _ _ _ _ _ 7 [.ref a0, .ref a1, .int a2, .int a3] [.int (f_X1_isLane I L a0 a3)] (gKn n, gRf f g, I, L) _
    refine r_if_eq 14 rfl rfl (fun c4 => ?_) (fun c4 => ?_)
    · try simp only [if_pos c4] at hQ
      refine r_const rfl (gcst 0) ?_
      simpa only [if_neg c2, if_pos c4] using j7
    · try simp only [if_neg c4] at hQ
      refine r_aload rfl rfl ?_
      refine r_iload rfl rfl ?_
      refine r_invv (a := a1) [.int a2] rfl rfl (shMom h1) rfl rfl (Nat.le_of_ble_eq_true rfl) ⟨rfl, rfl⟩ ?_
      refine s_X4_isHome h1 ?_
      show gW _ _ _ _ _ 11 [.ref a0, .ref a1, .int a2, .int a3] [.int (f_X4_isHome I L a1 a2)] (gKn n, gRf f g, I, L) _
      refine r_if_ne 14 rfl rfl (fun c6 => ?_) (fun c6 => ?_)
      · try simp only [if_pos c6] at hQ
        refine r_const rfl (gcst 0) ?_
        simpa only [if_neg c2, if_neg c4, if_pos c6] using j7
      · try simp only [if_neg c6] at hQ
        refine r_const rfl (gcst 1) ?_
        refine r_goto 15 rfl rfl ?_
        simpa only [if_neg c2, if_neg c4, if_neg c6] using j7
def f_J9_min_7cf53 (I : Nat → Nat → Int32) (L : Nat → Nat → Int64) (a0 : Int32) (a1 : Int32) : Int32 := (if a1 < a0 then a1 else a0)
set_option maxHeartbeats 4000000 in
set_option maxRecDepth 100000 in
theorem s_J9_min_7cf53 {n f g d : Nat} {Q : gP} {I : Nat → Nat → Int32} {L : Nat → Nat → Int64} {a0 : Int32} {a1 : Int32}  (hQ : Q (some (.int (f_J9_min_7cf53 I L a0 a1))) (gKn n, gRf f g, I, L)) : gR gM (d + 0) 180 [.int a0, .int a1] (gKn n, gRf f g, I, L) Q := by
  unfold f_J9_min_7cf53 at hQ
  show gW gM (d + 0) 0 0 k_J9_min_7cf53 0 [.int a0, .int a1] [] (gKn n, gRf f g, I, L) Q
  refine r_iload rfl rfl ?_
  refine r_iload rfl rfl ?_
  have j2 : gW gM (d + 0) 0 0 k_J9_min_7cf53 6 [.int a0, .int a1] [.int (if a1 < a0 then a1 else a0)] (gKn n, gRf f g, I, L) Q := by
    refine r_iret rfl ?_
    first | exact hQ | simpa only [if_true] using hQ
  refine r_icmp_gt 5 rfl rfl (fun c1 => ?_) (fun c1 => ?_)
  · try simp only [if_pos c1] at hQ
    refine r_iload rfl rfl ?_
    simpa only [if_pos c1] using j2
  · try simp only [if_neg c1] at hQ
    refine r_iload rfl rfl ?_
    refine r_goto 6 rfl rfl ?_
    simpa only [if_neg c1] using j2
def i_X4_addSung (I : Nat → Nat → Int32) (L : Nat → Nat → Int64) (a0 : Nat) (a1 : Int32) : Nat → Nat → Int32 := (gu2 I a0 7 (f_J9_min_7cf53 I (gu2 L a0 6 ((glshl (L a0 6) (nI 4)) ||| (Int32.toInt64 a1))) ((I a0 7) + (nI 1)) (nI 12)))
def l_X4_addSung (I : Nat → Nat → Int32) (L : Nat → Nat → Int64) (a0 : Nat) (a1 : Int32) : Nat → Nat → Int64 := (gu2 L a0 6 ((glshl (L a0 6) (nI 4)) ||| (Int32.toInt64 a1)))
set_option maxHeartbeats 4000000 in
set_option maxRecDepth 100000 in
theorem s_X4_addSung {n f g d : Nat} {Q : gP} {I : Nat → Nat → Int32} {L : Nat → Nat → Int64} {a0 : Nat} {a1 : Int32} (h0 : gmo a0 = true) (hQ : Q none (gKn n, gRf f g, i_X4_addSung I L a0 a1, l_X4_addSung I L a0 a1)) : gR gM (d + 1) 44 [.ref a0, .int a1] (gKn n, gRf f g, I, L) Q := by
  unfold i_X4_addSung l_X4_addSung at hQ
  show gW gM (d + 1) 0 0 k_X4_addSung 0 [.ref a0, .int a1] [] (gKn n, gRf f g, I, L) Q
  refine r_aload rfl rfl ?_
  refine r_aload rfl rfl ?_
  refine r_getL (c := 4) (k := 6) rfl (shMom h0) ⟨rfl, rfl⟩ ?_
  refine r_const rfl (gcst 4) ?_
  refine r_lshl rfl ?_
  refine r_iload rfl rfl ?_
  refine r_i2l rfl ?_
  refine r_lor rfl ?_
  refine r_putL (c := 4) (k := 6) rfl (shMom h0) ⟨rfl, rfl⟩ ?_
  refine r_aload rfl rfl ?_
  refine r_aload rfl rfl ?_
  refine r_getI (c := 4) (k := 7) rfl (shMom h0) ⟨rfl, rfl⟩ ?_
  refine r_const rfl (gcst 1) ?_
  refine r_iadd rfl ?_
  refine r_const rfl (gcst 12) ?_
  refine r_invs [.int ((I a0 7) + (nI 1)), .int (nI 12)] rfl rfl rfl rfl (Nat.le_of_ble_eq_true rfl) ⟨rfl, rfl⟩ ?_
  refine s_J9_min_7cf53  ?_
  show gW _ _ _ _ _ 16 [.ref a0, .int a1] [.int (f_J9_min_7cf53 I (gu2 L a0 6 ((glshl (L a0 6) (nI 4)) ||| (Int32.toInt64 a1))) ((I a0 7) + (nI 1)) (nI 12)), .ref a0] (gKn n, gRf f g, I, (gu2 L a0 6 ((glshl (L a0 6) (nI 4)) ||| (Int32.toInt64 a1)))) _
  refine r_putI (c := 4) (k := 7) rfl (shMom h0) ⟨rfl, rfl⟩ ?_
  refine r_vret rfl ?_
  first | exact hQ | simpa only [if_true] using hQ
def i_X4_pass (I : Nat → Nat → Int32) (L : Nat → Nat → Int64) (a0 : Nat) (a1 : Int32) : Nat → Nat → Int32 := (if (nI 3) ≤ (f_X4_passedOf I L a0 a1) then I else (gu2 I a0 1 ((I a0 1) + (gshl (nI 1) ((nI 2) * a1)))))
set_option maxHeartbeats 4000000 in
set_option maxRecDepth 100000 in
theorem s_X4_pass {n f g d : Nat} {Q : gP} {I : Nat → Nat → Int32} {L : Nat → Nat → Int64} {a0 : Nat} {a1 : Int32} (h0 : gmo a0 = true) (hQ : Q none (gKn n, gRf f g, i_X4_pass I L a0 a1, L)) : gR gM (d + 1) 41 [.ref a0, .int a1] (gKn n, gRf f g, I, L) Q := by
  unfold i_X4_pass at hQ
  show gW gM (d + 1) 0 0 k_X4_pass 0 [.ref a0, .int a1] [] (gKn n, gRf f g, I, L) Q
  refine r_aload rfl rfl ?_
  refine r_iload rfl rfl ?_
  refine r_invv (a := a0) [.int a1] rfl rfl (shMom h0) rfl rfl (Nat.le_of_ble_eq_true rfl) ⟨rfl, rfl⟩ ?_
  refine s_X4_passedOf h0 ?_
  show gW _ _ _ _ _ 3 [.ref a0, .int a1] [.int (f_X4_passedOf I L a0 a1)] (gKn n, gRf f g, I, L) _
  refine r_const rfl (gcst 3) ?_
  have j3 : gW gM (d + 1) 0 0 k_X4_pass 15 [.ref a0, .int a1] [] (gKn n, gRf f g, (if (nI 3) ≤ (f_X4_passedOf I L a0 a1) then I else (gu2 I a0 1 ((I a0 1) + (gshl (nI 1) ((nI 2) * a1))))), L) Q := by
    refine r_vret rfl ?_
    first | exact hQ | simpa only [if_true] using hQ
  refine r_icmp_ge 15 rfl rfl (fun c2 => ?_) (fun c2 => ?_)
  · try simp only [if_pos c2] at hQ
    simpa only [if_pos c2] using j3
  · try simp only [if_neg c2] at hQ
    refine r_aload rfl rfl ?_
    refine r_dup rfl rfl ?_
    refine r_getI (c := 4) (k := 1) rfl (shMom h0) ⟨rfl, rfl⟩ ?_
    refine r_const rfl (gcst 1) ?_
    refine r_const rfl (gcst 2) ?_
    refine r_iload rfl rfl ?_
    refine r_imul rfl ?_
    refine r_ishl rfl ?_
    refine r_iadd rfl ?_
    refine r_putI (c := 4) (k := 1) rfl (shMom h0) ⟨rfl, rfl⟩ ?_
    simpa only [if_neg c2] using j3
def r_X1_sendHome_22 (a0 : Nat) (a1 : Nat) (a4 : Nat)  : Nat → Int32 → Int32 → Int32 → (Nat → Nat → Int32) → (Nat → Nat → Int64) → Option gRs
  | 0, _, _, _, _, _ => none
  | m + 1, v2, v3, v5, I, L => (if (nI 3) ≤ v5 then some (0, (gu2 I a1 4 ((I a1 4) ||| (gshl (nI 1) v2))), L) else (if gvp ((v3 * (nI 3)) + v5) 9 = true then (r_X1_sendHome_22 a0 a1 a4 m v2 v3 (v5 + (nI 1)) (i_X4_pass I L a1 (I (a0 + 3) (gx ((v3 * (nI 3)) + v5)))) L) else none))
set_option maxHeartbeats 4000000 in
set_option maxRecDepth 100000 in
theorem t_X1_sendHome_22 {n f g d : Nat} {Q : gP} {z : gRs} {a0 : Nat} {a1 : Nat} {a4 : Nat} (h0 : gfe a0 = true) (h1 : gmo a1 = true) (h4 : gso a4 = true)  : ∀ {m : Nat} {v2 : Int32} {v3 : Int32} {v5 : Int32} {I : Nat → Nat → Int32} {L : Nat → Nat → Int64}, r_X1_sendHome_22 a0 a1 a4 m v2 v3 v5 I L = some z → Q none (gKn n, gRf f g, z.2.1, z.2.2) → gW gM (d + 3) 0 0 k_X1_sendHome 22 [.ref a0, .ref a1, .int v2, .int v3, .null, .int v5] [] (gKn n, gRf f g, I, L) Q := by
  intro m
  induction m with
  | zero =>
    intro v2 v3 v5 I L hr _
    cases hr
  | succ m ih =>
    intro v2 v3 v5 I L hr hQ
    have hK22 : ∀ v2 v3 v5 I L, r_X1_sendHome_22 a0 a1 a4 m v2 v3 v5 I L = some z → gW gM (d + 3) 0 0 k_X1_sendHome 22 [.ref a0, .ref a1, .int v2, .int v3, .null, .int v5] [] (gKn n, gRf f g, I, L) Q := fun v2 v3 v5 I L hr => ih hr hQ
    unfold r_X1_sendHome_22 at hr
    refine r_iload rfl rfl ?_
    refine r_const rfl (gcst 3) ?_
    refine r_icmp_ge 37 rfl rfl (fun c6 => ?_) (fun c6 => ?_)
    · rw [if_pos c6] at hr
      refine r_aload rfl rfl ?_
      refine r_dup rfl rfl ?_
      refine r_getI (c := 4) (k := 4) rfl (shMom h1) ⟨rfl, rfl⟩ ?_
      refine r_const rfl (gcst 1) ?_
      refine r_iload rfl rfl ?_
      refine r_ishl rfl ?_
      refine r_ior rfl ?_
      refine r_putI (c := 4) (k := 4) rfl (shMom h1) ⟨rfl, rfl⟩ ?_
      refine r_vret rfl ?_
      cases hr
      exact hQ
    · rw [if_neg c6] at hr
      refine r_aload rfl rfl ?_
      refine r_aload rfl rfl ?_
      refine r_getR (c := 1) (k := 7) (v := (a0 + 3)) rfl (shFen h0) ⟨rfl, rfl⟩ (rfFen7 h0) ?_
      refine r_iload rfl rfl ?_
      refine r_const rfl (gcst 3) ?_
      refine r_imul rfl ?_
      refine r_iload rfl rfl ?_
      refine r_iadd rfl ?_
      obtain ⟨b7, hr⟩ := gopt hr
      refine r_iaload (n := 9) rfl (shFen7 h0) (gvp_in b7) ?_
      refine r_invv (a := a1) [.int (I (a0 + 3) (gx ((v3 * (nI 3)) + v5)))] rfl rfl (shMom h1) rfl rfl (Nat.le_of_ble_eq_true rfl) ⟨rfl, rfl⟩ ?_
      refine s_X4_pass h1 ?_
      show gW _ _ _ _ _ 35 [.ref a0, .ref a1, .int v2, .int v3, .null, .int v5] [] (gKn n, gRf f g, (i_X4_pass I L a1 (I (a0 + 3) (gx ((v3 * (nI 3)) + v5)))), L) _
      refine r_iinc (y := (v5 + (nI 1))) [.ref a0, .ref a1, .int v2, .int v3, .null, .int (v5 + (nI 1))] rfl rfl rfl (ginc _ 1) rfl ?_
      refine r_goto 22 rfl rfl ?_
      exact hK22 _ _ _ _ _ hr
def r_X1_sendHome_8 (a0 : Nat) (a1 : Nat) (a4 : Nat)  : Nat → Int32 → Int32 → Int32 → (Nat → Nat → Int32) → (Nat → Nat → Int64) → Option gRs
  | 0, _, _, _, _, _ => none
  | m + 1, v2, v3, v5, I, L => (if (I a4 1) ≤ v5 then (r_X1_sendHome_22 a0 a1 a4 100 v2 v3 (nI 0) I L) else (if gvp v5 12 = true then (r_X1_sendHome_8 a0 a1 a4 m v2 v3 (v5 + (nI 1)) (i_X4_addSung I L a1 (I (a4 + 1) (gx v5))) (l_X4_addSung I L a1 (I (a4 + 1) (gx v5)))) else none))
set_option maxHeartbeats 4000000 in
set_option maxRecDepth 100000 in
theorem t_X1_sendHome_8 {n f g d : Nat} {Q : gP} {z : gRs} {a0 : Nat} {a1 : Nat} {a4 : Nat} (h0 : gfe a0 = true) (h1 : gmo a1 = true) (h4 : gso a4 = true)  : ∀ {m : Nat} {v2 : Int32} {v3 : Int32} {v5 : Int32} {I : Nat → Nat → Int32} {L : Nat → Nat → Int64}, r_X1_sendHome_8 a0 a1 a4 m v2 v3 v5 I L = some z → Q none (gKn n, gRf f g, z.2.1, z.2.2) → gW gM (d + 3) 0 0 k_X1_sendHome 8 [.ref a0, .ref a1, .int v2, .int v3, .ref a4, .int v5] [] (gKn n, gRf f g, I, L) Q := by
  intro m
  induction m with
  | zero =>
    intro v2 v3 v5 I L hr _
    cases hr
  | succ m ih =>
    intro v2 v3 v5 I L hr hQ
    have hK8 : ∀ v2 v3 v5 I L, r_X1_sendHome_8 a0 a1 a4 m v2 v3 v5 I L = some z → gW gM (d + 3) 0 0 k_X1_sendHome 8 [.ref a0, .ref a1, .int v2, .int v3, .ref a4, .int v5] [] (gKn n, gRf f g, I, L) Q := fun v2 v3 v5 I L hr => ih hr hQ
    unfold r_X1_sendHome_8 at hr
    refine r_iload rfl rfl ?_
    refine r_aload rfl rfl ?_
    refine r_getI (c := 6) (k := 1) rfl (shSong h4) ⟨rfl, rfl⟩ ?_
    refine r_icmp_ge 20 rfl rfl (fun c8 => ?_) (fun c8 => ?_)
    · rw [if_pos c8] at hr
      refine r_const rfl (gcst 0) ?_
      refine r_istore [.ref a0, .ref a1, .int v2, .int v3, .ref a4, .int (nI 0)] rfl rfl (Nat.le_of_ble_eq_true rfl) rfl ?_
      refine gforget (ls := [.ref a0, .ref a1, .int v2, .int v3, .null, .int (nI 0)]) ⟨(Or.inl rfl), ⟨(Or.inl rfl), ⟨(Or.inl rfl), ⟨(Or.inl rfl), ⟨(Or.inr (Or.inr ⟨rfl, _, rfl⟩)), ⟨(Or.inl rfl), trivial⟩⟩⟩⟩⟩⟩ ?_
      exact t_X1_sendHome_22 h0 h1 h4 hr hQ
    · rw [if_neg c8] at hr
      refine r_aload rfl rfl ?_
      refine r_aload rfl rfl ?_
      refine r_getR (c := 6) (k := 0) (v := (a4 + 1)) rfl (shSong h4) ⟨rfl, rfl⟩ (rfSong h4) ?_
      refine r_iload rfl rfl ?_
      obtain ⟨b9, hr⟩ := gopt hr
      refine r_iaload (n := 12) rfl (shSong0 h4) (gvp_in b9) ?_
      refine r_invv (a := a1) [.int (I (a4 + 1) (gx v5))] rfl rfl (shMom h1) rfl rfl (Nat.le_of_ble_eq_true rfl) ⟨rfl, rfl⟩ ?_
      refine s_X4_addSung h1 ?_
      show gW _ _ _ _ _ 18 [.ref a0, .ref a1, .int v2, .int v3, .ref a4, .int v5] [] (gKn n, gRf f g, (i_X4_addSung I L a1 (I (a4 + 1) (gx v5))), (l_X4_addSung I L a1 (I (a4 + 1) (gx v5)))) _
      refine r_iinc (y := (v5 + (nI 1))) [.ref a0, .ref a1, .int v2, .int v3, .ref a4, .int (v5 + (nI 1))] rfl rfl rfl (ginc _ 1) rfl ?_
      refine r_goto 8 rfl rfl ?_
      exact hK8 _ _ _ _ _ hr
def r_X1_sendHome (I : Nat → Nat → Int32) (L : Nat → Nat → Int64) (a0 : Nat) (a1 : Nat) (a2 : Int32) (a3 : Int32) (a4 : Nat) : Option gRs := ((r_X1_sing I L a0 a1 a2 a3 a4).bind (fun z10 => (r_X1_sendHome_8 a0 a1 a4 100 a2 a3 (nI 0) z10.2.1 z10.2.2)))
set_option maxHeartbeats 4000000 in
set_option maxRecDepth 100000 in
theorem s_X1_sendHome {n f g d : Nat} {Q : gP} {I : Nat → Nat → Int32} {L : Nat → Nat → Int64} {a0 : Nat} {a1 : Nat} {a2 : Int32} {a3 : Int32} {a4 : Nat} {z : gRs} (h0 : gfe a0 = true) (h1 : gmo a1 = true) (h4 : gso a4 = true) (hr : r_X1_sendHome I L a0 a1 a2 a3 a4 = some z) (hQ : Q none (gKn n, gRf f g, z.2.1, z.2.2)) : gR gM (d + 3) 25 [.ref a0, .ref a1, .int a2, .int a3, .ref a4] (gKn n, gRf f g, I, L) Q := by
  unfold r_X1_sendHome at hr
  show gW gM (d + 3) 0 0 k_X1_sendHome 0 [.ref a0, .ref a1, .int a2, .int a3, .ref a4, .null] [] (gKn n, gRf f g, I, L) Q
  refine r_aload rfl rfl ?_
  refine r_aload rfl rfl ?_
  refine r_iload rfl rfl ?_
  refine r_iload rfl rfl ?_
  refine r_aload rfl rfl ?_
  obtain ⟨z10, hz10, hr⟩ := gbnd hr
  refine r_invv (a := a0) [.ref a1, .int a2, .int a3, .ref a4] rfl rfl (shFen h0) rfl rfl (Nat.le_of_ble_eq_true rfl) ⟨rfl, rfl⟩ ?_
  refine s_X1_sing h0 h1 h4 hz10 ?_
  show gW _ _ _ _ _ 6 [.ref a0, .ref a1, .int a2, .int a3, .ref a4, .null] [] (gKn n, gRf f g, z10.2.1, z10.2.2) _
  refine r_const rfl (gcst 0) ?_
  refine r_istore [.ref a0, .ref a1, .int a2, .int a3, .ref a4, .int (nI 0)] rfl rfl (Nat.le_of_ble_eq_true rfl) rfl ?_
  exact t_X1_sendHome_8 h0 h1 h4 hr hQ
def f_X4_fromLast (I : Nat → Nat → Int32) (L : Nat → Nat → Int64) (a0 : Nat) (a1 : Int32) : Int32 := (if (I a0 7) ≤ a1 then (-9 : Int32) else ((Int64.toInt32 (glushr (L a0 6) ((nI 4) * a1))) &&& (nI 15)))
set_option maxHeartbeats 4000000 in
set_option maxRecDepth 100000 in
theorem s_X4_fromLast {n f g d : Nat} {Q : gP} {I : Nat → Nat → Int32} {L : Nat → Nat → Int64} {a0 : Nat} {a1 : Int32} (h0 : gmo a0 = true) (hQ : Q (some (.int (f_X4_fromLast I L a0 a1))) (gKn n, gRf f g, I, L)) : gR gM (d + 0) 45 [.ref a0, .int a1] (gKn n, gRf f g, I, L) Q := by
  unfold f_X4_fromLast at hQ
  show gW gM (d + 0) 0 0 k_X4_fromLast 0 [.ref a0, .int a1] [] (gKn n, gRf f g, I, L) Q
  refine r_iload rfl rfl ?_
  refine r_aload rfl rfl ?_
  refine r_getI (c := 4) (k := 7) rfl (shMom h0) ⟨rfl, rfl⟩ ?_
  have j2 : gW gM (d + 0) 0 0 k_X4_fromLast 15 [.ref a0, .int a1] [.int (if (I a0 7) ≤ a1 then (-9 : Int32) else ((Int64.toInt32 (glushr (L a0 6) ((nI 4) * a1))) &&& (nI 15)))] (gKn n, gRf f g, I, L) Q := by
    refine r_iret rfl ?_
    first | exact hQ | simpa only [if_true] using hQ
  refine r_icmp_ge 14 rfl rfl (fun c1 => ?_) (fun c1 => ?_)
  · try simp only [if_pos c1] at hQ
    refine r_const rfl (v := -9) (by decide) ?_
    simpa only [if_pos c1] using j2
  · try simp only [if_neg c1] at hQ
    refine r_aload rfl rfl ?_
    refine r_getL (c := 4) (k := 6) rfl (shMom h0) ⟨rfl, rfl⟩ ?_
    refine r_const rfl (gcst 4) ?_
    refine r_iload rfl rfl ?_
    refine r_imul rfl ?_
    refine r_lushr rfl ?_
    refine r_l2i rfl ?_
    refine r_const rfl (gcst 15) ?_
    refine r_iand rfl ?_
    refine r_goto 15 rfl rfl ?_
    simpa only [if_neg c1] using j2
def r_X1_fitBehind_27 (a0 : Nat) (a1 : Nat) (a2 : Nat) (K4 : Int32 → Int32 → Int32 → (Nat → Nat → Int32) → (Nat → Nat → Int64) → Option gRs) (v3 : Int32) (v4 : Int32) (v5 : Int32) (s0 : Int32) (I : Nat → Nat → Int32) (L : Nat → Nat → Int64) : Option gRs := (if gvp ((((v3 * (nI 4)) + (nI 4)) - (nI 1)) - v5) 8 = true then (K4 v3 (if ¬ s0 = (I (a0 + 6) (gx ((((v3 * (nI 4)) + (nI 4)) - (nI 1)) - v5))) then v4 else (v4 + (nI 1))) (v5 + (nI 1)) I L) else none)
set_option maxHeartbeats 4000000 in
set_option maxRecDepth 100000 in
theorem t_X1_fitBehind_27 {n f g d : Nat} {Q : gP} {z : gRs} {a0 : Nat} {a1 : Nat} {a2 : Nat} (h0 : gfe a0 = true) (h1 : gmo a1 = true) (h2 : gso a2 = true) {K4 : Int32 → Int32 → Int32 → (Nat → Nat → Int32) → (Nat → Nat → Int64) → Option gRs} (hK4 : ∀ v3 v4 v5 I L, K4 v3 v4 v5 I L = some z → gW gM (d + 1) 0 0 k_X1_fitBehind 4 [.ref a0, .ref a1, .ref a2, .int v3, .int v4, .int v5, .null] [] (gKn n, gRf f g, I, L) Q) {v3 : Int32} {v4 : Int32} {v5 : Int32} {s0 : Int32} {I : Nat → Nat → Int32} {L : Nat → Nat → Int64} (hr : r_X1_fitBehind_27 a0 a1 a2 K4 v3 v4 v5 s0 I L = some z) (hQ : Q (some (.int z.1)) (gKn n, gRf f g, z.2.1, z.2.2)) : gW gM (d + 1) 0 0 k_X1_fitBehind 27 [.ref a0, .ref a1, .ref a2, .int v3, .int v4, .int v5, .null] [.int s0] (gKn n, gRf f g, I, L) Q := by
  unfold r_X1_fitBehind_27 at hr
  refine r_istore [.ref a0, .ref a1, .ref a2, .int v3, .int v4, .int v5, .int s0] rfl rfl (Nat.le_of_ble_eq_true rfl) rfl ?_
  refine r_iload rfl rfl ?_
  refine r_aload rfl rfl ?_
  refine r_getR (c := 1) (k := 10) (v := (a0 + 6)) rfl (shFen h0) ⟨rfl, rfl⟩ (rfFen10 h0) ?_
  refine r_iload rfl rfl ?_
  refine r_const rfl (gcst 4) ?_
  refine r_imul rfl ?_
  refine r_const rfl (gcst 4) ?_
  refine r_iadd rfl ?_
  refine r_const rfl (gcst 1) ?_
  refine r_isub rfl ?_
  refine r_iload rfl rfl ?_
  refine r_isub rfl ?_
  obtain ⟨b9, hr⟩ := gopt hr
  refine r_iaload (n := 8) rfl (shFen10 h0) (gvp_in b9) ?_
  have j11 : gW gM (d + 1) 0 0 k_X1_fitBehind 43 [.ref a0, .ref a1, .ref a2, .int v3, .int (if ¬ s0 = (I (a0 + 6) (gx ((((v3 * (nI 4)) + (nI 4)) - (nI 1)) - v5))) then v4 else (v4 + (nI 1))), .int v5, .int s0] [] (gKn n, gRf f g, I, L) Q := by
    refine r_iinc (y := (v5 + (nI 1))) [.ref a0, .ref a1, .ref a2, .int v3, .int (if ¬ s0 = (I (a0 + 6) (gx ((((v3 * (nI 4)) + (nI 4)) - (nI 1)) - v5))) then v4 else (v4 + (nI 1))), .int (v5 + (nI 1)), .int s0] rfl rfl rfl (ginc _ 1) rfl ?_
    refine r_goto 4 rfl rfl ?_
    refine gforget (ls := [.ref a0, .ref a1, .ref a2, .int v3, .int (if ¬ s0 = (I (a0 + 6) (gx ((((v3 * (nI 4)) + (nI 4)) - (nI 1)) - v5))) then v4 else (v4 + (nI 1))), .int (v5 + (nI 1)), .null]) ⟨(Or.inl rfl), ⟨(Or.inl rfl), ⟨(Or.inl rfl), ⟨(Or.inl rfl), ⟨(Or.inl rfl), ⟨(Or.inl rfl), ⟨(Or.inr (Or.inl ⟨rfl, _, rfl⟩)), trivial⟩⟩⟩⟩⟩⟩⟩ ?_
    exact hK4 _ _ _ _ _ hr
  refine r_icmp_ne 43 rfl rfl (fun c10 => ?_) (fun c10 => ?_)
  · first | contradiction | simpa only [if_pos c10] using j11
  · refine r_iinc (y := (v4 + (nI 1))) [.ref a0, .ref a1, .ref a2, .int v3, .int (v4 + (nI 1)), .int v5, .int s0] rfl rfl rfl (ginc _ 1) rfl ?_
    first | contradiction | simpa only [if_neg c10] using j11
def r_X1_fitBehind_4 (a0 : Nat) (a1 : Nat) (a2 : Nat)  : Nat → Int32 → Int32 → Int32 → (Nat → Nat → Int32) → (Nat → Nat → Int64) → Option gRs
  | 0, _, _, _, _, _ => none
  | m + 1, v3, v4, v5, I, L => (if (nI 4) ≤ v5 then some (v4, I, L) else (if (I a2 1) ≤ v5 then (r_X1_fitBehind_27 a0 a1 a2 (r_X1_fitBehind_4 a0 a1 a2 m) v3 v4 v5 (f_X4_fromLast I L a1 (v5 - (I a2 1))) I L) else (if gvp (((I a2 1) - (nI 1)) - v5) 12 = true then (r_X1_fitBehind_27 a0 a1 a2 (r_X1_fitBehind_4 a0 a1 a2 m) v3 v4 v5 (I (a2 + 1) (gx (((I a2 1) - (nI 1)) - v5))) I L) else none)))
set_option maxHeartbeats 4000000 in
set_option maxRecDepth 100000 in
theorem t_X1_fitBehind_4 {n f g d : Nat} {Q : gP} {z : gRs} {a0 : Nat} {a1 : Nat} {a2 : Nat} (h0 : gfe a0 = true) (h1 : gmo a1 = true) (h2 : gso a2 = true)  : ∀ {m : Nat} {v3 : Int32} {v4 : Int32} {v5 : Int32} {I : Nat → Nat → Int32} {L : Nat → Nat → Int64}, r_X1_fitBehind_4 a0 a1 a2 m v3 v4 v5 I L = some z → Q (some (.int z.1)) (gKn n, gRf f g, z.2.1, z.2.2) → gW gM (d + 1) 0 0 k_X1_fitBehind 4 [.ref a0, .ref a1, .ref a2, .int v3, .int v4, .int v5, .null] [] (gKn n, gRf f g, I, L) Q := by
  intro m
  induction m with
  | zero =>
    intro v3 v4 v5 I L hr _
    cases hr
  | succ m ih =>
    intro v3 v4 v5 I L hr hQ
    have hK4 : ∀ v3 v4 v5 I L, r_X1_fitBehind_4 a0 a1 a2 m v3 v4 v5 I L = some z → gW gM (d + 1) 0 0 k_X1_fitBehind 4 [.ref a0, .ref a1, .ref a2, .int v3, .int v4, .int v5, .null] [] (gKn n, gRf f g, I, L) Q := fun v3 v4 v5 I L hr => ih hr hQ
    unfold r_X1_fitBehind_4 at hr
    refine r_iload rfl rfl ?_
    refine r_const rfl (gcst 4) ?_
    refine r_icmp_ge 45 rfl rfl (fun c12 => ?_) (fun c12 => ?_)
    · rw [if_pos c12] at hr
      refine r_iload rfl rfl ?_
      refine r_iret rfl ?_
      cases hr
      exact hQ
    · rw [if_neg c12] at hr
      refine r_iload rfl rfl ?_
      refine r_aload rfl rfl ?_
      refine r_getI (c := 6) (k := 1) rfl (shSong h2) ⟨rfl, rfl⟩ ?_
      refine r_icmp_ge 21 rfl rfl (fun c13 => ?_) (fun c13 => ?_)
      · rw [if_pos c13] at hr
        refine r_aload rfl rfl ?_
        refine r_iload rfl rfl ?_
        refine r_aload rfl rfl ?_
        refine r_getI (c := 6) (k := 1) rfl (shSong h2) ⟨rfl, rfl⟩ ?_
        refine r_isub rfl ?_
        refine r_invv (a := a1) [.int (v5 - (I a2 1))] rfl rfl (shMom h1) rfl rfl (Nat.le_of_ble_eq_true rfl) ⟨rfl, rfl⟩ ?_
        refine s_X4_fromLast h1 ?_
        show gW _ _ _ _ _ 27 [.ref a0, .ref a1, .ref a2, .int v3, .int v4, .int v5, .null] [.int (f_X4_fromLast I L a1 (v5 - (I a2 1)))] (gKn n, gRf f g, I, L) _
        exact t_X1_fitBehind_27 h0 h1 h2 hK4 hr hQ
      · rw [if_neg c13] at hr
        refine r_aload rfl rfl ?_
        refine r_getR (c := 6) (k := 0) (v := (a2 + 1)) rfl (shSong h2) ⟨rfl, rfl⟩ (rfSong h2) ?_
        refine r_aload rfl rfl ?_
        refine r_getI (c := 6) (k := 1) rfl (shSong h2) ⟨rfl, rfl⟩ ?_
        refine r_const rfl (gcst 1) ?_
        refine r_isub rfl ?_
        refine r_iload rfl rfl ?_
        refine r_isub rfl ?_
        obtain ⟨b14, hr⟩ := gopt hr
        refine r_iaload (n := 12) rfl (shSong0 h2) (gvp_in b14) ?_
        refine r_goto 27 rfl rfl ?_
        exact t_X1_fitBehind_27 h0 h1 h2 hK4 hr hQ
def r_X1_fitBehind (I : Nat → Nat → Int32) (L : Nat → Nat → Int64) (a0 : Nat) (a1 : Nat) (a2 : Nat) (a3 : Int32) : Option gRs := (r_X1_fitBehind_4 a0 a1 a2 100 a3 (nI 0) (nI 0) I L)
set_option maxHeartbeats 4000000 in
set_option maxRecDepth 100000 in
theorem s_X1_fitBehind {n f g d : Nat} {Q : gP} {I : Nat → Nat → Int32} {L : Nat → Nat → Int64} {a0 : Nat} {a1 : Nat} {a2 : Nat} {a3 : Int32} {z : gRs} (h0 : gfe a0 = true) (h1 : gmo a1 = true) (h2 : gso a2 = true) (hr : r_X1_fitBehind I L a0 a1 a2 a3 = some z) (hQ : Q (some (.int z.1)) (gKn n, gRf f g, z.2.1, z.2.2)) : gR gM (d + 1) 26 [.ref a0, .ref a1, .ref a2, .int a3] (gKn n, gRf f g, I, L) Q := by
  unfold r_X1_fitBehind at hr
  show gW gM (d + 1) 0 0 k_X1_fitBehind 0 [.ref a0, .ref a1, .ref a2, .int a3, .null, .null, .null] [] (gKn n, gRf f g, I, L) Q
  refine r_const rfl (gcst 0) ?_
  refine r_istore [.ref a0, .ref a1, .ref a2, .int a3, .int (nI 0), .null, .null] rfl rfl (Nat.le_of_ble_eq_true rfl) rfl ?_
  refine r_const rfl (gcst 0) ?_
  refine r_istore [.ref a0, .ref a1, .ref a2, .int a3, .int (nI 0), .int (nI 0), .null] rfl rfl (Nat.le_of_ble_eq_true rfl) rfl ?_
  exact t_X1_fitBehind_4 h0 h1 h2 hr hQ
def r_X2_add_28    (I : Nat → Nat → Int32) (L : Nat → Nat → Int64) : Option gRs := some (0, I, L)
set_option maxHeartbeats 4000000 in
set_option maxRecDepth 100000 in
theorem t_X2_add_28 {n f g d : Nat} {Q : gP} {z : gRs}     {I : Nat → Nat → Int32} {L : Nat → Nat → Int64} (hr : r_X2_add_28 I L = some z) (hQ : Q none (gKn n, gRf f g, z.2.1, z.2.2)) : gW gM (d + 0) 0 0 k_X2_add 28 [.null, .null, .null, .null] [] (gKn n, gRf f g, I, L) Q := by
  unfold r_X2_add_28 at hr
  refine r_vret rfl ?_
  cases hr
  exact hQ
def r_X2_add (I : Nat → Nat → Int32) (L : Nat → Nat → Int64) (a1 : Int32) (a2 : Int32) (a3 : Int32) : Option gRs := (if (nI 6) ≤ (I 40 3) then (r_X2_add_28 I L) else (if gvp (I 40 3) 6 = true then (if gvp ((gu2 I 41 (gx (I 40 3)) a1) 40 3) 6 = true then (if gvp ((gu2 (gu2 I 41 (gx (I 40 3)) a1) 42 (gx ((gu2 I 41 (gx (I 40 3)) a1) 40 3)) a2) 40 3) 6 = true then (r_X2_add_28 (gu2 (gu2 (gu2 (gu2 I 41 (gx (I 40 3)) a1) 42 (gx ((gu2 I 41 (gx (I 40 3)) a1) 40 3)) a2) 43 (gx ((gu2 (gu2 I 41 (gx (I 40 3)) a1) 42 (gx ((gu2 I 41 (gx (I 40 3)) a1) 40 3)) a2) 40 3)) a3) 40 3 (((gu2 (gu2 (gu2 I 41 (gx (I 40 3)) a1) 42 (gx ((gu2 I 41 (gx (I 40 3)) a1) 40 3)) a2) 43 (gx ((gu2 (gu2 I 41 (gx (I 40 3)) a1) 42 (gx ((gu2 I 41 (gx (I 40 3)) a1) 40 3)) a2) 40 3)) a3) 40 3) + (nI 1))) L) else none) else none) else none))
set_option maxHeartbeats 4000000 in
set_option maxRecDepth 100000 in
theorem s_X2_add {n f g d : Nat} {Q : gP} {I : Nat → Nat → Int32} {L : Nat → Nat → Int64} {a1 : Int32} {a2 : Int32} {a3 : Int32} {z : gRs}  (hr : r_X2_add I L a1 a2 a3 = some z) (hQ : Q none (gKn n, gRf f g, z.2.1, z.2.2)) : gR gM (d + 0) 28 [.ref 40, .int a1, .int a2, .int a3] (gKn n, gRf f g, I, L) Q := by
  unfold r_X2_add at hr
  show gW gM (d + 0) 0 0 k_X2_add 0 [.ref 40, .int a1, .int a2, .int a3] [] (gKn n, gRf f g, I, L) Q
  refine r_aload rfl rfl ?_
  refine r_getI (c := 2) (k := 3) rfl rfl ⟨rfl, rfl⟩ ?_
  refine r_const rfl (gcst 6) ?_
  refine r_icmp_ge 28 rfl rfl (fun c9 => ?_) (fun c9 => ?_)
  · rw [if_pos c9] at hr
    refine gforget (ls := [.null, .null, .null, .null]) ⟨(Or.inr (Or.inr ⟨rfl, _, rfl⟩)), ⟨(Or.inr (Or.inl ⟨rfl, _, rfl⟩)), ⟨(Or.inr (Or.inl ⟨rfl, _, rfl⟩)), ⟨(Or.inr (Or.inl ⟨rfl, _, rfl⟩)), trivial⟩⟩⟩⟩ ?_
    exact t_X2_add_28  hr hQ
  · rw [if_neg c9] at hr
    refine r_aload rfl rfl ?_
    refine r_getR (c := 2) (k := 0) (v := 41) rfl rfl ⟨rfl, rfl⟩ rfl ?_
    refine r_aload rfl rfl ?_
    refine r_getI (c := 2) (k := 3) rfl rfl ⟨rfl, rfl⟩ ?_
    refine r_iload rfl rfl ?_
    obtain ⟨b10, hr⟩ := gopt hr
    refine r_iastore (n := 6) rfl rfl (gvp_in b10) (by decide) ?_
    refine r_aload rfl rfl ?_
    refine r_getR (c := 2) (k := 1) (v := 42) rfl rfl ⟨rfl, rfl⟩ rfl ?_
    refine r_aload rfl rfl ?_
    refine r_getI (c := 2) (k := 3) rfl rfl ⟨rfl, rfl⟩ ?_
    refine r_iload rfl rfl ?_
    obtain ⟨b11, hr⟩ := gopt hr
    refine r_iastore (n := 6) rfl rfl (gvp_in b11) (by decide) ?_
    refine r_aload rfl rfl ?_
    refine r_getR (c := 2) (k := 2) (v := 43) rfl rfl ⟨rfl, rfl⟩ rfl ?_
    refine r_aload rfl rfl ?_
    refine r_getI (c := 2) (k := 3) rfl rfl ⟨rfl, rfl⟩ ?_
    refine r_iload rfl rfl ?_
    obtain ⟨b12, hr⟩ := gopt hr
    refine r_iastore (n := 6) rfl rfl (gvp_in b12) (by decide) ?_
    refine r_aload rfl rfl ?_
    refine r_dup rfl rfl ?_
    refine r_getI (c := 2) (k := 3) rfl rfl ⟨rfl, rfl⟩ ?_
    refine r_const rfl (gcst 1) ?_
    refine r_iadd rfl ?_
    refine r_putI (c := 2) (k := 3) rfl rfl ⟨rfl, rfl⟩ ?_
    refine gforget (ls := [.null, .null, .null, .null]) ⟨(Or.inr (Or.inr ⟨rfl, _, rfl⟩)), ⟨(Or.inr (Or.inl ⟨rfl, _, rfl⟩)), ⟨(Or.inr (Or.inl ⟨rfl, _, rfl⟩)), ⟨(Or.inr (Or.inl ⟨rfl, _, rfl⟩)), trivial⟩⟩⟩⟩ ?_
    exact t_X2_add_28  hr hQ
def r_X2_agrees_41 (a1 : Nat) (a2 : Nat) (K2 : Int32 → Int32 → Int32 → (Nat → Nat → Int32) → (Nat → Nat → Int64) → Option gRs) (v3 : Int32) (v4 : Int32) (v5 : Int32) (I : Nat → Nat → Int32) (L : Nat → Nat → Int64) : Option gRs := (K2 v3 v4 (v5 + (nI 1)) I L)
set_option maxHeartbeats 4000000 in
set_option maxRecDepth 100000 in
theorem t_X2_agrees_41 {n f g d : Nat} {Q : gP} {z : gRs} {a1 : Nat} {a2 : Nat} (h1 : gfe a1 = true) (h2 : gmo a2 = true) {K2 : Int32 → Int32 → Int32 → (Nat → Nat → Int32) → (Nat → Nat → Int64) → Option gRs} (hK2 : ∀ v3 v4 v5 I L, K2 v3 v4 v5 I L = some z → gW gM (d + 2) 0 0 k_X2_agrees 2 [.ref 40, .ref a1, .ref a2, .int v3, .int v4, .int v5, .null] [] (gKn n, gRf f g, I, L) Q) {v3 : Int32} {v4 : Int32} {v5 : Int32} {I : Nat → Nat → Int32} {L : Nat → Nat → Int64} (hr : r_X2_agrees_41 a1 a2 K2 v3 v4 v5 I L = some z) (hQ : Q (some (.int z.1)) (gKn n, gRf f g, z.2.1, z.2.2)) : gW gM (d + 2) 0 0 k_X2_agrees 41 [.ref 40, .ref a1, .ref a2, .int v3, .int v4, .int v5, .null] [] (gKn n, gRf f g, I, L) Q := by
  unfold r_X2_agrees_41 at hr
  refine r_iinc (y := (v5 + (nI 1))) [.ref 40, .ref a1, .ref a2, .int v3, .int v4, .int (v5 + (nI 1)), .null] rfl rfl rfl (ginc _ 1) rfl ?_
  refine r_goto 2 rfl rfl ?_
  exact hK2 _ _ _ _ _ hr
def r_X2_agrees_21 (a1 : Nat) (a2 : Nat) (K2 : Int32 → Int32 → Int32 → (Nat → Nat → Int32) → (Nat → Nat → Int64) → Option gRs) (v3 : Int32) (v4 : Int32) (v5 : Int32) (I : Nat → Nat → Int32) (L : Nat → Nat → Int64) : Option gRs := (if (nI 0) = 0 then (r_X2_agrees_41 a1 a2 K2 v3 v4 v5 I L) else (if gvp v5 6 = true then ((r_X1_toneBy I L a1 a2 (I 42 (gx v5)) v3 v4).bind (fun z28 => (if gvp v5 6 = true then (if z28.1 = (z28.2.1 43 (gx v5)) then (r_X2_agrees_41 a1 a2 K2 v3 v4 v5 z28.2.1 z28.2.2) else some ((nI 0), z28.2.1, z28.2.2)) else none))) else none))
set_option maxHeartbeats 4000000 in
set_option maxRecDepth 100000 in
theorem t_X2_agrees_21 {n f g d : Nat} {Q : gP} {z : gRs} {a1 : Nat} {a2 : Nat} (h1 : gfe a1 = true) (h2 : gmo a2 = true) {K2 : Int32 → Int32 → Int32 → (Nat → Nat → Int32) → (Nat → Nat → Int64) → Option gRs} (hK2 : ∀ v3 v4 v5 I L, K2 v3 v4 v5 I L = some z → gW gM (d + 2) 0 0 k_X2_agrees 2 [.ref 40, .ref a1, .ref a2, .int v3, .int v4, .int v5, .null] [] (gKn n, gRf f g, I, L) Q) {v3 : Int32} {v4 : Int32} {v5 : Int32} {I : Nat → Nat → Int32} {L : Nat → Nat → Int64} (hr : r_X2_agrees_21 a1 a2 K2 v3 v4 v5 I L = some z) (hQ : Q (some (.int z.1)) (gKn n, gRf f g, z.2.1, z.2.2)) : gW gM (d + 2) 0 0 k_X2_agrees 21 [.ref 40, .ref a1, .ref a2, .int v3, .int v4, .int v5, .null] [] (gKn n, gRf f g, I, L) Q := by
  unfold r_X2_agrees_21 at hr
  refine r_const rfl (gcst 0) ?_
  refine r_istore [.ref 40, .ref a1, .ref a2, .int v3, .int v4, .int v5, .int (nI 0)] rfl rfl (Nat.le_of_ble_eq_true rfl) rfl ?_
  refine r_iload rfl rfl ?_
  refine r_if_eq 41 rfl rfl (fun c26 => ?_) (fun c26 => ?_)
  · rw [if_pos c26] at hr
    refine gforget (ls := [.ref 40, .ref a1, .ref a2, .int v3, .int v4, .int v5, .null]) ⟨(Or.inl rfl), ⟨(Or.inl rfl), ⟨(Or.inl rfl), ⟨(Or.inl rfl), ⟨(Or.inl rfl), ⟨(Or.inl rfl), ⟨(Or.inr (Or.inl ⟨rfl, _, rfl⟩)), trivial⟩⟩⟩⟩⟩⟩⟩ ?_
    exact t_X2_agrees_41 h1 h2 hK2 hr hQ
  · rw [if_neg c26] at hr
    refine r_aload rfl rfl ?_
    refine r_aload rfl rfl ?_
    refine r_aload rfl rfl ?_
    refine r_getR (c := 2) (k := 1) (v := 42) rfl rfl ⟨rfl, rfl⟩ rfl ?_
    refine r_iload rfl rfl ?_
    obtain ⟨b27, hr⟩ := gopt hr
    refine r_iaload (n := 6) rfl rfl (gvp_in b27) ?_
    refine r_iload rfl rfl ?_
    refine r_iload rfl rfl ?_
    obtain ⟨z28, hz28, hr⟩ := gbnd hr
    refine r_invv (a := a1) [.ref a2, .int (I 42 (gx v5)), .int v3, .int v4] rfl rfl (shFen h1) rfl rfl (Nat.le_of_ble_eq_true rfl) ⟨rfl, rfl⟩ ?_
    refine s_X1_toneBy h1 h2 hz28 ?_
    show gW _ _ _ _ _ 34 [.ref 40, .ref a1, .ref a2, .int v3, .int v4, .int v5, .int (nI 0)] [.int z28.1] (gKn n, gRf f g, z28.2.1, z28.2.2) _
    refine r_aload rfl rfl ?_
    refine r_getR (c := 2) (k := 2) (v := 43) rfl rfl ⟨rfl, rfl⟩ rfl ?_
    refine r_iload rfl rfl ?_
    obtain ⟨b29, hr⟩ := gopt hr
    refine r_iaload (n := 6) rfl rfl (gvp_in b29) ?_
    refine r_icmp_eq 41 rfl rfl (fun c30 => ?_) (fun c30 => ?_)
    · rw [if_pos c30] at hr
      refine gforget (ls := [.ref 40, .ref a1, .ref a2, .int v3, .int v4, .int v5, .null]) ⟨(Or.inl rfl), ⟨(Or.inl rfl), ⟨(Or.inl rfl), ⟨(Or.inl rfl), ⟨(Or.inl rfl), ⟨(Or.inl rfl), ⟨(Or.inr (Or.inl ⟨rfl, _, rfl⟩)), trivial⟩⟩⟩⟩⟩⟩⟩ ?_
      exact t_X2_agrees_41 h1 h2 hK2 hr hQ
    · rw [if_neg c30] at hr
      refine r_const rfl (gcst 0) ?_
      refine r_zret rfl (Or.inl rfl) ?_
      cases hr
      exact hQ
def r_X2_agrees_2 (a1 : Nat) (a2 : Nat)  : Nat → Int32 → Int32 → Int32 → (Nat → Nat → Int32) → (Nat → Nat → Int64) → Option gRs
  | 0, _, _, _, _, _ => none
  | m + 1, v3, v4, v5, I, L => (if (I 40 3) ≤ v5 then some ((nI 1), I, L) else (if gvp v5 6 = true then (if ¬ (I 41 (gx v5)) = v4 then (r_X2_agrees_21 a1 a2 (r_X2_agrees_2 a1 a2 m) v3 v4 v5 I L) else (if gvp v5 6 = true then (if (f_X1_isGate I L a1 (I 42 (gx v5))) = 0 then (r_X2_agrees_21 a1 a2 (r_X2_agrees_2 a1 a2 m) v3 v4 v5 I L) else (if (nI 1) = 0 then (r_X2_agrees_41 a1 a2 (r_X2_agrees_2 a1 a2 m) v3 v4 v5 I L) else (if gvp v5 6 = true then ((r_X1_toneBy I L a1 a2 (I 42 (gx v5)) v3 v4).bind (fun z38 => (if gvp v5 6 = true then (if z38.1 = (z38.2.1 43 (gx v5)) then (r_X2_agrees_41 a1 a2 (r_X2_agrees_2 a1 a2 m) v3 v4 v5 z38.2.1 z38.2.2) else some ((nI 0), z38.2.1, z38.2.2)) else none))) else none))) else none)) else none))
set_option maxHeartbeats 4000000 in
set_option maxRecDepth 100000 in
theorem t_X2_agrees_2 {n f g d : Nat} {Q : gP} {z : gRs} {a1 : Nat} {a2 : Nat} (h1 : gfe a1 = true) (h2 : gmo a2 = true)  : ∀ {m : Nat} {v3 : Int32} {v4 : Int32} {v5 : Int32} {I : Nat → Nat → Int32} {L : Nat → Nat → Int64}, r_X2_agrees_2 a1 a2 m v3 v4 v5 I L = some z → Q (some (.int z.1)) (gKn n, gRf f g, z.2.1, z.2.2) → gW gM (d + 2) 0 0 k_X2_agrees 2 [.ref 40, .ref a1, .ref a2, .int v3, .int v4, .int v5, .null] [] (gKn n, gRf f g, I, L) Q := by
  intro m
  induction m with
  | zero =>
    intro v3 v4 v5 I L hr _
    cases hr
  | succ m ih =>
    intro v3 v4 v5 I L hr hQ
    have hK2 : ∀ v3 v4 v5 I L, r_X2_agrees_2 a1 a2 m v3 v4 v5 I L = some z → gW gM (d + 2) 0 0 k_X2_agrees 2 [.ref 40, .ref a1, .ref a2, .int v3, .int v4, .int v5, .null] [] (gKn n, gRf f g, I, L) Q := fun v3 v4 v5 I L hr => ih hr hQ
    unfold r_X2_agrees_2 at hr
    refine r_iload rfl rfl ?_
    refine r_aload rfl rfl ?_
    refine r_getI (c := 2) (k := 3) rfl rfl ⟨rfl, rfl⟩ ?_
    refine r_icmp_ge 43 rfl rfl (fun c31 => ?_) (fun c31 => ?_)
    · rw [if_pos c31] at hr
      refine r_const rfl (gcst 1) ?_
      refine r_zret rfl (Or.inr rfl) ?_
      cases hr
      exact hQ
    · rw [if_neg c31] at hr
      refine r_aload rfl rfl ?_
      refine r_getR (c := 2) (k := 0) (v := 41) rfl rfl ⟨rfl, rfl⟩ rfl ?_
      refine r_iload rfl rfl ?_
      obtain ⟨b32, hr⟩ := gopt hr
      refine r_iaload (n := 6) rfl rfl (gvp_in b32) ?_
      refine r_iload rfl rfl ?_
      refine r_icmp_ne 21 rfl rfl (fun c33 => ?_) (fun c33 => ?_)
      · rw [if_pos c33] at hr
        exact t_X2_agrees_21 h1 h2 hK2 hr hQ
      · rw [if_neg c33] at hr
        refine r_aload rfl rfl ?_
        refine r_aload rfl rfl ?_
        refine r_getR (c := 2) (k := 1) (v := 42) rfl rfl ⟨rfl, rfl⟩ rfl ?_
        refine r_iload rfl rfl ?_
        obtain ⟨b34, hr⟩ := gopt hr
        refine r_iaload (n := 6) rfl rfl (gvp_in b34) ?_
        refine r_invv (a := a1) [.int (I 42 (gx v5))] rfl rfl (shFen h1) rfl rfl (Nat.le_of_ble_eq_true rfl) ⟨rfl, rfl⟩ ?_
        refine s_X1_isGate h1 ?_
        show gW _ _ _ _ _ 18 [.ref 40, .ref a1, .ref a2, .int v3, .int v4, .int v5, .null] [.int (f_X1_isGate I L a1 (I 42 (gx v5)))] (gKn n, gRf f g, I, L) _
        refine r_if_eq 21 rfl rfl (fun c35 => ?_) (fun c35 => ?_)
        · rw [if_pos c35] at hr
          exact t_X2_agrees_21 h1 h2 hK2 hr hQ
        · rw [if_neg c35] at hr
          refine r_const rfl (gcst 1) ?_
          refine r_goto 22 rfl rfl ?_
          refine r_istore [.ref 40, .ref a1, .ref a2, .int v3, .int v4, .int v5, .int (nI 1)] rfl rfl (Nat.le_of_ble_eq_true rfl) rfl ?_
          refine r_iload rfl rfl ?_
          refine r_if_eq 41 rfl rfl (fun c36 => ?_) (fun c36 => ?_)
          · rw [if_pos c36] at hr
            refine gforget (ls := [.ref 40, .ref a1, .ref a2, .int v3, .int v4, .int v5, .null]) ⟨(Or.inl rfl), ⟨(Or.inl rfl), ⟨(Or.inl rfl), ⟨(Or.inl rfl), ⟨(Or.inl rfl), ⟨(Or.inl rfl), ⟨(Or.inr (Or.inl ⟨rfl, _, rfl⟩)), trivial⟩⟩⟩⟩⟩⟩⟩ ?_
            exact t_X2_agrees_41 h1 h2 hK2 hr hQ
          · rw [if_neg c36] at hr
            refine r_aload rfl rfl ?_
            refine r_aload rfl rfl ?_
            refine r_aload rfl rfl ?_
            refine r_getR (c := 2) (k := 1) (v := 42) rfl rfl ⟨rfl, rfl⟩ rfl ?_
            refine r_iload rfl rfl ?_
            obtain ⟨b37, hr⟩ := gopt hr
            refine r_iaload (n := 6) rfl rfl (gvp_in b37) ?_
            refine r_iload rfl rfl ?_
            refine r_iload rfl rfl ?_
            obtain ⟨z38, hz38, hr⟩ := gbnd hr
            refine r_invv (a := a1) [.ref a2, .int (I 42 (gx v5)), .int v3, .int v4] rfl rfl (shFen h1) rfl rfl (Nat.le_of_ble_eq_true rfl) ⟨rfl, rfl⟩ ?_
            refine s_X1_toneBy h1 h2 hz38 ?_
            show gW _ _ _ _ _ 34 [.ref 40, .ref a1, .ref a2, .int v3, .int v4, .int v5, .int (nI 1)] [.int z38.1] (gKn n, gRf f g, z38.2.1, z38.2.2) _
            refine r_aload rfl rfl ?_
            refine r_getR (c := 2) (k := 2) (v := 43) rfl rfl ⟨rfl, rfl⟩ rfl ?_
            refine r_iload rfl rfl ?_
            obtain ⟨b39, hr⟩ := gopt hr
            refine r_iaload (n := 6) rfl rfl (gvp_in b39) ?_
            refine r_icmp_eq 41 rfl rfl (fun c40 => ?_) (fun c40 => ?_)
            · rw [if_pos c40] at hr
              refine gforget (ls := [.ref 40, .ref a1, .ref a2, .int v3, .int v4, .int v5, .null]) ⟨(Or.inl rfl), ⟨(Or.inl rfl), ⟨(Or.inl rfl), ⟨(Or.inl rfl), ⟨(Or.inl rfl), ⟨(Or.inl rfl), ⟨(Or.inr (Or.inl ⟨rfl, _, rfl⟩)), trivial⟩⟩⟩⟩⟩⟩⟩ ?_
              exact t_X2_agrees_41 h1 h2 hK2 hr hQ
            · rw [if_neg c40] at hr
              refine r_const rfl (gcst 0) ?_
              refine r_zret rfl (Or.inl rfl) ?_
              cases hr
              exact hQ
def r_X2_agrees (I : Nat → Nat → Int32) (L : Nat → Nat → Int64) (a1 : Nat) (a2 : Nat) (a3 : Int32) (a4 : Int32) : Option gRs := (r_X2_agrees_2 a1 a2 100 a3 a4 (nI 0) I L)
set_option maxHeartbeats 4000000 in
set_option maxRecDepth 100000 in
theorem s_X2_agrees {n f g d : Nat} {Q : gP} {I : Nat → Nat → Int32} {L : Nat → Nat → Int64} {a1 : Nat} {a2 : Nat} {a3 : Int32} {a4 : Int32} {z : gRs} (h1 : gfe a1 = true) (h2 : gmo a2 = true) (hr : r_X2_agrees I L a1 a2 a3 a4 = some z) (hQ : Q (some (.int z.1)) (gKn n, gRf f g, z.2.1, z.2.2)) : gR gM (d + 2) 29 [.ref 40, .ref a1, .ref a2, .int a3, .int a4] (gKn n, gRf f g, I, L) Q := by
  unfold r_X2_agrees at hr
  show gW gM (d + 2) 0 0 k_X2_agrees 0 [.ref 40, .ref a1, .ref a2, .int a3, .int a4, .null, .null] [] (gKn n, gRf f g, I, L) Q
  refine r_const rfl (gcst 0) ?_
  refine r_istore [.ref 40, .ref a1, .ref a2, .int a3, .int a4, .int (nI 0), .null] rfl rfl (Nat.le_of_ble_eq_true rfl) rfl ?_
  exact t_X2_agrees_2 h1 h2 hr hQ
def f_J9_abs_0f7a4 (I : Nat → Nat → Int32) (L : Nat → Nat → Int64) (a0 : Int32) : Int32 := (if 0 ≤ a0 then a0 else (-a0))
set_option maxHeartbeats 4000000 in
set_option maxRecDepth 100000 in
theorem s_J9_abs_0f7a4 {n f g d : Nat} {Q : gP} {I : Nat → Nat → Int32} {L : Nat → Nat → Int64} {a0 : Int32}  (hQ : Q (some (.int (f_J9_abs_0f7a4 I L a0))) (gKn n, gRf f g, I, L)) : gR gM (d + 0) 179 [.int a0] (gKn n, gRf f g, I, L) Q := by
  unfold f_J9_abs_0f7a4 at hQ
  show gW gM (d + 0) 0 0 k_J9_abs_0f7a4 0 [.int a0] [] (gKn n, gRf f g, I, L) Q
  refine r_iload rfl rfl ?_
  have j2 : gW gM (d + 0) 0 0 k_J9_abs_0f7a4 6 [.int a0] [.int (if 0 ≤ a0 then a0 else (-a0))] (gKn n, gRf f g, I, L) Q := by
    refine r_iret rfl ?_
    first | exact hQ | simpa only [if_true] using hQ
  refine r_if_ge 5 rfl rfl (fun c1 => ?_) (fun c1 => ?_)
  · try simp only [if_pos c1] at hQ
    refine r_iload rfl rfl ?_
    simpa only [if_pos c1] using j2
  · try simp only [if_neg c1] at hQ
    refine r_iload rfl rfl ?_
    refine r_ineg rfl ?_
    refine r_goto 6 rfl rfl ?_
    simpa only [if_neg c1] using j2
def r_X6_harmonyWith_42 (a0 : Nat) (a1 : Nat) (K10 : Int32 → Int32 → Int32 → (Nat → Nat → Int32) → (Nat → Nat → Int64) → Option gRs) (v2 : Int32) (v3 : Int32) (v4 : Int32) (I : Nat → Nat → Int32) (L : Nat → Nat → Int64) : Option gRs := (K10 v2 v3 (v4 + (nI 1)) I L)
set_option maxHeartbeats 4000000 in
set_option maxRecDepth 100000 in
theorem t_X6_harmonyWith_42 {n f g d : Nat} {Q : gP} {z : gRs} {a0 : Nat} {a1 : Nat} (h0 : gso a0 = true) (h1 : gso a1 = true) {K10 : Int32 → Int32 → Int32 → (Nat → Nat → Int32) → (Nat → Nat → Int64) → Option gRs} (hK10 : ∀ v2 v3 v4 I L, K10 v2 v3 v4 I L = some z → gW gM (d + 1) 0 0 k_X6_harmonyWith 10 [.ref a0, .ref a1, .int v2, .int v3, .int v4] [] (gKn n, gRf f g, I, L) Q) {v2 : Int32} {v3 : Int32} {v4 : Int32} {I : Nat → Nat → Int32} {L : Nat → Nat → Int64} (hr : r_X6_harmonyWith_42 a0 a1 K10 v2 v3 v4 I L = some z) (hQ : Q (some (.int z.1)) (gKn n, gRf f g, z.2.1, z.2.2)) : gW gM (d + 1) 0 0 k_X6_harmonyWith 42 [.ref a0, .ref a1, .int v2, .int v3, .int v4] [] (gKn n, gRf f g, I, L) Q := by
  unfold r_X6_harmonyWith_42 at hr
  refine r_iinc (y := (v4 + (nI 1))) [.ref a0, .ref a1, .int v2, .int v3, .int (v4 + (nI 1))] rfl rfl rfl (ginc _ 1) rfl ?_
  refine r_goto 10 rfl rfl ?_
  exact hK10 _ _ _ _ _ hr
def r_X6_harmonyWith_10 (a0 : Nat) (a1 : Nat)  : Nat → Int32 → Int32 → Int32 → (Nat → Nat → Int32) → (Nat → Nat → Int64) → Option gRs
  | 0, _, _, _, _, _ => none
  | m + 1, v2, v3, v4, I, L => (if v2 ≤ v4 then some (v3, I, L) else (if gvp v4 12 = true then (if (I (a0 + 1) (gx v4)) = (nI 12) then (r_X6_harmonyWith_42 a0 a1 (r_X6_harmonyWith_10 a0 a1 m) v2 v3 v4 I L) else (if gvp v4 12 = true then (if (I (a1 + 1) (gx v4)) = (nI 12) then (r_X6_harmonyWith_42 a0 a1 (r_X6_harmonyWith_10 a0 a1 m) v2 v3 v4 I L) else (if gvp v4 12 = true then (if gvp v4 12 = true then (r_X6_harmonyWith_42 a0 a1 (r_X6_harmonyWith_10 a0 a1 m) v2 (v3 + ((gshr (nI 953) (f_J9_abs_0f7a4 I L ((I (a0 + 1) (gx v4)) - (I (a1 + 1) (gx v4))))) &&& (nI 1))) v4 I L) else none) else none)) else none)) else none))
set_option maxHeartbeats 4000000 in
set_option maxRecDepth 100000 in
theorem t_X6_harmonyWith_10 {n f g d : Nat} {Q : gP} {z : gRs} {a0 : Nat} {a1 : Nat} (h0 : gso a0 = true) (h1 : gso a1 = true)  : ∀ {m : Nat} {v2 : Int32} {v3 : Int32} {v4 : Int32} {I : Nat → Nat → Int32} {L : Nat → Nat → Int64}, r_X6_harmonyWith_10 a0 a1 m v2 v3 v4 I L = some z → Q (some (.int z.1)) (gKn n, gRf f g, z.2.1, z.2.2) → gW gM (d + 1) 0 0 k_X6_harmonyWith 10 [.ref a0, .ref a1, .int v2, .int v3, .int v4] [] (gKn n, gRf f g, I, L) Q := by
  intro m
  induction m with
  | zero =>
    intro v2 v3 v4 I L hr _
    cases hr
  | succ m ih =>
    intro v2 v3 v4 I L hr hQ
    have hK10 : ∀ v2 v3 v4 I L, r_X6_harmonyWith_10 a0 a1 m v2 v3 v4 I L = some z → gW gM (d + 1) 0 0 k_X6_harmonyWith 10 [.ref a0, .ref a1, .int v2, .int v3, .int v4] [] (gKn n, gRf f g, I, L) Q := fun v2 v3 v4 I L hr => ih hr hQ
    unfold r_X6_harmonyWith_10 at hr
    refine r_iload rfl rfl ?_
    refine r_iload rfl rfl ?_
    refine r_icmp_ge 44 rfl rfl (fun c15 => ?_) (fun c15 => ?_)
    · rw [if_pos c15] at hr
      refine r_iload rfl rfl ?_
      refine r_iret rfl ?_
      cases hr
      exact hQ
    · rw [if_neg c15] at hr
      refine r_aload rfl rfl ?_
      refine r_getR (c := 6) (k := 0) (v := (a0 + 1)) rfl (shSong h0) ⟨rfl, rfl⟩ (rfSong h0) ?_
      refine r_iload rfl rfl ?_
      obtain ⟨b16, hr⟩ := gopt hr
      refine r_iaload (n := 12) rfl (shSong0 h0) (gvp_in b16) ?_
      refine r_const rfl (gcst 12) ?_
      refine r_icmp_eq 42 rfl rfl (fun c17 => ?_) (fun c17 => ?_)
      · rw [if_pos c17] at hr
        exact t_X6_harmonyWith_42 h0 h1 hK10 hr hQ
      · rw [if_neg c17] at hr
        refine r_aload rfl rfl ?_
        refine r_getR (c := 6) (k := 0) (v := (a1 + 1)) rfl (shSong h1) ⟨rfl, rfl⟩ (rfSong h1) ?_
        refine r_iload rfl rfl ?_
        obtain ⟨b18, hr⟩ := gopt hr
        refine r_iaload (n := 12) rfl (shSong0 h1) (gvp_in b18) ?_
        refine r_const rfl (gcst 12) ?_
        refine r_icmp_eq 42 rfl rfl (fun c19 => ?_) (fun c19 => ?_)
        · rw [if_pos c19] at hr
          exact t_X6_harmonyWith_42 h0 h1 hK10 hr hQ
        · rw [if_neg c19] at hr
          refine r_iload rfl rfl ?_
          refine r_const rfl (gcst 953) ?_
          refine r_aload rfl rfl ?_
          refine r_getR (c := 6) (k := 0) (v := (a0 + 1)) rfl (shSong h0) ⟨rfl, rfl⟩ (rfSong h0) ?_
          refine r_iload rfl rfl ?_
          obtain ⟨b20, hr⟩ := gopt hr
          refine r_iaload (n := 12) rfl (shSong0 h0) (gvp_in b20) ?_
          refine r_aload rfl rfl ?_
          refine r_getR (c := 6) (k := 0) (v := (a1 + 1)) rfl (shSong h1) ⟨rfl, rfl⟩ (rfSong h1) ?_
          refine r_iload rfl rfl ?_
          obtain ⟨b21, hr⟩ := gopt hr
          refine r_iaload (n := 12) rfl (shSong0 h1) (gvp_in b21) ?_
          refine r_isub rfl ?_
          refine r_invs [.int ((I (a0 + 1) (gx v4)) - (I (a1 + 1) (gx v4)))] rfl rfl rfl rfl (Nat.le_of_ble_eq_true rfl) ⟨rfl, rfl⟩ ?_
          refine s_J9_abs_0f7a4  ?_
          show gW _ _ _ _ _ 37 [.ref a0, .ref a1, .int v2, .int v3, .int v4] [.int (f_J9_abs_0f7a4 I L ((I (a0 + 1) (gx v4)) - (I (a1 + 1) (gx v4)))), .int (nI 953), .int v3] (gKn n, gRf f g, I, L) _
          refine r_ishr rfl ?_
          refine r_const rfl (gcst 1) ?_
          refine r_iand rfl ?_
          refine r_iadd rfl ?_
          refine r_istore [.ref a0, .ref a1, .int v2, .int (v3 + ((gshr (nI 953) (f_J9_abs_0f7a4 I L ((I (a0 + 1) (gx v4)) - (I (a1 + 1) (gx v4))))) &&& (nI 1))), .int v4] rfl rfl (Nat.le_of_ble_eq_true rfl) rfl ?_
          exact t_X6_harmonyWith_42 h0 h1 hK10 hr hQ
def r_X6_harmonyWith (I : Nat → Nat → Int32) (L : Nat → Nat → Int64) (a0 : Nat) (a1 : Nat) : Option gRs := (r_X6_harmonyWith_10 a0 a1 100 (f_J9_min_7cf53 I L (I a0 1) (I a1 1)) (nI 0) (nI 0) I L)
set_option maxHeartbeats 4000000 in
set_option maxRecDepth 100000 in
theorem s_X6_harmonyWith {n f g d : Nat} {Q : gP} {I : Nat → Nat → Int32} {L : Nat → Nat → Int64} {a0 : Nat} {a1 : Nat} {z : gRs} (h0 : gso a0 = true) (h1 : gso a1 = true) (hr : r_X6_harmonyWith I L a0 a1 = some z) (hQ : Q (some (.int z.1)) (gKn n, gRf f g, z.2.1, z.2.2)) : gR gM (d + 1) 54 [.ref a0, .ref a1] (gKn n, gRf f g, I, L) Q := by
  unfold r_X6_harmonyWith at hr
  show gW gM (d + 1) 0 0 k_X6_harmonyWith 0 [.ref a0, .ref a1, .null, .null, .null] [] (gKn n, gRf f g, I, L) Q
  refine r_aload rfl rfl ?_
  refine r_getI (c := 6) (k := 1) rfl (shSong h0) ⟨rfl, rfl⟩ ?_
  refine r_aload rfl rfl ?_
  refine r_getI (c := 6) (k := 1) rfl (shSong h1) ⟨rfl, rfl⟩ ?_
  refine r_invs [.int (I a0 1), .int (I a1 1)] rfl rfl rfl rfl (Nat.le_of_ble_eq_true rfl) ⟨rfl, rfl⟩ ?_
  refine s_J9_min_7cf53  ?_
  show gW _ _ _ _ _ 5 [.ref a0, .ref a1, .null, .null, .null] [.int (f_J9_min_7cf53 I L (I a0 1) (I a1 1))] (gKn n, gRf f g, I, L) _
  refine r_istore [.ref a0, .ref a1, .int (f_J9_min_7cf53 I L (I a0 1) (I a1 1)), .null, .null] rfl rfl (Nat.le_of_ble_eq_true rfl) rfl ?_
  refine r_const rfl (gcst 0) ?_
  refine r_istore [.ref a0, .ref a1, .int (f_J9_min_7cf53 I L (I a0 1) (I a1 1)), .int (nI 0), .null] rfl rfl (Nat.le_of_ble_eq_true rfl) rfl ?_
  refine r_const rfl (gcst 0) ?_
  refine r_istore [.ref a0, .ref a1, .int (f_J9_min_7cf53 I L (I a0 1) (I a1 1)), .int (nI 0), .int (nI 0)] rfl rfl (Nat.le_of_ble_eq_true rfl) rfl ?_
  exact t_X6_harmonyWith_10 h0 h1 hr hQ
def r_X6_toneCount_18 (a0 : Nat) (K4 : Int32 → Int32 → (Nat → Nat → Int32) → (Nat → Nat → Int64) → Option gRs) (v2 : Int32) (s0 : Int32) (s1 : Int32) (I : Nat → Nat → Int32) (L : Nat → Nat → Int64) : Option gRs := (K4 (s0 + s1) (v2 + (nI 1)) I L)
set_option maxHeartbeats 4000000 in
set_option maxRecDepth 100000 in
theorem t_X6_toneCount_18 {n f g d : Nat} {Q : gP} {z : gRs} {a0 : Nat} (h0 : gso a0 = true) {K4 : Int32 → Int32 → (Nat → Nat → Int32) → (Nat → Nat → Int64) → Option gRs} (hK4 : ∀ v1 v2 I L, K4 v1 v2 I L = some z → gW gM (d + 0) 0 0 k_X6_toneCount 4 [.ref a0, .int v1, .int v2] [] (gKn n, gRf f g, I, L) Q) {v2 : Int32} {s0 : Int32} {s1 : Int32} {I : Nat → Nat → Int32} {L : Nat → Nat → Int64} (hr : r_X6_toneCount_18 a0 K4 v2 s0 s1 I L = some z) (hQ : Q (some (.int z.1)) (gKn n, gRf f g, z.2.1, z.2.2)) : gW gM (d + 0) 0 0 k_X6_toneCount 18 [.ref a0, .null, .int v2] [.int s1, .int s0] (gKn n, gRf f g, I, L) Q := by
  unfold r_X6_toneCount_18 at hr
  refine r_iadd rfl ?_
  refine r_istore [.ref a0, .int (s0 + s1), .int v2] rfl rfl (Nat.le_of_ble_eq_true rfl) rfl ?_
  refine r_iinc (y := (v2 + (nI 1))) [.ref a0, .int (s0 + s1), .int (v2 + (nI 1))] rfl rfl rfl (ginc _ 1) rfl ?_
  refine r_goto 4 rfl rfl ?_
  exact hK4 _ _ _ _ hr
def r_X6_toneCount_4 (a0 : Nat)  : Nat → Int32 → Int32 → (Nat → Nat → Int32) → (Nat → Nat → Int64) → Option gRs
  | 0, _, _, _, _ => none
  | m + 1, v1, v2, I, L => (if (I a0 1) ≤ v2 then some (v1, I, L) else (if gvp v2 12 = true then (if (I (a0 + 1) (gx v2)) = (nI 12) then (r_X6_toneCount_18 a0 (r_X6_toneCount_4 a0 m) v2 v1 (nI 0) I L) else (r_X6_toneCount_18 a0 (r_X6_toneCount_4 a0 m) v2 v1 (nI 1) I L)) else none))
set_option maxHeartbeats 4000000 in
set_option maxRecDepth 100000 in
theorem t_X6_toneCount_4 {n f g d : Nat} {Q : gP} {z : gRs} {a0 : Nat} (h0 : gso a0 = true)  : ∀ {m : Nat} {v1 : Int32} {v2 : Int32} {I : Nat → Nat → Int32} {L : Nat → Nat → Int64}, r_X6_toneCount_4 a0 m v1 v2 I L = some z → Q (some (.int z.1)) (gKn n, gRf f g, z.2.1, z.2.2) → gW gM (d + 0) 0 0 k_X6_toneCount 4 [.ref a0, .int v1, .int v2] [] (gKn n, gRf f g, I, L) Q := by
  intro m
  induction m with
  | zero =>
    intro v1 v2 I L hr _
    cases hr
  | succ m ih =>
    intro v1 v2 I L hr hQ
    have hK4 : ∀ v1 v2 I L, r_X6_toneCount_4 a0 m v1 v2 I L = some z → gW gM (d + 0) 0 0 k_X6_toneCount 4 [.ref a0, .int v1, .int v2] [] (gKn n, gRf f g, I, L) Q := fun v1 v2 I L hr => ih hr hQ
    unfold r_X6_toneCount_4 at hr
    refine r_iload rfl rfl ?_
    refine r_aload rfl rfl ?_
    refine r_getI (c := 6) (k := 1) rfl (shSong h0) ⟨rfl, rfl⟩ ?_
    refine r_icmp_ge 22 rfl rfl (fun c7 => ?_) (fun c7 => ?_)
    · rw [if_pos c7] at hr
      refine r_iload rfl rfl ?_
      refine r_iret rfl ?_
      cases hr
      exact hQ
    · rw [if_neg c7] at hr
      refine r_iload rfl rfl ?_
      refine r_aload rfl rfl ?_
      refine r_getR (c := 6) (k := 0) (v := (a0 + 1)) rfl (shSong h0) ⟨rfl, rfl⟩ (rfSong h0) ?_
      refine r_iload rfl rfl ?_
      obtain ⟨b8, hr⟩ := gopt hr
      refine r_iaload (n := 12) rfl (shSong0 h0) (gvp_in b8) ?_
      refine r_const rfl (gcst 12) ?_
      refine r_icmp_eq 17 rfl rfl (fun c9 => ?_) (fun c9 => ?_)
      · rw [if_pos c9] at hr
        refine r_const rfl (gcst 0) ?_
        refine gforget (ls := [.ref a0, .null, .int v2]) ⟨(Or.inl rfl), ⟨(Or.inr (Or.inl ⟨rfl, _, rfl⟩)), ⟨(Or.inl rfl), trivial⟩⟩⟩ ?_
        exact t_X6_toneCount_18 h0 hK4 hr hQ
      · rw [if_neg c9] at hr
        refine r_const rfl (gcst 1) ?_
        refine r_goto 18 rfl rfl ?_
        refine gforget (ls := [.ref a0, .null, .int v2]) ⟨(Or.inl rfl), ⟨(Or.inr (Or.inl ⟨rfl, _, rfl⟩)), ⟨(Or.inl rfl), trivial⟩⟩⟩ ?_
        exact t_X6_toneCount_18 h0 hK4 hr hQ
def r_X6_toneCount (I : Nat → Nat → Int32) (L : Nat → Nat → Int64) (a0 : Nat) : Option gRs := (r_X6_toneCount_4 a0 100 (nI 0) (nI 0) I L)
set_option maxHeartbeats 4000000 in
set_option maxRecDepth 100000 in
theorem s_X6_toneCount {n f g d : Nat} {Q : gP} {I : Nat → Nat → Int32} {L : Nat → Nat → Int64} {a0 : Nat} {z : gRs} (h0 : gso a0 = true) (hr : r_X6_toneCount I L a0 = some z) (hQ : Q (some (.int z.1)) (gKn n, gRf f g, z.2.1, z.2.2)) : gR gM (d + 0) 52 [.ref a0] (gKn n, gRf f g, I, L) Q := by
  unfold r_X6_toneCount at hr
  show gW gM (d + 0) 0 0 k_X6_toneCount 0 [.ref a0, .null, .null] [] (gKn n, gRf f g, I, L) Q
  refine r_const rfl (gcst 0) ?_
  refine r_istore [.ref a0, .int (nI 0), .null] rfl rfl (Nat.le_of_ble_eq_true rfl) rfl ?_
  refine r_const rfl (gcst 0) ?_
  refine r_istore [.ref a0, .int (nI 0), .int (nI 0)] rfl rfl (Nat.le_of_ble_eq_true rfl) rfl ?_
  exact t_X6_toneCount_4 h0 hr hQ
def r_X3_isUnbroken (I : Nat → Nat → Int32) (L : Nat → Nat → Int64) (a0 : Nat) : Option gRs := ((r_X6_toneCount I L a0).bind (fun z3 => some ((if ¬ z3.1 = (z3.2.1 a0 1) then (nI 0) else (nI 1)), z3.2.1, z3.2.2)))
set_option maxHeartbeats 4000000 in
set_option maxRecDepth 100000 in
theorem s_X3_isUnbroken {n f g d : Nat} {Q : gP} {I : Nat → Nat → Int32} {L : Nat → Nat → Int64} {a0 : Nat} {z : gRs} (h0 : gso a0 = true) (hr : r_X3_isUnbroken I L a0 = some z) (hQ : Q (some (.int z.1)) (gKn n, gRf f g, z.2.1, z.2.2)) : gR gM (d + 1) 34 [.ref a0] (gKn n, gRf f g, I, L) Q := by
  unfold r_X3_isUnbroken at hr
  show gW gM (d + 1) 0 0 k_X3_isUnbroken 0 [.ref a0] [] (gKn n, gRf f g, I, L) Q
  refine r_aload rfl rfl ?_
  obtain ⟨z3, hz3, hr⟩ := gbnd hr
  refine r_invv (a := a0) [] rfl rfl (shSong h0) rfl rfl (Nat.le_of_ble_eq_true rfl) ⟨rfl, rfl⟩ ?_
  refine s_X6_toneCount h0 hz3 ?_
  show gW _ _ _ _ _ 2 [.ref a0] [.int z3.1] (gKn n, gRf f g, z3.2.1, z3.2.2) _
  refine r_aload rfl rfl ?_
  refine r_getI (c := 6) (k := 1) rfl (shSong h0) ⟨rfl, rfl⟩ ?_
  have j5 : gW gM (d + 1) 0 0 k_X3_isUnbroken 8 [.ref a0] [.int (if ¬ z3.1 = (z3.2.1 a0 1) then (nI 0) else (nI 1))] (gKn n, gRf f g, z3.2.1, z3.2.2) Q := by
    refine r_zret rfl (by repeat' split; all_goals first | exact Or.inl rfl | exact Or.inr rfl) ?_
    cases hr
    exact hQ
  refine r_icmp_ne 7 rfl rfl (fun c4 => ?_) (fun c4 => ?_)
  · refine r_const rfl (gcst 0) ?_
    first | contradiction | simpa only [if_pos c4] using j5
  · refine r_const rfl (gcst 1) ?_
    refine r_goto 8 rfl rfl ?_
    first | contradiction | simpa only [if_neg c4] using j5
def r_X3_meet_42 (a2 : Nat) (a4 : Nat)  (v5 : Int32) (v6 : Int32) (s1 : Int32) (s2 : Int32) (s3 : Int32) (I : Nat → Nat → Int32) (L : Nat → Nat → Int64) : Option gRs := (if gvp s1 9 = true then ((r_X3_isUnbroken (gu2 I 51 (gx s1) (s2 + s3)) L a4).bind (fun z22 => (if gvp v5 9 = true then some (0, (gu2 z22.2.1 52 (gx v5) (v6 + (if z22.1 = 0 then (nI 0) else (nI 1)))), z22.2.2) else none))) else none)
set_option maxHeartbeats 4000000 in
set_option maxRecDepth 100000 in
theorem t_X3_meet_42 {n f g d : Nat} {Q : gP} {z : gRs} {a2 : Nat} {a4 : Nat} (h2 : gso a2 = true) (h4 : gso a4 = true)  {v5 : Int32} {v6 : Int32} {s1 : Int32} {s2 : Int32} {s3 : Int32} {I : Nat → Nat → Int32} {L : Nat → Nat → Int64} (hr : r_X3_meet_42 a2 a4 v5 v6 s1 s2 s3 I L = some z) (hQ : Q none (gKn n, gRf f g, z.2.1, z.2.2)) : gW gM (d + 2) 0 0 k_X3_meet 42 [.ref 50, .null, .null, .null, .ref a4, .int v5, .int v6] [.int s3, .int s2, .int s1, .ref 51] (gKn n, gRf f g, I, L) Q := by
  unfold r_X3_meet_42 at hr
  refine r_iadd rfl ?_
  obtain ⟨b21, hr⟩ := gopt hr
  refine r_iastore (n := 9) rfl rfl (gvp_in b21) (by decide) ?_
  refine r_aload rfl rfl ?_
  refine r_getR (c := 3) (k := 1) (v := 52) rfl rfl ⟨rfl, rfl⟩ rfl ?_
  refine r_iload rfl rfl ?_
  refine r_iload rfl rfl ?_
  refine r_aload rfl rfl ?_
  obtain ⟨z22, hz22, hr⟩ := gbnd hr
  refine r_invs [.ref a4] rfl rfl rfl rfl (Nat.le_of_ble_eq_true rfl) ⟨rfl, rfl⟩ ?_
  refine s_X3_isUnbroken h4 hz22 ?_
  show gW _ _ _ _ _ 50 [.ref 50, .null, .null, .null, .ref a4, .int v5, .int v6] [.int z22.1, .int v6, .int v5, .ref 52] (gKn n, gRf f g, z22.2.1, z22.2.2) _
  have j25 : gW gM (d + 2) 0 0 k_X3_meet 54 [.ref 50, .null, .null, .null, .ref a4, .int v5, .int v6] [.int (if z22.1 = 0 then (nI 0) else (nI 1)), .int v6, .int v5, .ref 52] (gKn n, gRf f g, z22.2.1, z22.2.2) Q := by
    refine r_iadd rfl ?_
    obtain ⟨b24, hr⟩ := gopt hr
    refine r_iastore (n := 9) rfl rfl (gvp_in b24) (by decide) ?_
    refine r_vret rfl ?_
    cases hr
    exact hQ
  refine r_if_eq 53 rfl rfl (fun c23 => ?_) (fun c23 => ?_)
  · refine r_const rfl (gcst 0) ?_
    first | contradiction | simpa only [if_pos c23] using j25
  · refine r_const rfl (gcst 1) ?_
    refine r_goto 54 rfl rfl ?_
    first | contradiction | simpa only [if_neg c23] using j25
def r_X3_meet_13 (a2 : Nat) (a4 : Nat)   (I : Nat → Nat → Int32) (L : Nat → Nat → Int64) : Option gRs := some (0, I, L)
set_option maxHeartbeats 4000000 in
set_option maxRecDepth 100000 in
theorem t_X3_meet_13 {n f g d : Nat} {Q : gP} {z : gRs} {a2 : Nat} {a4 : Nat} (h2 : gso a2 = true) (h4 : gso a4 = true)   {I : Nat → Nat → Int32} {L : Nat → Nat → Int64} (hr : r_X3_meet_13 a2 a4 I L = some z) (hQ : Q none (gKn n, gRf f g, z.2.1, z.2.2)) : gW gM (d + 2) 0 0 k_X3_meet 13 [.null, .null, .null, .null, .null, .null, .null] [] (gKn n, gRf f g, I, L) Q := by
  unfold r_X3_meet_13 at hr
  refine r_vret rfl ?_
  cases hr
  exact hQ
def r_X3_meet (I : Nat → Nat → Int32) (L : Nat → Nat → Int64) (a1 : Int32) (a2 : Nat) (a3 : Int32) (a4 : Nat) : Option gRs := (if ((a1 * (nI 3)) + a3) < 0 then (r_X3_meet_13 a2 a4 I L) else (if ((a1 * (nI 3)) + a3) < (nI 9) then (if ¬ a1 = a3 then ((r_X6_harmonyWith I L a2 a4).bind (fun z29 => ((r_X3_isUnbroken z29.2.1 z29.2.2 a2).bind (fun z30 => (if z30.1 = 0 then (r_X3_meet_42 a2 a4 ((a1 * (nI 3)) + a3) z29.1 ((a1 * (nI 3)) + a3) z29.1 (nI 0) z30.2.1 z30.2.2) else (r_X3_meet_42 a2 a4 ((a1 * (nI 3)) + a3) z29.1 ((a1 * (nI 3)) + a3) z29.1 (nI 1) z30.2.1 z30.2.2)))))) else (if gvp ((a1 * (nI 3)) + a3) 9 = true then (if gvp ((a1 * (nI 3)) + a3) 9 = true then some (0, (gu2 (gu2 I 51 (gx ((a1 * (nI 3)) + a3)) (nI 0)) 52 (gx ((a1 * (nI 3)) + a3)) (nI 0)), L) else none) else none)) else (r_X3_meet_13 a2 a4 I L)))
set_option maxHeartbeats 4000000 in
set_option maxRecDepth 100000 in
theorem s_X3_meet {n f g d : Nat} {Q : gP} {I : Nat → Nat → Int32} {L : Nat → Nat → Int64} {a1 : Int32} {a2 : Nat} {a3 : Int32} {a4 : Nat} {z : gRs} (h2 : gso a2 = true) (h4 : gso a4 = true) (hr : r_X3_meet I L a1 a2 a3 a4 = some z) (hQ : Q none (gKn n, gRf f g, z.2.1, z.2.2)) : gR gM (d + 2) 31 [.ref 50, .int a1, .ref a2, .int a3, .ref a4] (gKn n, gRf f g, I, L) Q := by
  unfold r_X3_meet at hr
  show gW gM (d + 2) 0 0 k_X3_meet 0 [.ref 50, .int a1, .ref a2, .int a3, .ref a4, .null, .null] [] (gKn n, gRf f g, I, L) Q
  refine r_iload rfl rfl ?_
  refine r_const rfl (gcst 3) ?_
  refine r_imul rfl ?_
  refine r_iload rfl rfl ?_
  refine r_iadd rfl ?_
  refine r_istore [.ref 50, .int a1, .ref a2, .int a3, .ref a4, .int ((a1 * (nI 3)) + a3), .null] rfl rfl (Nat.le_of_ble_eq_true rfl) rfl ?_
  refine r_iload rfl rfl ?_
  refine r_if_lt 13 rfl rfl (fun c26 => ?_) (fun c26 => ?_)
  · rw [if_pos c26] at hr
    refine gforget (ls := [.null, .null, .null, .null, .null, .null, .null]) ⟨(Or.inr (Or.inr ⟨rfl, _, rfl⟩)), ⟨(Or.inr (Or.inl ⟨rfl, _, rfl⟩)), ⟨(Or.inr (Or.inr ⟨rfl, _, rfl⟩)), ⟨(Or.inr (Or.inl ⟨rfl, _, rfl⟩)), ⟨(Or.inr (Or.inr ⟨rfl, _, rfl⟩)), ⟨(Or.inr (Or.inl ⟨rfl, _, rfl⟩)), ⟨(Or.inl rfl), trivial⟩⟩⟩⟩⟩⟩⟩ ?_
    exact t_X3_meet_13 h2 h4 hr hQ
  · rw [if_neg c26] at hr
    refine r_iload rfl rfl ?_
    refine r_aload rfl rfl ?_
    refine r_getR (c := 3) (k := 0) (v := 51) rfl rfl ⟨rfl, rfl⟩ rfl ?_
    refine r_alen 9 0 (v := nI 9) rfl rfl (by decide) rfl ?_
    refine r_icmp_lt 14 rfl rfl (fun c27 => ?_) (fun c27 => ?_)
    · rw [if_pos c27] at hr
      refine r_iload rfl rfl ?_
      refine r_iload rfl rfl ?_
      refine r_icmp_ne 28 rfl rfl (fun c28 => ?_) (fun c28 => ?_)
      · rw [if_pos c28] at hr
        refine r_aload rfl rfl ?_
        refine r_aload rfl rfl ?_
        obtain ⟨z29, hz29, hr⟩ := gbnd hr
        refine r_invv (a := a2) [.ref a4] rfl rfl (shSong h2) rfl rfl (Nat.le_of_ble_eq_true rfl) ⟨rfl, rfl⟩ ?_
        refine s_X6_harmonyWith h2 h4 hz29 ?_
        show gW _ _ _ _ _ 31 [.ref 50, .int a1, .ref a2, .int a3, .ref a4, .int ((a1 * (nI 3)) + a3), .null] [.int z29.1] (gKn n, gRf f g, z29.2.1, z29.2.2) _
        refine r_istore [.ref 50, .int a1, .ref a2, .int a3, .ref a4, .int ((a1 * (nI 3)) + a3), .int z29.1] rfl rfl (Nat.le_of_ble_eq_true rfl) rfl ?_
        refine r_aload rfl rfl ?_
        refine r_getR (c := 3) (k := 0) (v := 51) rfl rfl ⟨rfl, rfl⟩ rfl ?_
        refine r_iload rfl rfl ?_
        refine r_iload rfl rfl ?_
        refine r_aload rfl rfl ?_
        obtain ⟨z30, hz30, hr⟩ := gbnd hr
        refine r_invs [.ref a2] rfl rfl rfl rfl (Nat.le_of_ble_eq_true rfl) ⟨rfl, rfl⟩ ?_
        refine s_X3_isUnbroken h2 hz30 ?_
        show gW _ _ _ _ _ 38 [.ref 50, .int a1, .ref a2, .int a3, .ref a4, .int ((a1 * (nI 3)) + a3), .int z29.1] [.int z30.1, .int z29.1, .int ((a1 * (nI 3)) + a3), .ref 51] (gKn n, gRf f g, z30.2.1, z30.2.2) _
        refine r_if_eq 41 rfl rfl (fun c31 => ?_) (fun c31 => ?_)
        · rw [if_pos c31] at hr
          refine r_const rfl (gcst 0) ?_
          refine gforget (ls := [.ref 50, .null, .null, .null, .ref a4, .int ((a1 * (nI 3)) + a3), .int z29.1]) ⟨(Or.inl rfl), ⟨(Or.inr (Or.inl ⟨rfl, _, rfl⟩)), ⟨(Or.inr (Or.inr ⟨rfl, _, rfl⟩)), ⟨(Or.inr (Or.inl ⟨rfl, _, rfl⟩)), ⟨(Or.inl rfl), ⟨(Or.inl rfl), ⟨(Or.inl rfl), trivial⟩⟩⟩⟩⟩⟩⟩ ?_
          exact t_X3_meet_42 h2 h4 hr hQ
        · rw [if_neg c31] at hr
          refine r_const rfl (gcst 1) ?_
          refine r_goto 42 rfl rfl ?_
          refine gforget (ls := [.ref 50, .null, .null, .null, .ref a4, .int ((a1 * (nI 3)) + a3), .int z29.1]) ⟨(Or.inl rfl), ⟨(Or.inr (Or.inl ⟨rfl, _, rfl⟩)), ⟨(Or.inr (Or.inr ⟨rfl, _, rfl⟩)), ⟨(Or.inr (Or.inl ⟨rfl, _, rfl⟩)), ⟨(Or.inl rfl), ⟨(Or.inl rfl), ⟨(Or.inl rfl), trivial⟩⟩⟩⟩⟩⟩⟩ ?_
          exact t_X3_meet_42 h2 h4 hr hQ
      · rw [if_neg c28] at hr
        refine r_aload rfl rfl ?_
        refine r_getR (c := 3) (k := 0) (v := 51) rfl rfl ⟨rfl, rfl⟩ rfl ?_
        refine r_iload rfl rfl ?_
        refine r_const rfl (gcst 0) ?_
        obtain ⟨b32, hr⟩ := gopt hr
        refine r_iastore (n := 9) rfl rfl (gvp_in b32) (by decide) ?_
        refine r_aload rfl rfl ?_
        refine r_getR (c := 3) (k := 1) (v := 52) rfl rfl ⟨rfl, rfl⟩ rfl ?_
        refine r_iload rfl rfl ?_
        refine r_const rfl (gcst 0) ?_
        obtain ⟨b33, hr⟩ := gopt hr
        refine r_iastore (n := 9) rfl rfl (gvp_in b33) (by decide) ?_
        refine r_vret rfl ?_
        cases hr
        exact hQ
    · rw [if_neg c27] at hr
      refine gforget (ls := [.null, .null, .null, .null, .null, .null, .null]) ⟨(Or.inr (Or.inr ⟨rfl, _, rfl⟩)), ⟨(Or.inr (Or.inl ⟨rfl, _, rfl⟩)), ⟨(Or.inr (Or.inr ⟨rfl, _, rfl⟩)), ⟨(Or.inr (Or.inl ⟨rfl, _, rfl⟩)), ⟨(Or.inr (Or.inr ⟨rfl, _, rfl⟩)), ⟨(Or.inr (Or.inl ⟨rfl, _, rfl⟩)), ⟨(Or.inl rfl), trivial⟩⟩⟩⟩⟩⟩⟩ ?_
      exact t_X3_meet_13 h2 h4 hr hQ
def r_X3_isAtRest_37    (I : Nat → Nat → Int32) (L : Nat → Nat → Int64) : Option gRs := some ((nI 0), I, L)
set_option maxHeartbeats 4000000 in
set_option maxRecDepth 100000 in
theorem t_X3_isAtRest_37 {n f g d : Nat} {Q : gP} {z : gRs}     {I : Nat → Nat → Int32} {L : Nat → Nat → Int64} (hr : r_X3_isAtRest_37 I L = some z) (hQ : Q (some (.int z.1)) (gKn n, gRf f g, z.2.1, z.2.2)) : gW gM (d + 0) 0 0 k_X3_isAtRest 37 [.null, .null, .null, .null, .null, .null] [] (gKn n, gRf f g, I, L) Q := by
  unfold r_X3_isAtRest_37 at hr
  refine r_const rfl (gcst 0) ?_
  refine r_zret rfl (Or.inl rfl) ?_
  cases hr
  exact hQ
def r_X3_isAtRest_8   : Nat → Int32 → Int32 → Int32 → Int32 → Int32 → (Nat → Nat → Int32) → (Nat → Nat → Int64) → Option gRs
  | 0, _, _, _, _, _, _, _ => none
  | m + 1, v1, v2, v3, v4, v5, I, L => (if v3 ≤ v5 then some ((nI 1), I, L) else (if gvp ((v5 * (nI 3)) + v2) 9 = true then (if gvp v4 9 = true then (if (I 51 (gx v4)) < (I 51 (gx ((v5 * (nI 3)) + v2))) then (r_X3_isAtRest_37 I L) else (if gvp ((v1 * (nI 3)) + v5) 9 = true then (if gvp v4 9 = true then (if (I 52 (gx ((v1 * (nI 3)) + v5))) ≤ (I 52 (gx v4)) then (r_X3_isAtRest_8  m v1 v2 v3 v4 (v5 + (nI 1)) I L) else (r_X3_isAtRest_37 I L)) else none) else none)) else none) else none))
set_option maxHeartbeats 4000000 in
set_option maxRecDepth 100000 in
theorem t_X3_isAtRest_8 {n f g d : Nat} {Q : gP} {z : gRs}    : ∀ {m : Nat} {v1 : Int32} {v2 : Int32} {v3 : Int32} {v4 : Int32} {v5 : Int32} {I : Nat → Nat → Int32} {L : Nat → Nat → Int64}, r_X3_isAtRest_8 m v1 v2 v3 v4 v5 I L = some z → Q (some (.int z.1)) (gKn n, gRf f g, z.2.1, z.2.2) → gW gM (d + 0) 0 0 k_X3_isAtRest 8 [.ref 50, .int v1, .int v2, .int v3, .int v4, .int v5] [] (gKn n, gRf f g, I, L) Q := by
  intro m
  induction m with
  | zero =>
    intro v1 v2 v3 v4 v5 I L hr _
    cases hr
  | succ m ih =>
    intro v1 v2 v3 v4 v5 I L hr hQ
    have hK8 : ∀ v1 v2 v3 v4 v5 I L, r_X3_isAtRest_8 m v1 v2 v3 v4 v5 I L = some z → gW gM (d + 0) 0 0 k_X3_isAtRest 8 [.ref 50, .int v1, .int v2, .int v3, .int v4, .int v5] [] (gKn n, gRf f g, I, L) Q := fun v1 v2 v3 v4 v5 I L hr => ih hr hQ
    unfold r_X3_isAtRest_8 at hr
    refine r_iload rfl rfl ?_
    refine r_iload rfl rfl ?_
    refine r_icmp_ge 41 rfl rfl (fun c15 => ?_) (fun c15 => ?_)
    · rw [if_pos c15] at hr
      refine r_const rfl (gcst 1) ?_
      refine r_zret rfl (Or.inr rfl) ?_
      cases hr
      exact hQ
    · rw [if_neg c15] at hr
      refine r_aload rfl rfl ?_
      refine r_getR (c := 3) (k := 0) (v := 51) rfl rfl ⟨rfl, rfl⟩ rfl ?_
      refine r_iload rfl rfl ?_
      refine r_const rfl (gcst 3) ?_
      refine r_imul rfl ?_
      refine r_iload rfl rfl ?_
      refine r_iadd rfl ?_
      obtain ⟨b16, hr⟩ := gopt hr
      refine r_iaload (n := 9) rfl rfl (gvp_in b16) ?_
      refine r_aload rfl rfl ?_
      refine r_getR (c := 3) (k := 0) (v := 51) rfl rfl ⟨rfl, rfl⟩ rfl ?_
      refine r_iload rfl rfl ?_
      obtain ⟨b17, hr⟩ := gopt hr
      refine r_iaload (n := 9) rfl rfl (gvp_in b17) ?_
      refine r_icmp_gt 37 rfl rfl (fun c18 => ?_) (fun c18 => ?_)
      · rw [if_pos c18] at hr
        refine gforget (ls := [.null, .null, .null, .null, .null, .null]) ⟨(Or.inr (Or.inr ⟨rfl, _, rfl⟩)), ⟨(Or.inr (Or.inl ⟨rfl, _, rfl⟩)), ⟨(Or.inr (Or.inl ⟨rfl, _, rfl⟩)), ⟨(Or.inr (Or.inl ⟨rfl, _, rfl⟩)), ⟨(Or.inr (Or.inl ⟨rfl, _, rfl⟩)), ⟨(Or.inr (Or.inl ⟨rfl, _, rfl⟩)), trivial⟩⟩⟩⟩⟩⟩ ?_
        exact t_X3_isAtRest_37  hr hQ
      · rw [if_neg c18] at hr
        refine r_aload rfl rfl ?_
        refine r_getR (c := 3) (k := 1) (v := 52) rfl rfl ⟨rfl, rfl⟩ rfl ?_
        refine r_iload rfl rfl ?_
        refine r_const rfl (gcst 3) ?_
        refine r_imul rfl ?_
        refine r_iload rfl rfl ?_
        refine r_iadd rfl ?_
        obtain ⟨b19, hr⟩ := gopt hr
        refine r_iaload (n := 9) rfl rfl (gvp_in b19) ?_
        refine r_aload rfl rfl ?_
        refine r_getR (c := 3) (k := 1) (v := 52) rfl rfl ⟨rfl, rfl⟩ rfl ?_
        refine r_iload rfl rfl ?_
        obtain ⟨b20, hr⟩ := gopt hr
        refine r_iaload (n := 9) rfl rfl (gvp_in b20) ?_
        refine r_icmp_le 39 rfl rfl (fun c21 => ?_) (fun c21 => ?_)
        · rw [if_pos c21] at hr
          refine r_iinc (y := (v5 + (nI 1))) [.ref 50, .int v1, .int v2, .int v3, .int v4, .int (v5 + (nI 1))] rfl rfl rfl (ginc _ 1) rfl ?_
          refine r_goto 8 rfl rfl ?_
          exact hK8 _ _ _ _ _ _ _ hr
        · rw [if_neg c21] at hr
          refine gforget (ls := [.null, .null, .null, .null, .null, .null]) ⟨(Or.inr (Or.inr ⟨rfl, _, rfl⟩)), ⟨(Or.inr (Or.inl ⟨rfl, _, rfl⟩)), ⟨(Or.inr (Or.inl ⟨rfl, _, rfl⟩)), ⟨(Or.inr (Or.inl ⟨rfl, _, rfl⟩)), ⟨(Or.inr (Or.inl ⟨rfl, _, rfl⟩)), ⟨(Or.inr (Or.inl ⟨rfl, _, rfl⟩)), trivial⟩⟩⟩⟩⟩⟩ ?_
          exact t_X3_isAtRest_37  hr hQ
def r_X3_isAtRest (I : Nat → Nat → Int32) (L : Nat → Nat → Int64) (a1 : Int32) (a2 : Int32) (a3 : Int32) : Option gRs := (r_X3_isAtRest_8 100 a1 a2 a3 ((a1 * (nI 3)) + a2) (nI 0) I L)
set_option maxHeartbeats 4000000 in
set_option maxRecDepth 100000 in
theorem s_X3_isAtRest {n f g d : Nat} {Q : gP} {I : Nat → Nat → Int32} {L : Nat → Nat → Int64} {a1 : Int32} {a2 : Int32} {a3 : Int32} {z : gRs}  (hr : r_X3_isAtRest I L a1 a2 a3 = some z) (hQ : Q (some (.int z.1)) (gKn n, gRf f g, z.2.1, z.2.2)) : gR gM (d + 0) 33 [.ref 50, .int a1, .int a2, .int a3] (gKn n, gRf f g, I, L) Q := by
  unfold r_X3_isAtRest at hr
  show gW gM (d + 0) 0 0 k_X3_isAtRest 0 [.ref 50, .int a1, .int a2, .int a3, .null, .null] [] (gKn n, gRf f g, I, L) Q
  refine r_iload rfl rfl ?_
  refine r_const rfl (gcst 3) ?_
  refine r_imul rfl ?_
  refine r_iload rfl rfl ?_
  refine r_iadd rfl ?_
  refine r_istore [.ref 50, .int a1, .int a2, .int a3, .int ((a1 * (nI 3)) + a2), .null] rfl rfl (Nat.le_of_ble_eq_true rfl) rfl ?_
  refine r_const rfl (gcst 0) ?_
  refine r_istore [.ref 50, .int a1, .int a2, .int a3, .int ((a1 * (nI 3)) + a2), .int (nI 0)] rfl rfl (Nat.le_of_ble_eq_true rfl) rfl ?_
  exact t_X3_isAtRest_8  hr hQ
def r_X3_settle_34  (K8 : Int32 → Int32 → (Nat → Nat → Int32) → (Nat → Nat → Int64) → Option gRs) (K13 : Int32 → Int32 → Int32 → (Nat → Nat → Int32) → (Nat → Nat → Int64) → Option gRs) (v1 : Int32) (v2 : Int32) (v3 : Int32) (s1 : Int32) (I : Nat → Nat → Int32) (L : Nat → Nat → Int64) : Option gRs := (K13 v1 v2 (v3 + (nI 1)) (gu2 (gu2 I 50 3 s1) 50 2 (((gu2 I 50 3 s1) 50 2) + (nI 1))) L)
set_option maxHeartbeats 4000000 in
set_option maxRecDepth 100000 in
theorem t_X3_settle_34 {n f g d : Nat} {Q : gP} {z : gRs}   {K8 : Int32 → Int32 → (Nat → Nat → Int32) → (Nat → Nat → Int64) → Option gRs} (hK8 : ∀ v1 v2 I L, K8 v1 v2 I L = some z → gW gM (d + 1) 0 0 k_X3_settle 8 [.ref 50, .int v1, .int v2, .null] [] (gKn n, gRf f g, I, L) Q) {K13 : Int32 → Int32 → Int32 → (Nat → Nat → Int32) → (Nat → Nat → Int64) → Option gRs} (hK13 : ∀ v1 v2 v3 I L, K13 v1 v2 v3 I L = some z → gW gM (d + 1) 0 0 k_X3_settle 13 [.ref 50, .int v1, .int v2, .int v3] [] (gKn n, gRf f g, I, L) Q) {v1 : Int32} {v2 : Int32} {v3 : Int32} {s1 : Int32} {I : Nat → Nat → Int32} {L : Nat → Nat → Int64} (hr : r_X3_settle_34 K8 K13 v1 v2 v3 s1 I L = some z) (hQ : Q none (gKn n, gRf f g, z.2.1, z.2.2)) : gW gM (d + 1) 0 0 k_X3_settle 34 [.ref 50, .int v1, .int v2, .int v3] [.int s1, .ref 50] (gKn n, gRf f g, I, L) Q := by
  unfold r_X3_settle_34 at hr
  refine r_putI (c := 3) (k := 3) rfl rfl ⟨rfl, rfl⟩ ?_
  refine r_aload rfl rfl ?_
  refine r_dup rfl rfl ?_
  refine r_getI (c := 3) (k := 2) rfl rfl ⟨rfl, rfl⟩ ?_
  refine r_const rfl (gcst 1) ?_
  refine r_iadd rfl ?_
  refine r_putI (c := 3) (k := 2) rfl rfl ⟨rfl, rfl⟩ ?_
  refine r_iinc (y := (v3 + (nI 1))) [.ref 50, .int v1, .int v2, .int (v3 + (nI 1))] rfl rfl rfl (ginc _ 1) rfl ?_
  refine r_goto 13 rfl rfl ?_
  exact hK13 _ _ _ _ _ hr
def r_X3_settle_13  (K8 : Int32 → Int32 → (Nat → Nat → Int32) → (Nat → Nat → Int64) → Option gRs) : Nat → Int32 → Int32 → Int32 → (Nat → Nat → Int32) → (Nat → Nat → Int64) → Option gRs
  | 0, _, _, _, _, _ => none
  | m + 1, v1, v2, v3, I, L => (if v1 ≤ v3 then (K8 v1 (v2 + (nI 1)) I L) else ((r_X3_isAtRest I L v2 v3 v1).bind (fun z12 => (if z12.1 = 0 then (r_X3_settle_13 K8 m v1 v2 (v3 + (nI 1)) z12.2.1 z12.2.2) else (if ¬ (z12.2.1 50 2) = 0 then (r_X3_settle_34 K8 (r_X3_settle_13 K8 m) v1 v2 v3 (z12.2.1 50 3) z12.2.1 z12.2.2) else (r_X3_settle_34 K8 (r_X3_settle_13 K8 m) v1 v2 v3 (((nI 10) * v2) + v3) z12.2.1 z12.2.2))))))
set_option maxHeartbeats 4000000 in
set_option maxRecDepth 100000 in
theorem t_X3_settle_13 {n f g d : Nat} {Q : gP} {z : gRs}   {K8 : Int32 → Int32 → (Nat → Nat → Int32) → (Nat → Nat → Int64) → Option gRs} (hK8 : ∀ v1 v2 I L, K8 v1 v2 I L = some z → gW gM (d + 1) 0 0 k_X3_settle 8 [.ref 50, .int v1, .int v2, .null] [] (gKn n, gRf f g, I, L) Q) : ∀ {m : Nat} {v1 : Int32} {v2 : Int32} {v3 : Int32} {I : Nat → Nat → Int32} {L : Nat → Nat → Int64}, r_X3_settle_13 K8 m v1 v2 v3 I L = some z → Q none (gKn n, gRf f g, z.2.1, z.2.2) → gW gM (d + 1) 0 0 k_X3_settle 13 [.ref 50, .int v1, .int v2, .int v3] [] (gKn n, gRf f g, I, L) Q := by
  intro m
  induction m with
  | zero =>
    intro v1 v2 v3 I L hr _
    cases hr
  | succ m ih =>
    intro v1 v2 v3 I L hr hQ
    have hK13 : ∀ v1 v2 v3 I L, r_X3_settle_13 K8 m v1 v2 v3 I L = some z → gW gM (d + 1) 0 0 k_X3_settle 13 [.ref 50, .int v1, .int v2, .int v3] [] (gKn n, gRf f g, I, L) Q := fun v1 v2 v3 I L hr => ih hr hQ
    unfold r_X3_settle_13 at hr
    refine r_iload rfl rfl ?_
    refine r_iload rfl rfl ?_
    refine r_icmp_ge 43 rfl rfl (fun c11 => ?_) (fun c11 => ?_)
    · rw [if_pos c11] at hr
      refine r_iinc (y := (v2 + (nI 1))) [.ref 50, .int v1, .int (v2 + (nI 1)), .int v3] rfl rfl rfl (ginc _ 1) rfl ?_
      refine r_goto 8 rfl rfl ?_
      refine gforget (ls := [.ref 50, .int v1, .int (v2 + (nI 1)), .null]) ⟨(Or.inl rfl), ⟨(Or.inl rfl), ⟨(Or.inl rfl), ⟨(Or.inr (Or.inl ⟨rfl, _, rfl⟩)), trivial⟩⟩⟩⟩ ?_
      exact hK8 _ _ _ _ hr
    · rw [if_neg c11] at hr
      refine r_aload rfl rfl ?_
      refine r_iload rfl rfl ?_
      refine r_iload rfl rfl ?_
      refine r_iload rfl rfl ?_
      obtain ⟨z12, hz12, hr⟩ := gbnd hr
      refine r_invv (a := 50) [.int v2, .int v3, .int v1] rfl rfl rfl rfl rfl (Nat.le_of_ble_eq_true rfl) ⟨rfl, rfl⟩ ?_
      refine s_X3_isAtRest  hz12 ?_
      show gW _ _ _ _ _ 21 [.ref 50, .int v1, .int v2, .int v3] [.int z12.1] (gKn n, gRf f g, z12.2.1, z12.2.2) _
      refine r_if_eq 41 rfl rfl (fun c13 => ?_) (fun c13 => ?_)
      · rw [if_pos c13] at hr
        refine r_iinc (y := (v3 + (nI 1))) [.ref 50, .int v1, .int v2, .int (v3 + (nI 1))] rfl rfl rfl (ginc _ 1) rfl ?_
        refine r_goto 13 rfl rfl ?_
        exact hK13 _ _ _ _ _ hr
      · rw [if_neg c13] at hr
        refine r_aload rfl rfl ?_
        refine r_aload rfl rfl ?_
        refine r_getI (c := 3) (k := 2) rfl rfl ⟨rfl, rfl⟩ ?_
        refine r_if_ne 32 rfl rfl (fun c14 => ?_) (fun c14 => ?_)
        · rw [if_pos c14] at hr
          refine r_aload rfl rfl ?_
          refine r_getI (c := 3) (k := 3) rfl rfl ⟨rfl, rfl⟩ ?_
          exact t_X3_settle_34 hK8 hK13 hr hQ
        · rw [if_neg c14] at hr
          refine r_const rfl (gcst 10) ?_
          refine r_iload rfl rfl ?_
          refine r_imul rfl ?_
          refine r_iload rfl rfl ?_
          refine r_iadd rfl ?_
          refine r_goto 34 rfl rfl ?_
          exact t_X3_settle_34 hK8 hK13 hr hQ
def r_X3_settle_8   : Nat → Int32 → Int32 → (Nat → Nat → Int32) → (Nat → Nat → Int64) → Option gRs
  | 0, _, _, _, _ => none
  | m + 1, v1, v2, I, L => (if v1 ≤ v2 then some (0, I, L) else (r_X3_settle_13 (r_X3_settle_8  m) 100 v1 v2 (nI 0) I L))
set_option maxHeartbeats 4000000 in
set_option maxRecDepth 100000 in
theorem t_X3_settle_8 {n f g d : Nat} {Q : gP} {z : gRs}    : ∀ {m : Nat} {v1 : Int32} {v2 : Int32} {I : Nat → Nat → Int32} {L : Nat → Nat → Int64}, r_X3_settle_8 m v1 v2 I L = some z → Q none (gKn n, gRf f g, z.2.1, z.2.2) → gW gM (d + 1) 0 0 k_X3_settle 8 [.ref 50, .int v1, .int v2, .null] [] (gKn n, gRf f g, I, L) Q := by
  intro m
  induction m with
  | zero =>
    intro v1 v2 I L hr _
    cases hr
  | succ m ih =>
    intro v1 v2 I L hr hQ
    have hK8 : ∀ v1 v2 I L, r_X3_settle_8 m v1 v2 I L = some z → gW gM (d + 1) 0 0 k_X3_settle 8 [.ref 50, .int v1, .int v2, .null] [] (gKn n, gRf f g, I, L) Q := fun v1 v2 I L hr => ih hr hQ
    unfold r_X3_settle_8 at hr
    refine r_iload rfl rfl ?_
    refine r_iload rfl rfl ?_
    refine r_icmp_ge 45 rfl rfl (fun c15 => ?_) (fun c15 => ?_)
    · rw [if_pos c15] at hr
      refine r_vret rfl ?_
      cases hr
      exact hQ
    · rw [if_neg c15] at hr
      refine r_const rfl (gcst 0) ?_
      refine r_istore [.ref 50, .int v1, .int v2, .int (nI 0)] rfl rfl (Nat.le_of_ble_eq_true rfl) rfl ?_
      exact t_X3_settle_13 hK8 hr hQ
def r_X3_settle (I : Nat → Nat → Int32) (L : Nat → Nat → Int64) (a1 : Int32) : Option gRs := (r_X3_settle_8 100 a1 (nI 0) (gu2 (gu2 I 50 2 (nI 0)) 50 3 (-9 : Int32)) L)
set_option maxHeartbeats 4000000 in
set_option maxRecDepth 100000 in
theorem s_X3_settle {n f g d : Nat} {Q : gP} {I : Nat → Nat → Int32} {L : Nat → Nat → Int64} {a1 : Int32} {z : gRs}  (hr : r_X3_settle I L a1 = some z) (hQ : Q none (gKn n, gRf f g, z.2.1, z.2.2)) : gR gM (d + 1) 32 [.ref 50, .int a1] (gKn n, gRf f g, I, L) Q := by
  unfold r_X3_settle at hr
  show gW gM (d + 1) 0 0 k_X3_settle 0 [.ref 50, .int a1, .null, .null] [] (gKn n, gRf f g, I, L) Q
  refine r_aload rfl rfl ?_
  refine r_const rfl (gcst 0) ?_
  refine r_putI (c := 3) (k := 2) rfl rfl ⟨rfl, rfl⟩ ?_
  refine r_aload rfl rfl ?_
  refine r_const rfl (v := -9) (by decide) ?_
  refine r_putI (c := 3) (k := 3) rfl rfl ⟨rfl, rfl⟩ ?_
  refine r_const rfl (gcst 0) ?_
  refine r_istore [.ref 50, .int a1, .int (nI 0), .null] rfl rfl (Nat.le_of_ble_eq_true rfl) rfl ?_
  exact t_X3_settle_8  hr hQ
def i_X4_setNote (I : Nat → Nat → Int32) (L : Nat → Nat → Int64) (a0 : Nat) (a1 : Int32) (a2 : Int32) : Nat → Nat → Int32 := (gu2 I a0 0 (((I a0 0) &&& ((gshl (nI 15) ((nI 4) * a1)) ^^^ (-1 : Int32))) ||| (gshl a2 ((nI 4) * a1))))
set_option maxHeartbeats 4000000 in
set_option maxRecDepth 100000 in
theorem s_X4_setNote {n f g d : Nat} {Q : gP} {I : Nat → Nat → Int32} {L : Nat → Nat → Int64} {a0 : Nat} {a1 : Int32} {a2 : Int32} (h0 : gmo a0 = true) (hQ : Q none (gKn n, gRf f g, i_X4_setNote I L a0 a1 a2, L)) : gR gM (d + 0) 39 [.ref a0, .int a1, .int a2] (gKn n, gRf f g, I, L) Q := by
  unfold i_X4_setNote at hQ
  show gW gM (d + 0) 0 0 k_X4_setNote 0 [.ref a0, .int a1, .int a2] [] (gKn n, gRf f g, I, L) Q
  refine r_aload rfl rfl ?_
  refine r_aload rfl rfl ?_
  refine r_getI (c := 4) (k := 0) rfl (shMom h0) ⟨rfl, rfl⟩ ?_
  refine r_const rfl (gcst 15) ?_
  refine r_const rfl (gcst 4) ?_
  refine r_iload rfl rfl ?_
  refine r_imul rfl ?_
  refine r_ishl rfl ?_
  refine r_const rfl (v := -1) (by decide) ?_
  refine r_ixor rfl ?_
  refine r_iand rfl ?_
  refine r_iload rfl rfl ?_
  refine r_const rfl (gcst 4) ?_
  refine r_iload rfl rfl ?_
  refine r_imul rfl ?_
  refine r_ishl rfl ?_
  refine r_ior rfl ?_
  refine r_putI (c := 4) (k := 0) rfl (shMom h0) ⟨rfl, rfl⟩ ?_
  refine r_vret rfl ?_
  first | exact hQ | simpa only [if_true] using hQ
def r_X4_begin_5 (a0 : Nat) (a1 : Nat)  : Nat → Int32 → (Nat → Nat → Int32) → (Nat → Nat → Int64) → Option gRs
  | 0, _, _, _ => none
  | m + 1, v2, I, L => (if (I a1 0) ≤ v2 then some (0, (gu2 (gu2 (gu2 (gu2 (gu2 (gu2 I a0 1 (nI 0)) a0 2 (nI 0)) a0 3 (nI 0)) a0 4 (nI 0)) a0 5 ((gu2 (gu2 (gu2 (gu2 I a0 1 (nI 0)) a0 2 (nI 0)) a0 3 (nI 0)) a0 4 (nI 0)) a1 4)) a0 7 (nI 0)), (gu2 L a0 6 (lN 0))) else (if gvp v2 5 = true then (r_X4_begin_5 a0 a1 m (v2 + (nI 1)) (i_X4_setNote I L a0 v2 (I (a1 + 1) (gx v2))) L) else none))
set_option maxHeartbeats 4000000 in
set_option maxRecDepth 100000 in
theorem t_X4_begin_5 {n f g d : Nat} {Q : gP} {z : gRs} {a0 : Nat} {a1 : Nat} (h0 : gmo a0 = true) (h1 : gfe a1 = true)  : ∀ {m : Nat} {v2 : Int32} {I : Nat → Nat → Int32} {L : Nat → Nat → Int64}, r_X4_begin_5 a0 a1 m v2 I L = some z → Q none (gKn n, gRf f g, z.2.1, z.2.2) → gW gM (d + 1) 0 0 k_X4_begin 5 [.ref a0, .ref a1, .int v2] [] (gKn n, gRf f g, I, L) Q := by
  intro m
  induction m with
  | zero =>
    intro v2 I L hr _
    cases hr
  | succ m ih =>
    intro v2 I L hr hQ
    have hK5 : ∀ v2 I L, r_X4_begin_5 a0 a1 m v2 I L = some z → gW gM (d + 1) 0 0 k_X4_begin 5 [.ref a0, .ref a1, .int v2] [] (gKn n, gRf f g, I, L) Q := fun v2 I L hr => ih hr hQ
    unfold r_X4_begin_5 at hr
    refine r_iload rfl rfl ?_
    refine r_aload rfl rfl ?_
    refine r_getI (c := 1) (k := 0) rfl (shFen h1) ⟨rfl, rfl⟩ ?_
    refine r_icmp_ge 18 rfl rfl (fun c3 => ?_) (fun c3 => ?_)
    · rw [if_pos c3] at hr
      refine r_aload rfl rfl ?_
      refine r_const rfl (gcst 0) ?_
      refine r_putI (c := 4) (k := 1) rfl (shMom h0) ⟨rfl, rfl⟩ ?_
      refine r_aload rfl rfl ?_
      refine r_const rfl (gcst 0) ?_
      refine r_putI (c := 4) (k := 2) rfl (shMom h0) ⟨rfl, rfl⟩ ?_
      refine r_aload rfl rfl ?_
      refine r_const rfl (gcst 0) ?_
      refine r_putI (c := 4) (k := 3) rfl (shMom h0) ⟨rfl, rfl⟩ ?_
      refine r_aload rfl rfl ?_
      refine r_const rfl (gcst 0) ?_
      refine r_putI (c := 4) (k := 4) rfl (shMom h0) ⟨rfl, rfl⟩ ?_
      refine r_aload rfl rfl ?_
      refine r_aload rfl rfl ?_
      refine r_getI (c := 1) (k := 4) rfl (shFen h1) ⟨rfl, rfl⟩ ?_
      refine r_putI (c := 4) (k := 5) rfl (shMom h0) ⟨rfl, rfl⟩ ?_
      refine r_aload rfl rfl ?_
      refine r_lconst (v := lN 0) rfl rfl ?_
      refine r_putL (c := 4) (k := 6) rfl (shMom h0) ⟨rfl, rfl⟩ ?_
      refine r_aload rfl rfl ?_
      refine r_const rfl (gcst 0) ?_
      refine r_putI (c := 4) (k := 7) rfl (shMom h0) ⟨rfl, rfl⟩ ?_
      refine r_vret rfl ?_
      cases hr
      exact hQ
    · rw [if_neg c3] at hr
      refine r_aload rfl rfl ?_
      refine r_iload rfl rfl ?_
      refine r_aload rfl rfl ?_
      refine r_getR (c := 1) (k := 5) (v := (a1 + 1)) rfl (shFen h1) ⟨rfl, rfl⟩ (rfFen5 h1) ?_
      refine r_iload rfl rfl ?_
      obtain ⟨b4, hr⟩ := gopt hr
      refine r_iaload (n := 5) rfl (shFen5 h1) (gvp_in b4) ?_
      refine r_invv (a := a0) [.int v2, .int (I (a1 + 1) (gx v2))] rfl rfl (shMom h0) rfl rfl (Nat.le_of_ble_eq_true rfl) ⟨rfl, rfl⟩ ?_
      refine s_X4_setNote h0 ?_
      show gW _ _ _ _ _ 16 [.ref a0, .ref a1, .int v2] [] (gKn n, gRf f g, (i_X4_setNote I L a0 v2 (I (a1 + 1) (gx v2))), L) _
      refine r_iinc (y := (v2 + (nI 1))) [.ref a0, .ref a1, .int (v2 + (nI 1))] rfl rfl rfl (ginc _ 1) rfl ?_
      refine r_goto 5 rfl rfl ?_
      exact hK5 _ _ _ hr
def r_X4_begin (I : Nat → Nat → Int32) (L : Nat → Nat → Int64) (a0 : Nat) (a1 : Nat) : Option gRs := (r_X4_begin_5 a0 a1 100 (nI 0) (gu2 I a0 0 (nI 0)) L)
set_option maxHeartbeats 4000000 in
set_option maxRecDepth 100000 in
theorem s_X4_begin {n f g d : Nat} {Q : gP} {I : Nat → Nat → Int32} {L : Nat → Nat → Int64} {a0 : Nat} {a1 : Nat} {z : gRs} (h0 : gmo a0 = true) (h1 : gfe a1 = true) (hr : r_X4_begin I L a0 a1 = some z) (hQ : Q none (gKn n, gRf f g, z.2.1, z.2.2)) : gR gM (d + 1) 36 [.ref a0, .ref a1] (gKn n, gRf f g, I, L) Q := by
  unfold r_X4_begin at hr
  show gW gM (d + 1) 0 0 k_X4_begin 0 [.ref a0, .ref a1, .null] [] (gKn n, gRf f g, I, L) Q
  refine r_aload rfl rfl ?_
  refine r_const rfl (gcst 0) ?_
  refine r_putI (c := 4) (k := 0) rfl (shMom h0) ⟨rfl, rfl⟩ ?_
  refine r_const rfl (gcst 0) ?_
  refine r_istore [.ref a0, .ref a1, .int (nI 0)] rfl rfl (Nat.le_of_ble_eq_true rfl) rfl ?_
  exact t_X4_begin_5 h0 h1 hr hQ
def f_J6_bitCount_0f7a4 (I : Nat → Nat → Int32) (L : Nat → Nat → Int64) (a0 : Int32) : Int32 := ((((((((a0 - ((gushr a0 (nI 1)) &&& (nI 1431655765))) &&& (nI 858993459)) + ((gushr (a0 - ((gushr a0 (nI 1)) &&& (nI 1431655765))) (nI 2)) &&& (nI 858993459))) + (gushr (((a0 - ((gushr a0 (nI 1)) &&& (nI 1431655765))) &&& (nI 858993459)) + ((gushr (a0 - ((gushr a0 (nI 1)) &&& (nI 1431655765))) (nI 2)) &&& (nI 858993459))) (nI 4))) &&& (nI 252645135)) + (gushr (((((a0 - ((gushr a0 (nI 1)) &&& (nI 1431655765))) &&& (nI 858993459)) + ((gushr (a0 - ((gushr a0 (nI 1)) &&& (nI 1431655765))) (nI 2)) &&& (nI 858993459))) + (gushr (((a0 - ((gushr a0 (nI 1)) &&& (nI 1431655765))) &&& (nI 858993459)) + ((gushr (a0 - ((gushr a0 (nI 1)) &&& (nI 1431655765))) (nI 2)) &&& (nI 858993459))) (nI 4))) &&& (nI 252645135)) (nI 8))) + (gushr ((((((a0 - ((gushr a0 (nI 1)) &&& (nI 1431655765))) &&& (nI 858993459)) + ((gushr (a0 - ((gushr a0 (nI 1)) &&& (nI 1431655765))) (nI 2)) &&& (nI 858993459))) + (gushr (((a0 - ((gushr a0 (nI 1)) &&& (nI 1431655765))) &&& (nI 858993459)) + ((gushr (a0 - ((gushr a0 (nI 1)) &&& (nI 1431655765))) (nI 2)) &&& (nI 858993459))) (nI 4))) &&& (nI 252645135)) + (gushr (((((a0 - ((gushr a0 (nI 1)) &&& (nI 1431655765))) &&& (nI 858993459)) + ((gushr (a0 - ((gushr a0 (nI 1)) &&& (nI 1431655765))) (nI 2)) &&& (nI 858993459))) + (gushr (((a0 - ((gushr a0 (nI 1)) &&& (nI 1431655765))) &&& (nI 858993459)) + ((gushr (a0 - ((gushr a0 (nI 1)) &&& (nI 1431655765))) (nI 2)) &&& (nI 858993459))) (nI 4))) &&& (nI 252645135)) (nI 8))) (nI 16))) &&& (nI 63))
set_option maxHeartbeats 4000000 in
set_option maxRecDepth 100000 in
theorem s_J6_bitCount_0f7a4 {n f g d : Nat} {Q : gP} {I : Nat → Nat → Int32} {L : Nat → Nat → Int64} {a0 : Int32}  (hQ : Q (some (.int (f_J6_bitCount_0f7a4 I L a0))) (gKn n, gRf f g, I, L)) : gR gM (d + 0) 177 [.int a0] (gKn n, gRf f g, I, L) Q := by
  unfold f_J6_bitCount_0f7a4 at hQ
  show gW gM (d + 0) 0 0 k_J6_bitCount_0f7a4 0 [.int a0] [] (gKn n, gRf f g, I, L) Q
  refine r_iload rfl rfl ?_
  refine r_iload rfl rfl ?_
  refine r_const rfl (gcst 1) ?_
  refine r_iushr rfl ?_
  refine r_const rfl (gcst 1431655765) ?_
  refine r_iand rfl ?_
  refine r_isub rfl ?_
  refine r_istore [.int (a0 - ((gushr a0 (nI 1)) &&& (nI 1431655765)))] rfl rfl (Nat.le_of_ble_eq_true rfl) rfl ?_
  refine r_iload rfl rfl ?_
  refine r_const rfl (gcst 858993459) ?_
  refine r_iand rfl ?_
  refine r_iload rfl rfl ?_
  refine r_const rfl (gcst 2) ?_
  refine r_iushr rfl ?_
  refine r_const rfl (gcst 858993459) ?_
  refine r_iand rfl ?_
  refine r_iadd rfl ?_
  refine r_istore [.int (((a0 - ((gushr a0 (nI 1)) &&& (nI 1431655765))) &&& (nI 858993459)) + ((gushr (a0 - ((gushr a0 (nI 1)) &&& (nI 1431655765))) (nI 2)) &&& (nI 858993459)))] rfl rfl (Nat.le_of_ble_eq_true rfl) rfl ?_
  refine r_iload rfl rfl ?_
  refine r_iload rfl rfl ?_
  refine r_const rfl (gcst 4) ?_
  refine r_iushr rfl ?_
  refine r_iadd rfl ?_
  refine r_const rfl (gcst 252645135) ?_
  refine r_iand rfl ?_
  refine r_istore [.int (((((a0 - ((gushr a0 (nI 1)) &&& (nI 1431655765))) &&& (nI 858993459)) + ((gushr (a0 - ((gushr a0 (nI 1)) &&& (nI 1431655765))) (nI 2)) &&& (nI 858993459))) + (gushr (((a0 - ((gushr a0 (nI 1)) &&& (nI 1431655765))) &&& (nI 858993459)) + ((gushr (a0 - ((gushr a0 (nI 1)) &&& (nI 1431655765))) (nI 2)) &&& (nI 858993459))) (nI 4))) &&& (nI 252645135))] rfl rfl (Nat.le_of_ble_eq_true rfl) rfl ?_
  refine r_iload rfl rfl ?_
  refine r_iload rfl rfl ?_
  refine r_const rfl (gcst 8) ?_
  refine r_iushr rfl ?_
  refine r_iadd rfl ?_
  refine r_istore [.int ((((((a0 - ((gushr a0 (nI 1)) &&& (nI 1431655765))) &&& (nI 858993459)) + ((gushr (a0 - ((gushr a0 (nI 1)) &&& (nI 1431655765))) (nI 2)) &&& (nI 858993459))) + (gushr (((a0 - ((gushr a0 (nI 1)) &&& (nI 1431655765))) &&& (nI 858993459)) + ((gushr (a0 - ((gushr a0 (nI 1)) &&& (nI 1431655765))) (nI 2)) &&& (nI 858993459))) (nI 4))) &&& (nI 252645135)) + (gushr (((((a0 - ((gushr a0 (nI 1)) &&& (nI 1431655765))) &&& (nI 858993459)) + ((gushr (a0 - ((gushr a0 (nI 1)) &&& (nI 1431655765))) (nI 2)) &&& (nI 858993459))) + (gushr (((a0 - ((gushr a0 (nI 1)) &&& (nI 1431655765))) &&& (nI 858993459)) + ((gushr (a0 - ((gushr a0 (nI 1)) &&& (nI 1431655765))) (nI 2)) &&& (nI 858993459))) (nI 4))) &&& (nI 252645135)) (nI 8)))] rfl rfl (Nat.le_of_ble_eq_true rfl) rfl ?_
  refine r_iload rfl rfl ?_
  refine r_iload rfl rfl ?_
  refine r_const rfl (gcst 16) ?_
  refine r_iushr rfl ?_
  refine r_iadd rfl ?_
  refine r_istore [.int (((((((a0 - ((gushr a0 (nI 1)) &&& (nI 1431655765))) &&& (nI 858993459)) + ((gushr (a0 - ((gushr a0 (nI 1)) &&& (nI 1431655765))) (nI 2)) &&& (nI 858993459))) + (gushr (((a0 - ((gushr a0 (nI 1)) &&& (nI 1431655765))) &&& (nI 858993459)) + ((gushr (a0 - ((gushr a0 (nI 1)) &&& (nI 1431655765))) (nI 2)) &&& (nI 858993459))) (nI 4))) &&& (nI 252645135)) + (gushr (((((a0 - ((gushr a0 (nI 1)) &&& (nI 1431655765))) &&& (nI 858993459)) + ((gushr (a0 - ((gushr a0 (nI 1)) &&& (nI 1431655765))) (nI 2)) &&& (nI 858993459))) + (gushr (((a0 - ((gushr a0 (nI 1)) &&& (nI 1431655765))) &&& (nI 858993459)) + ((gushr (a0 - ((gushr a0 (nI 1)) &&& (nI 1431655765))) (nI 2)) &&& (nI 858993459))) (nI 4))) &&& (nI 252645135)) (nI 8))) + (gushr ((((((a0 - ((gushr a0 (nI 1)) &&& (nI 1431655765))) &&& (nI 858993459)) + ((gushr (a0 - ((gushr a0 (nI 1)) &&& (nI 1431655765))) (nI 2)) &&& (nI 858993459))) + (gushr (((a0 - ((gushr a0 (nI 1)) &&& (nI 1431655765))) &&& (nI 858993459)) + ((gushr (a0 - ((gushr a0 (nI 1)) &&& (nI 1431655765))) (nI 2)) &&& (nI 858993459))) (nI 4))) &&& (nI 252645135)) + (gushr (((((a0 - ((gushr a0 (nI 1)) &&& (nI 1431655765))) &&& (nI 858993459)) + ((gushr (a0 - ((gushr a0 (nI 1)) &&& (nI 1431655765))) (nI 2)) &&& (nI 858993459))) + (gushr (((a0 - ((gushr a0 (nI 1)) &&& (nI 1431655765))) &&& (nI 858993459)) + ((gushr (a0 - ((gushr a0 (nI 1)) &&& (nI 1431655765))) (nI 2)) &&& (nI 858993459))) (nI 4))) &&& (nI 252645135)) (nI 8))) (nI 16)))] rfl rfl (Nat.le_of_ble_eq_true rfl) rfl ?_
  refine r_iload rfl rfl ?_
  refine r_const rfl (gcst 63) ?_
  refine r_iand rfl ?_
  refine r_iret rfl ?_
  first | exact hQ | simpa only [if_true] using hQ
def f_X4_homeCount (I : Nat → Nat → Int32) (L : Nat → Nat → Int64) (a0 : Nat) : Int32 := (f_J6_bitCount_0f7a4 I L (I a0 4))
set_option maxHeartbeats 4000000 in
set_option maxRecDepth 100000 in
theorem s_X4_homeCount {n f g d : Nat} {Q : gP} {I : Nat → Nat → Int32} {L : Nat → Nat → Int64} {a0 : Nat} (h0 : gmo a0 = true) (hQ : Q (some (.int (f_X4_homeCount I L a0))) (gKn n, gRf f g, I, L)) : gR gM (d + 1) 43 [.ref a0] (gKn n, gRf f g, I, L) Q := by
  unfold f_X4_homeCount at hQ
  show gW gM (d + 1) 0 0 k_X4_homeCount 0 [.ref a0] [] (gKn n, gRf f g, I, L) Q
  refine r_aload rfl rfl ?_
  refine r_getI (c := 4) (k := 4) rfl (shMom h0) ⟨rfl, rfl⟩ ?_
  refine r_invs [.int (I a0 4)] rfl rfl rfl rfl (Nat.le_of_ble_eq_true rfl) ⟨rfl, rfl⟩ ?_
  refine s_J6_bitCount_0f7a4  ?_
  show gW _ _ _ _ _ 3 [.ref a0] [.int (f_J6_bitCount_0f7a4 I L (I a0 4))] (gKn n, gRf f g, I, L) _
  refine r_iret rfl ?_
  first | exact hQ | simpa only [if_true] using hQ
def i_X5_take (I : Nat → Nat → Int32) (L : Nat → Nat → Int64) (a1 : Int32) (a2 : Int32) : Nat → Nat → Int32 := (if a1 ≤ (I 44 2) then I else (gu2 (gu2 I 44 2 a1) 44 3 a2))
set_option maxHeartbeats 4000000 in
set_option maxRecDepth 100000 in
theorem s_X5_take {n f g d : Nat} {Q : gP} {I : Nat → Nat → Int32} {L : Nat → Nat → Int64} {a1 : Int32} {a2 : Int32}  (hQ : Q none (gKn n, gRf f g, i_X5_take I L a1 a2, L)) : gR gM (d + 0) 49 [.ref 44, .int a1, .int a2] (gKn n, gRf f g, I, L) Q := by
  unfold i_X5_take at hQ
  show gW gM (d + 0) 0 0 k_X5_take 0 [.ref 44, .int a1, .int a2] [] (gKn n, gRf f g, I, L) Q
  refine r_iload rfl rfl ?_
  refine r_aload rfl rfl ?_
  refine r_getI (c := 5) (k := 2) rfl rfl ⟨rfl, rfl⟩ ?_
  have j2 : gW gM (d + 0) 0 0 k_X5_take 10 [.ref 44, .int a1, .int a2] [] (gKn n, gRf f g, (if a1 ≤ (I 44 2) then I else (gu2 (gu2 I 44 2 a1) 44 3 a2)), L) Q := by
    refine r_vret rfl ?_
    first | exact hQ | simpa only [if_true] using hQ
  refine r_icmp_le 10 rfl rfl (fun c1 => ?_) (fun c1 => ?_)
  · try simp only [if_pos c1] at hQ
    simpa only [if_pos c1] using j2
  · try simp only [if_neg c1] at hQ
    refine r_aload rfl rfl ?_
    refine r_iload rfl rfl ?_
    refine r_putI (c := 5) (k := 2) rfl rfl ⟨rfl, rfl⟩ ?_
    refine r_aload rfl rfl ?_
    refine r_iload rfl rfl ?_
    refine r_putI (c := 5) (k := 3) rfl rfl ⟨rfl, rfl⟩ ?_
    simpa only [if_neg c1] using j2
def r_X5_tryRows_83 (REC : (Nat → Nat → Int32) → (Nat → Nat → Int64) → Nat → Nat → Int32 → Int32 → Int32 → Option gRs) (a1 : Nat) (a2 : Nat) (K2 : Int32 → Int32 → Int32 → Int32 → (Nat → Nat → Int32) → (Nat → Nat → Int64) → Option gRs) (v3 : Int32) (v4 : Int32) (v5 : Int32) (v6 : Int32) (I : Nat → Nat → Int32) (L : Nat → Nat → Int64) : Option gRs := (K2 v3 v4 v5 (v6 + (nI 1)) I L)
set_option maxHeartbeats 4000000 in
set_option maxRecDepth 100000 in
theorem t_X5_tryRows_83 {n f g d : Nat} {Q : gP} {z : gRs} {a1 : Nat} {a2 : Nat} {REC : (Nat → Nat → Int32) → (Nat → Nat → Int64) → Nat → Nat → Int32 → Int32 → Int32 → Option gRs} (hREC : ∀ {Q : gP} {z : gRs} I L a1 a2 a3 a4 a5, gfe a1 = true → gmo a2 = true → REC I L a1 a2 a3 a4 a5 = some z → Q none (gKn n, gRf f g, z.2.1, z.2.2) → gR gM (d + 3) 48 [.ref 44, .ref a1, .ref a2, .int a3, .int a4, .int a5] (gKn n, gRf f g, I, L) Q) (h1 : gfe a1 = true) (h2 : gmo a2 = true) {K2 : Int32 → Int32 → Int32 → Int32 → (Nat → Nat → Int32) → (Nat → Nat → Int64) → Option gRs} (hK2 : ∀ v3 v4 v5 v6 I L, K2 v3 v4 v5 v6 I L = some z → gW gM (d + 4) 0 0 k_X5_tryRows 2 [.ref 44, .ref a1, .ref a2, .int v3, .int v4, .int v5, .int v6, .null, .null, .null] [] (gKn n, gRf f g, I, L) Q) {v3 : Int32} {v4 : Int32} {v5 : Int32} {v6 : Int32} {I : Nat → Nat → Int32} {L : Nat → Nat → Int64} (hr : r_X5_tryRows_83 REC a1 a2 K2 v3 v4 v5 v6 I L = some z) (hQ : Q none (gKn n, gRf f g, z.2.1, z.2.2)) : gW gM (d + 4) 0 0 k_X5_tryRows 83 [.ref 44, .ref a1, .ref a2, .int v3, .int v4, .int v5, .int v6, .null, .null, .null] [] (gKn n, gRf f g, I, L) Q := by
  unfold r_X5_tryRows_83 at hr
  refine r_iinc (y := (v6 + (nI 1))) [.ref 44, .ref a1, .ref a2, .int v3, .int v4, .int v5, .int (v6 + (nI 1)), .null, .null, .null] rfl rfl rfl (ginc _ 1) rfl ?_
  refine r_goto 2 rfl rfl ?_
  exact hK2 _ _ _ _ _ _ hr
def r_X5_tryRows_81 (REC : (Nat → Nat → Int32) → (Nat → Nat → Int64) → Nat → Nat → Int32 → Int32 → Int32 → Option gRs) (a1 : Nat) (a2 : Nat) (K2 : Int32 → Int32 → Int32 → Int32 → (Nat → Nat → Int32) → (Nat → Nat → Int64) → Option gRs) (K13 : Int32 → Int32 → Int32 → Int32 → Int32 → (Nat → Nat → Int32) → (Nat → Nat → Int64) → Option gRs) (v3 : Int32) (v4 : Int32) (v5 : Int32) (v6 : Int32) (v7 : Int32) (I : Nat → Nat → Int32) (L : Nat → Nat → Int64) : Option gRs := (K13 v3 v4 v5 v6 (v7 + (nI 1)) I L)
set_option maxHeartbeats 4000000 in
set_option maxRecDepth 100000 in
theorem t_X5_tryRows_81 {n f g d : Nat} {Q : gP} {z : gRs} {a1 : Nat} {a2 : Nat} {REC : (Nat → Nat → Int32) → (Nat → Nat → Int64) → Nat → Nat → Int32 → Int32 → Int32 → Option gRs} (hREC : ∀ {Q : gP} {z : gRs} I L a1 a2 a3 a4 a5, gfe a1 = true → gmo a2 = true → REC I L a1 a2 a3 a4 a5 = some z → Q none (gKn n, gRf f g, z.2.1, z.2.2) → gR gM (d + 3) 48 [.ref 44, .ref a1, .ref a2, .int a3, .int a4, .int a5] (gKn n, gRf f g, I, L) Q) (h1 : gfe a1 = true) (h2 : gmo a2 = true) {K2 : Int32 → Int32 → Int32 → Int32 → (Nat → Nat → Int32) → (Nat → Nat → Int64) → Option gRs} (hK2 : ∀ v3 v4 v5 v6 I L, K2 v3 v4 v5 v6 I L = some z → gW gM (d + 4) 0 0 k_X5_tryRows 2 [.ref 44, .ref a1, .ref a2, .int v3, .int v4, .int v5, .int v6, .null, .null, .null] [] (gKn n, gRf f g, I, L) Q) {K13 : Int32 → Int32 → Int32 → Int32 → Int32 → (Nat → Nat → Int32) → (Nat → Nat → Int64) → Option gRs} (hK13 : ∀ v3 v4 v5 v6 v7 I L, K13 v3 v4 v5 v6 v7 I L = some z → gW gM (d + 4) 0 0 k_X5_tryRows 13 [.ref 44, .ref a1, .ref a2, .int v3, .int v4, .int v5, .int v6, .int v7, .null, .null] [] (gKn n, gRf f g, I, L) Q) {v3 : Int32} {v4 : Int32} {v5 : Int32} {v6 : Int32} {v7 : Int32} {I : Nat → Nat → Int32} {L : Nat → Nat → Int64} (hr : r_X5_tryRows_81 REC a1 a2 K2 K13 v3 v4 v5 v6 v7 I L = some z) (hQ : Q none (gKn n, gRf f g, z.2.1, z.2.2)) : gW gM (d + 4) 0 0 k_X5_tryRows 81 [.ref 44, .ref a1, .ref a2, .int v3, .int v4, .int v5, .int v6, .int v7, .null, .null] [] (gKn n, gRf f g, I, L) Q := by
  unfold r_X5_tryRows_81 at hr
  refine r_iinc (y := (v7 + (nI 1))) [.ref 44, .ref a1, .ref a2, .int v3, .int v4, .int v5, .int v6, .int (v7 + (nI 1)), .null, .null] rfl rfl rfl (ginc _ 1) rfl ?_
  refine r_goto 13 rfl rfl ?_
  exact hK13 _ _ _ _ _ _ _ hr
def r_X5_tryRows_13 (REC : (Nat → Nat → Int32) → (Nat → Nat → Int64) → Nat → Nat → Int32 → Int32 → Int32 → Option gRs) (a1 : Nat) (a2 : Nat) (K2 : Int32 → Int32 → Int32 → Int32 → (Nat → Nat → Int32) → (Nat → Nat → Int64) → Option gRs) : Nat → Int32 → Int32 → Int32 → Int32 → Int32 → (Nat → Nat → Int32) → (Nat → Nat → Int64) → Option gRs
  | 0, _, _, _, _, _, _, _ => none
  | m + 1, v3, v4, v5, v6, v7, I, L => (if (I a1 1) ≤ v7 then (r_X5_tryRows_83 REC a1 a2 K2 v3 v4 v5 v6 I L) else (if (nI 4) ≤ (I 44 2) then (r_X5_tryRows_83 REC a1 a2 K2 v3 v4 v5 v6 I L) else (if (nI 1) < v4 then (if gvp (v4 - (nI 2)) 2 = true then ((r_X1_sendHome (i_X4_become I L (48 + gx (v4 - (nI 2))) a2) (l_X4_become I L (48 + gx (v4 - (nI 2))) a2) a1 (48 + gx (v4 - (nI 2))) v6 v7 46).bind (fun z35 => ((REC z35.2.1 z35.2.2 a1 (48 + gx (v4 - (nI 2))) v3 (v4 - (nI 1)) (((((nI 100) * v5) + ((nI 10) * (v6 + (nI 1)))) + v7) + (nI 1))).bind (fun z36 => (r_X5_tryRows_81 REC a1 a2 K2 (r_X5_tryRows_13 REC a1 a2 K2 m) v3 v4 v5 v6 v7 z36.2.1 z36.2.2))))) else none) else ((r_X1_sing I L a1 a2 v6 v7 46).bind (fun z37 => ((r_X1_fitBehind z37.2.1 z37.2.2 a1 a2 46 v3).bind (fun z38 => (r_X5_tryRows_81 REC a1 a2 K2 (r_X5_tryRows_13 REC a1 a2 K2 m) v3 v4 v5 v6 v7 (i_X5_take z38.2.1 z38.2.2 z38.1 (((((nI 100) * v5) + ((nI 10) * (v6 + (nI 1)))) + v7) + (nI 1))) z38.2.2))))))))
set_option maxHeartbeats 4000000 in
set_option maxRecDepth 100000 in
theorem t_X5_tryRows_13 {n f g d : Nat} {Q : gP} {z : gRs} {a1 : Nat} {a2 : Nat} {REC : (Nat → Nat → Int32) → (Nat → Nat → Int64) → Nat → Nat → Int32 → Int32 → Int32 → Option gRs} (hREC : ∀ {Q : gP} {z : gRs} I L a1 a2 a3 a4 a5, gfe a1 = true → gmo a2 = true → REC I L a1 a2 a3 a4 a5 = some z → Q none (gKn n, gRf f g, z.2.1, z.2.2) → gR gM (d + 3) 48 [.ref 44, .ref a1, .ref a2, .int a3, .int a4, .int a5] (gKn n, gRf f g, I, L) Q) (h1 : gfe a1 = true) (h2 : gmo a2 = true) {K2 : Int32 → Int32 → Int32 → Int32 → (Nat → Nat → Int32) → (Nat → Nat → Int64) → Option gRs} (hK2 : ∀ v3 v4 v5 v6 I L, K2 v3 v4 v5 v6 I L = some z → gW gM (d + 4) 0 0 k_X5_tryRows 2 [.ref 44, .ref a1, .ref a2, .int v3, .int v4, .int v5, .int v6, .null, .null, .null] [] (gKn n, gRf f g, I, L) Q) : ∀ {m : Nat} {v3 : Int32} {v4 : Int32} {v5 : Int32} {v6 : Int32} {v7 : Int32} {I : Nat → Nat → Int32} {L : Nat → Nat → Int64}, r_X5_tryRows_13 REC a1 a2 K2 m v3 v4 v5 v6 v7 I L = some z → Q none (gKn n, gRf f g, z.2.1, z.2.2) → gW gM (d + 4) 0 0 k_X5_tryRows 13 [.ref 44, .ref a1, .ref a2, .int v3, .int v4, .int v5, .int v6, .int v7, .null, .null] [] (gKn n, gRf f g, I, L) Q := by
  intro m
  induction m with
  | zero =>
    intro v3 v4 v5 v6 v7 I L hr _
    cases hr
  | succ m ih =>
    intro v3 v4 v5 v6 v7 I L hr hQ
    have hK13 : ∀ v3 v4 v5 v6 v7 I L, r_X5_tryRows_13 REC a1 a2 K2 m v3 v4 v5 v6 v7 I L = some z → gW gM (d + 4) 0 0 k_X5_tryRows 13 [.ref 44, .ref a1, .ref a2, .int v3, .int v4, .int v5, .int v6, .int v7, .null, .null] [] (gKn n, gRf f g, I, L) Q := fun v3 v4 v5 v6 v7 I L hr => ih hr hQ
    unfold r_X5_tryRows_13 at hr
    refine r_iload rfl rfl ?_
    refine r_aload rfl rfl ?_
    refine r_getI (c := 1) (k := 1) rfl (shFen h1) ⟨rfl, rfl⟩ ?_
    refine r_icmp_ge 83 rfl rfl (fun c31 => ?_) (fun c31 => ?_)
    · rw [if_pos c31] at hr
      refine gforget (ls := [.ref 44, .ref a1, .ref a2, .int v3, .int v4, .int v5, .int v6, .null, .null, .null]) ⟨(Or.inl rfl), ⟨(Or.inl rfl), ⟨(Or.inl rfl), ⟨(Or.inl rfl), ⟨(Or.inl rfl), ⟨(Or.inl rfl), ⟨(Or.inl rfl), ⟨(Or.inr (Or.inl ⟨rfl, _, rfl⟩)), ⟨(Or.inl rfl), ⟨(Or.inl rfl), trivial⟩⟩⟩⟩⟩⟩⟩⟩⟩⟩ ?_
      exact t_X5_tryRows_83 hREC h1 h2 hK2 hr hQ
    · rw [if_neg c31] at hr
      refine r_aload rfl rfl ?_
      refine r_getI (c := 5) (k := 2) rfl rfl ⟨rfl, rfl⟩ ?_
      refine r_const rfl (gcst 4) ?_
      refine r_icmp_ge 83 rfl rfl (fun c32 => ?_) (fun c32 => ?_)
      · rw [if_pos c32] at hr
        refine gforget (ls := [.ref 44, .ref a1, .ref a2, .int v3, .int v4, .int v5, .int v6, .null, .null, .null]) ⟨(Or.inl rfl), ⟨(Or.inl rfl), ⟨(Or.inl rfl), ⟨(Or.inl rfl), ⟨(Or.inl rfl), ⟨(Or.inl rfl), ⟨(Or.inl rfl), ⟨(Or.inr (Or.inl ⟨rfl, _, rfl⟩)), ⟨(Or.inl rfl), ⟨(Or.inl rfl), trivial⟩⟩⟩⟩⟩⟩⟩⟩⟩⟩ ?_
        exact t_X5_tryRows_83 hREC h1 h2 hK2 hr hQ
      · rw [if_neg c32] at hr
        refine r_const rfl (gcst 100) ?_
        refine r_iload rfl rfl ?_
        refine r_imul rfl ?_
        refine r_const rfl (gcst 10) ?_
        refine r_iload rfl rfl ?_
        refine r_const rfl (gcst 1) ?_
        refine r_iadd rfl ?_
        refine r_imul rfl ?_
        refine r_iadd rfl ?_
        refine r_iload rfl rfl ?_
        refine r_iadd rfl ?_
        refine r_const rfl (gcst 1) ?_
        refine r_iadd rfl ?_
        refine r_istore [.ref 44, .ref a1, .ref a2, .int v3, .int v4, .int v5, .int v6, .int v7, .int (((((nI 100) * v5) + ((nI 10) * (v6 + (nI 1)))) + v7) + (nI 1)), .null] rfl rfl (Nat.le_of_ble_eq_true rfl) rfl ?_
        refine r_iload rfl rfl ?_
        refine r_const rfl (gcst 1) ?_
        refine r_icmp_gt 55 rfl rfl (fun c33 => ?_) (fun c33 => ?_)
        · rw [if_pos c33] at hr
          refine r_aload rfl rfl ?_
          refine r_getR (c := 5) (k := 0) (v := 45) rfl rfl ⟨rfl, rfl⟩ rfl ?_
          refine r_iload rfl rfl ?_
          refine r_const rfl (gcst 2) ?_
          refine r_isub rfl ?_
          obtain ⟨b34, hr⟩ := gopt hr
          refine r_aaload (n := 2) (v := (48 + gx (v4 - (nI 2)))) rfl rfl (gvp_in b34) (rfTried (gvp_in b34)) ?_
          refine r_astore [.ref 44, .ref a1, .ref a2, .int v3, .int v4, .int v5, .int v6, .int v7, .int (((((nI 100) * v5) + ((nI 10) * (v6 + (nI 1)))) + v7) + (nI 1)), .ref (48 + gx (v4 - (nI 2)))] rfl rfl (Nat.le_of_ble_eq_true rfl) rfl ?_
          refine r_aload rfl rfl ?_
          refine r_aload rfl rfl ?_
          refine r_invv (a := (48 + gx (v4 - (nI 2)))) [.ref a2] rfl rfl (shMom (moTried (gvp_in b34))) rfl rfl (Nat.le_of_ble_eq_true rfl) ⟨rfl, rfl⟩ ?_
          refine s_X4_become (moTried (gvp_in b34)) h2 ?_
          show gW _ _ _ _ _ 65 [.ref 44, .ref a1, .ref a2, .int v3, .int v4, .int v5, .int v6, .int v7, .int (((((nI 100) * v5) + ((nI 10) * (v6 + (nI 1)))) + v7) + (nI 1)), .ref (48 + gx (v4 - (nI 2)))] [] (gKn n, gRf f g, (i_X4_become I L (48 + gx (v4 - (nI 2))) a2), (l_X4_become I L (48 + gx (v4 - (nI 2))) a2)) _
          refine r_aload rfl rfl ?_
          refine r_aload rfl rfl ?_
          refine r_iload rfl rfl ?_
          refine r_iload rfl rfl ?_
          refine r_aload rfl rfl ?_
          refine r_getR (c := 5) (k := 1) (v := 46) rfl rfl ⟨rfl, rfl⟩ rfl ?_
          obtain ⟨z35, hz35, hr⟩ := gbnd hr
          refine r_invv (a := a1) [.ref (48 + gx (v4 - (nI 2))), .int v6, .int v7, .ref 46] rfl rfl (shFen h1) rfl rfl (Nat.le_of_ble_eq_true rfl) ⟨rfl, rfl⟩ ?_
          refine s_X1_sendHome h1 (moTried (gvp_in b34)) rfl hz35 ?_
          show gW _ _ _ _ _ 72 [.ref 44, .ref a1, .ref a2, .int v3, .int v4, .int v5, .int v6, .int v7, .int (((((nI 100) * v5) + ((nI 10) * (v6 + (nI 1)))) + v7) + (nI 1)), .ref (48 + gx (v4 - (nI 2)))] [] (gKn n, gRf f g, z35.2.1, z35.2.2) _
          refine r_aload rfl rfl ?_
          refine r_aload rfl rfl ?_
          refine r_aload rfl rfl ?_
          refine r_iload rfl rfl ?_
          refine r_iload rfl rfl ?_
          refine r_const rfl (gcst 1) ?_
          refine r_isub rfl ?_
          refine r_iload rfl rfl ?_
          obtain ⟨z36, hz36, hr⟩ := gbnd hr
          refine r_invs [.ref 44, .ref a1, .ref (48 + gx (v4 - (nI 2))), .int v3, .int (v4 - (nI 1)), .int (((((nI 100) * v5) + ((nI 10) * (v6 + (nI 1)))) + v7) + (nI 1))] rfl rfl rfl rfl (Nat.le_of_ble_eq_true rfl) ⟨rfl, rfl⟩ ?_
          refine hREC _ _ _ _ _ _ _ h1 (moTried (gvp_in b34)) hz36 ?_
          show gW _ _ _ _ _ 81 [.ref 44, .ref a1, .ref a2, .int v3, .int v4, .int v5, .int v6, .int v7, .int (((((nI 100) * v5) + ((nI 10) * (v6 + (nI 1)))) + v7) + (nI 1)), .ref (48 + gx (v4 - (nI 2)))] [] (gKn n, gRf f g, z36.2.1, z36.2.2) _
          refine gforget (ls := [.ref 44, .ref a1, .ref a2, .int v3, .int v4, .int v5, .int v6, .int v7, .null, .null]) ⟨(Or.inl rfl), ⟨(Or.inl rfl), ⟨(Or.inl rfl), ⟨(Or.inl rfl), ⟨(Or.inl rfl), ⟨(Or.inl rfl), ⟨(Or.inl rfl), ⟨(Or.inl rfl), ⟨(Or.inr (Or.inl ⟨rfl, _, rfl⟩)), ⟨(Or.inr (Or.inr ⟨rfl, _, rfl⟩)), trivial⟩⟩⟩⟩⟩⟩⟩⟩⟩⟩ ?_
          exact t_X5_tryRows_81 hREC h1 h2 hK2 hK13 hr hQ
        · rw [if_neg c33] at hr
          refine r_aload rfl rfl ?_
          refine r_aload rfl rfl ?_
          refine r_iload rfl rfl ?_
          refine r_iload rfl rfl ?_
          refine r_aload rfl rfl ?_
          refine r_getR (c := 5) (k := 1) (v := 46) rfl rfl ⟨rfl, rfl⟩ rfl ?_
          obtain ⟨z37, hz37, hr⟩ := gbnd hr
          refine r_invv (a := a1) [.ref a2, .int v6, .int v7, .ref 46] rfl rfl (shFen h1) rfl rfl (Nat.le_of_ble_eq_true rfl) ⟨rfl, rfl⟩ ?_
          refine s_X1_sing h1 h2 rfl hz37 ?_
          show gW _ _ _ _ _ 45 [.ref 44, .ref a1, .ref a2, .int v3, .int v4, .int v5, .int v6, .int v7, .int (((((nI 100) * v5) + ((nI 10) * (v6 + (nI 1)))) + v7) + (nI 1)), .null] [] (gKn n, gRf f g, z37.2.1, z37.2.2) _
          refine r_aload rfl rfl ?_
          refine r_aload rfl rfl ?_
          refine r_aload rfl rfl ?_
          refine r_aload rfl rfl ?_
          refine r_getR (c := 5) (k := 1) (v := 46) rfl rfl ⟨rfl, rfl⟩ rfl ?_
          refine r_iload rfl rfl ?_
          obtain ⟨z38, hz38, hr⟩ := gbnd hr
          refine r_invv (a := a1) [.ref a2, .ref 46, .int v3] rfl rfl (shFen h1) rfl rfl (Nat.le_of_ble_eq_true rfl) ⟨rfl, rfl⟩ ?_
          refine s_X1_fitBehind h1 h2 rfl hz38 ?_
          show gW _ _ _ _ _ 52 [.ref 44, .ref a1, .ref a2, .int v3, .int v4, .int v5, .int v6, .int v7, .int (((((nI 100) * v5) + ((nI 10) * (v6 + (nI 1)))) + v7) + (nI 1)), .null] [.int z38.1, .ref 44] (gKn n, gRf f g, z38.2.1, z38.2.2) _
          refine r_iload rfl rfl ?_
          refine r_invv (a := 44) [.int z38.1, .int (((((nI 100) * v5) + ((nI 10) * (v6 + (nI 1)))) + v7) + (nI 1))] rfl rfl rfl rfl rfl (Nat.le_of_ble_eq_true rfl) ⟨rfl, rfl⟩ ?_
          refine s_X5_take  ?_
          show gW _ _ _ _ _ 54 [.ref 44, .ref a1, .ref a2, .int v3, .int v4, .int v5, .int v6, .int v7, .int (((((nI 100) * v5) + ((nI 10) * (v6 + (nI 1)))) + v7) + (nI 1)), .null] [] (gKn n, gRf f g, (i_X5_take z38.2.1 z38.2.2 z38.1 (((((nI 100) * v5) + ((nI 10) * (v6 + (nI 1)))) + v7) + (nI 1))), z38.2.2) _
          refine r_goto 81 rfl rfl ?_
          refine gforget (ls := [.ref 44, .ref a1, .ref a2, .int v3, .int v4, .int v5, .int v6, .int v7, .null, .null]) ⟨(Or.inl rfl), ⟨(Or.inl rfl), ⟨(Or.inl rfl), ⟨(Or.inl rfl), ⟨(Or.inl rfl), ⟨(Or.inl rfl), ⟨(Or.inl rfl), ⟨(Or.inl rfl), ⟨(Or.inr (Or.inl ⟨rfl, _, rfl⟩)), ⟨(Or.inl rfl), trivial⟩⟩⟩⟩⟩⟩⟩⟩⟩⟩ ?_
          exact t_X5_tryRows_81 hREC h1 h2 hK2 hK13 hr hQ
def r_X5_tryRows_2 (REC : (Nat → Nat → Int32) → (Nat → Nat → Int64) → Nat → Nat → Int32 → Int32 → Int32 → Option gRs) (a1 : Nat) (a2 : Nat)  : Nat → Int32 → Int32 → Int32 → Int32 → (Nat → Nat → Int32) → (Nat → Nat → Int64) → Option gRs
  | 0, _, _, _, _, _, _ => none
  | m + 1, v3, v4, v5, v6, I, L => (if (I a1 2) ≤ v6 then some (0, I, L) else (if (f_X4_isHome I L a2 v6) = 0 then (r_X5_tryRows_13 REC a1 a2 (r_X5_tryRows_2 REC a1 a2 m) 100 v3 v4 v5 v6 (nI 0) I L) else (r_X5_tryRows_83 REC a1 a2 (r_X5_tryRows_2 REC a1 a2 m) v3 v4 v5 v6 I L)))
set_option maxHeartbeats 4000000 in
set_option maxRecDepth 100000 in
theorem t_X5_tryRows_2 {n f g d : Nat} {Q : gP} {z : gRs} {a1 : Nat} {a2 : Nat} {REC : (Nat → Nat → Int32) → (Nat → Nat → Int64) → Nat → Nat → Int32 → Int32 → Int32 → Option gRs} (hREC : ∀ {Q : gP} {z : gRs} I L a1 a2 a3 a4 a5, gfe a1 = true → gmo a2 = true → REC I L a1 a2 a3 a4 a5 = some z → Q none (gKn n, gRf f g, z.2.1, z.2.2) → gR gM (d + 3) 48 [.ref 44, .ref a1, .ref a2, .int a3, .int a4, .int a5] (gKn n, gRf f g, I, L) Q) (h1 : gfe a1 = true) (h2 : gmo a2 = true)  : ∀ {m : Nat} {v3 : Int32} {v4 : Int32} {v5 : Int32} {v6 : Int32} {I : Nat → Nat → Int32} {L : Nat → Nat → Int64}, r_X5_tryRows_2 REC a1 a2 m v3 v4 v5 v6 I L = some z → Q none (gKn n, gRf f g, z.2.1, z.2.2) → gW gM (d + 4) 0 0 k_X5_tryRows 2 [.ref 44, .ref a1, .ref a2, .int v3, .int v4, .int v5, .int v6, .null, .null, .null] [] (gKn n, gRf f g, I, L) Q := by
  intro m
  induction m with
  | zero =>
    intro v3 v4 v5 v6 I L hr _
    cases hr
  | succ m ih =>
    intro v3 v4 v5 v6 I L hr hQ
    have hK2 : ∀ v3 v4 v5 v6 I L, r_X5_tryRows_2 REC a1 a2 m v3 v4 v5 v6 I L = some z → gW gM (d + 4) 0 0 k_X5_tryRows 2 [.ref 44, .ref a1, .ref a2, .int v3, .int v4, .int v5, .int v6, .null, .null, .null] [] (gKn n, gRf f g, I, L) Q := fun v3 v4 v5 v6 I L hr => ih hr hQ
    unfold r_X5_tryRows_2 at hr
    refine r_iload rfl rfl ?_
    refine r_aload rfl rfl ?_
    refine r_getI (c := 1) (k := 2) rfl (shFen h1) ⟨rfl, rfl⟩ ?_
    refine r_icmp_ge 85 rfl rfl (fun c39 => ?_) (fun c39 => ?_)
    · rw [if_pos c39] at hr
      refine r_vret rfl ?_
      cases hr
      exact hQ
    · rw [if_neg c39] at hr
      refine r_aload rfl rfl ?_
      refine r_iload rfl rfl ?_
      refine r_invv (a := a2) [.int v6] rfl rfl (shMom h2) rfl rfl (Nat.le_of_ble_eq_true rfl) ⟨rfl, rfl⟩ ?_
      refine s_X4_isHome h2 ?_
      show gW _ _ _ _ _ 9 [.ref 44, .ref a1, .ref a2, .int v3, .int v4, .int v5, .int v6, .null, .null, .null] [.int (f_X4_isHome I L a2 v6)] (gKn n, gRf f g, I, L) _
      refine r_if_eq 11 rfl rfl (fun c40 => ?_) (fun c40 => ?_)
      · rw [if_pos c40] at hr
        refine r_const rfl (gcst 0) ?_
        refine r_istore [.ref 44, .ref a1, .ref a2, .int v3, .int v4, .int v5, .int v6, .int (nI 0), .null, .null] rfl rfl (Nat.le_of_ble_eq_true rfl) rfl ?_
        exact t_X5_tryRows_13 hREC h1 h2 hK2 hr hQ
      · rw [if_neg c40] at hr
        refine r_goto 83 rfl rfl ?_
        exact t_X5_tryRows_83 hREC h1 h2 hK2 hr hQ
def r_X5_tryRows_e (REC : (Nat → Nat → Int32) → (Nat → Nat → Int64) → Nat → Nat → Int32 → Int32 → Int32 → Option gRs) (I : Nat → Nat → Int32) (L : Nat → Nat → Int64) (a1 : Nat) (a2 : Nat) (a3 : Int32) (a4 : Int32) (a5 : Int32) : Option gRs := (r_X5_tryRows_2 REC a1 a2 100 a3 a4 a5 (nI 0) I L)
set_option maxHeartbeats 4000000 in
set_option maxRecDepth 100000 in
theorem s_X5_tryRows_e {n f g d : Nat} {Q : gP} {I : Nat → Nat → Int32} {L : Nat → Nat → Int64} {a1 : Nat} {a2 : Nat} {a3 : Int32} {a4 : Int32} {a5 : Int32} {z : gRs} {REC : (Nat → Nat → Int32) → (Nat → Nat → Int64) → Nat → Nat → Int32 → Int32 → Int32 → Option gRs} (hREC : ∀ {Q : gP} {z : gRs} I L a1 a2 a3 a4 a5, gfe a1 = true → gmo a2 = true → REC I L a1 a2 a3 a4 a5 = some z → Q none (gKn n, gRf f g, z.2.1, z.2.2) → gR gM (d + 3) 48 [.ref 44, .ref a1, .ref a2, .int a3, .int a4, .int a5] (gKn n, gRf f g, I, L) Q) (h1 : gfe a1 = true) (h2 : gmo a2 = true) (hr : r_X5_tryRows_e REC I L a1 a2 a3 a4 a5 = some z) (hQ : Q none (gKn n, gRf f g, z.2.1, z.2.2)) : gR gM (d + 4) 48 [.ref 44, .ref a1, .ref a2, .int a3, .int a4, .int a5] (gKn n, gRf f g, I, L) Q := by
  unfold r_X5_tryRows_e at hr
  show gW gM (d + 4) 0 0 k_X5_tryRows 0 [.ref 44, .ref a1, .ref a2, .int a3, .int a4, .int a5, .null, .null, .null, .null] [] (gKn n, gRf f g, I, L) Q
  refine r_const rfl (gcst 0) ?_
  refine r_istore [.ref 44, .ref a1, .ref a2, .int a3, .int a4, .int a5, .int (nI 0), .null, .null, .null] rfl rfl (Nat.le_of_ble_eq_true rfl) rfl ?_
  exact t_X5_tryRows_2 hREC h1 h2 hr hQ
/-- the recursion, m levels of it -/
def r_X5_tryRows_rec : Nat → (Nat → Nat → Int32) → (Nat → Nat → Int64) → Nat → Nat → Int32 → Int32 → Int32 → Option gRs
  | 0 => fun _ _ _ _ _ _ _ => none
  | m + 1 => r_X5_tryRows_e (r_X5_tryRows_rec m)
theorem s_X5_tryRows_rec {n f g : Nat} : ∀ (m d : Nat) {Q : gP} {z : gRs} (I : Nat → Nat → Int32) (L : Nat → Nat → Int64) (a1 a2 : Nat) (a3 a4 a5 : Int32), gfe a1 = true → gmo a2 = true → r_X5_tryRows_rec m I L a1 a2 a3 a4 a5 = some z → Q none (gKn n, gRf f g, z.2.1, z.2.2) → gR gM (d + m + 4) 48 [.ref 44, .ref a1, .ref a2, .int a3, .int a4, .int a5] (gKn n, gRf f g, I, L) Q
  | 0, d, Q, z, I, L, a1, a2, a3, a4, a5, _, _, hr, _ => by cases hr
  | m + 1, d, Q, z, I, L, a1, a2, a3, a4, a5, h1, h2, hr, hQ => s_X5_tryRows_e (REC := r_X5_tryRows_rec m) (fun I L a1 a2 a3 a4 a5 h1 h2 hr hQ => s_X5_tryRows_rec m (d + 0) I L a1 a2 a3 a4 a5 h1 h2 hr hQ) h1 h2 hr hQ
def r_X5_tryRows (I : Nat → Nat → Int32) (L : Nat → Nat → Int64) (a1 a2 : Nat) (a3 a4 a5 : Int32) : Option gRs := r_X5_tryRows_rec 4 I L a1 a2 a3 a4 a5
theorem s_X5_tryRows {n f g d : Nat} {Q : gP} {I : Nat → Nat → Int32} {L : Nat → Nat → Int64} {a1 a2 : Nat} {a3 a4 a5 : Int32} {z : gRs} (h1 : gfe a1 = true) (h2 : gmo a2 = true) (hr : r_X5_tryRows I L a1 a2 a3 a4 a5 = some z) (hQ : Q none (gKn n, gRf f g, z.2.1, z.2.2)) : gR gM (d + 8) 48 [.ref 44, .ref a1, .ref a2, .int a3, .int a4, .int a5] (gKn n, gRf f g, I, L) Q := s_X5_tryRows_rec 4 d I L a1 a2 a3 a4 a5 h1 h2 hr hQ
