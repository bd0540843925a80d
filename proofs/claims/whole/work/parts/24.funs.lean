/-! FUNCTIONS (dec.py, dec2.py) -/
def r_X8_readPart_172    (I : Nat → Nat → Int32) (L : Nat → Nat → Int64) : Option gRs := some (0, (gu2 I 57 22 (I 57 21)), L)
set_option maxHeartbeats 4000000 in
set_option maxRecDepth 100000 in
theorem t_X8_readPart_172 {n f g d : Nat} {Q : gP} {z : gRs}     {I : Nat → Nat → Int32} {L : Nat → Nat → Int64} (hr : r_X8_readPart_172 I L = some z) (hQ : Q none (gKn n, gRf f g, z.2.1, z.2.2)) : gW gM (d + 2) 0 0 k_X8_readPart 172 [.ref 57, .null, .null] [] (gKn n, gRf f g, I, L) Q := by
  unfold r_X8_readPart_172 at hr
  refine r_aload rfl rfl ?_
  refine r_aload rfl rfl ?_
  refine r_getI (c := 8) (k := 21) rfl rfl ⟨rfl, rfl⟩ ?_
  refine r_putI (c := 8) (k := 22) rfl rfl ⟨rfl, rfl⟩ ?_
  refine r_vret rfl ?_
  cases hr
  exact hQ
def r_X8_readPart_148   : Nat → Int32 → (Nat → Nat → Int32) → (Nat → Nat → Int64) → Option gRs
  | 0, _, _, _ => none
  | m + 1, v2, I, L => (if (nI 4) ≤ v2 then some (0, (gu2 I 57 17 ((I 57 17) + (nI 1))), L) else ((r_X8_letterTone I L (nI 1)).bind (fun z78 => (if gvp (((nI 4) * (I 57 17)) + v2) 8 = true then (r_X8_readPart_148  m (v2 + (nI 1)) (gu2 z78.2.1 67 (gx (((nI 4) * (I 57 17)) + v2)) z78.1) z78.2.2) else none))))
set_option maxHeartbeats 4000000 in
set_option maxRecDepth 100000 in
theorem t_X8_readPart_148 {n f g d : Nat} {Q : gP} {z : gRs}    : ∀ {m : Nat} {v2 : Int32} {I : Nat → Nat → Int32} {L : Nat → Nat → Int64}, r_X8_readPart_148 m v2 I L = some z → Q none (gKn n, gRf f g, z.2.1, z.2.2) → gW gM (d + 2) 0 0 k_X8_readPart 148 [.ref 57, .null, .int v2] [] (gKn n, gRf f g, I, L) Q := by
  intro m
  induction m with
  | zero =>
    intro v2 I L hr _
    cases hr
  | succ m ih =>
    intro v2 I L hr hQ
    have hK148 : ∀ v2 I L, r_X8_readPart_148 m v2 I L = some z → gW gM (d + 2) 0 0 k_X8_readPart 148 [.ref 57, .null, .int v2] [] (gKn n, gRf f g, I, L) Q := fun v2 I L hr => ih hr hQ
    unfold r_X8_readPart_148 at hr
    refine r_iload rfl rfl ?_
    refine r_const rfl (gcst 4) ?_
    refine r_icmp_ge 165 rfl rfl (fun c77 => ?_) (fun c77 => ?_)
    · rw [if_pos c77] at hr
      refine r_aload rfl rfl ?_
      refine r_dup rfl rfl ?_
      refine r_getI (c := 8) (k := 17) rfl rfl ⟨rfl, rfl⟩ ?_
      refine r_const rfl (gcst 1) ?_
      refine r_iadd rfl ?_
      refine r_putI (c := 8) (k := 17) rfl rfl ⟨rfl, rfl⟩ ?_
      refine r_goto 176 rfl rfl ?_
      refine r_vret rfl ?_
      cases hr
      exact hQ
    · rw [if_neg c77] at hr
      refine r_aload rfl rfl ?_
      refine r_getR (c := 8) (k := 13) (v := 67) rfl rfl ⟨rfl, rfl⟩ rfl ?_
      refine r_const rfl (gcst 4) ?_
      refine r_aload rfl rfl ?_
      refine r_getI (c := 8) (k := 17) rfl rfl ⟨rfl, rfl⟩ ?_
      refine r_imul rfl ?_
      refine r_iload rfl rfl ?_
      refine r_iadd rfl ?_
      refine r_aload rfl rfl ?_
      refine r_const rfl (gcst 1) ?_
      obtain ⟨z78, hz78, hr⟩ := gbnd hr
      refine r_invv (a := 57) [.int (nI 1)] rfl rfl rfl rfl rfl (Nat.le_of_ble_eq_true rfl) ⟨rfl, rfl⟩ ?_
      refine s_X8_letterTone  hz78 ?_
      show gW _ _ _ _ _ 162 [.ref 57, .null, .int v2] [.int z78.1, .int (((nI 4) * (I 57 17)) + v2), .ref 67] (gKn n, gRf f g, z78.2.1, z78.2.2) _
      obtain ⟨b79, hr⟩ := gopt hr
      refine r_iastore (n := 8) rfl rfl (gvp_in b79) (by decide) ?_
      refine r_iinc (y := (v2 + (nI 1))) [.ref 57, .null, .int (v2 + (nI 1))] rfl rfl rfl (ginc _ 1) rfl ?_
      refine r_goto 148 rfl rfl ?_
      exact hK148 _ _ _ hr
def r_X8_readPart_133   (v1 : Int32) (I : Nat → Nat → Int32) (L : Nat → Nat → Int64) : Option gRs := (if ¬ v1 = (nI 86) then (r_X8_readPart_172 I L) else (if (nI 2) ≤ (I 57 17) then (r_X8_readPart_172 I L) else (r_X8_readPart_148 100 (nI 0) (gu2 I 57 21 ((I 57 21) + (nI 1))) L)))
set_option maxHeartbeats 4000000 in
set_option maxRecDepth 100000 in
theorem t_X8_readPart_133 {n f g d : Nat} {Q : gP} {z : gRs}    {v1 : Int32} {I : Nat → Nat → Int32} {L : Nat → Nat → Int64} (hr : r_X8_readPart_133 v1 I L = some z) (hQ : Q none (gKn n, gRf f g, z.2.1, z.2.2)) : gW gM (d + 2) 0 0 k_X8_readPart 133 [.ref 57, .int v1, .null] [] (gKn n, gRf f g, I, L) Q := by
  unfold r_X8_readPart_133 at hr
  refine r_iload rfl rfl ?_
  refine r_const rfl (gcst 86) ?_
  refine r_icmp_ne 172 rfl rfl (fun c80 => ?_) (fun c80 => ?_)
  · rw [if_pos c80] at hr
    refine gforget (ls := [.ref 57, .null, .null]) ⟨(Or.inl rfl), ⟨(Or.inr (Or.inl ⟨rfl, _, rfl⟩)), ⟨(Or.inl rfl), trivial⟩⟩⟩ ?_
    exact t_X8_readPart_172  hr hQ
  · rw [if_neg c80] at hr
    refine r_aload rfl rfl ?_
    refine r_getI (c := 8) (k := 17) rfl rfl ⟨rfl, rfl⟩ ?_
    refine r_const rfl (gcst 2) ?_
    refine r_icmp_ge 172 rfl rfl (fun c81 => ?_) (fun c81 => ?_)
    · rw [if_pos c81] at hr
      refine gforget (ls := [.ref 57, .null, .null]) ⟨(Or.inl rfl), ⟨(Or.inr (Or.inl ⟨rfl, _, rfl⟩)), ⟨(Or.inl rfl), trivial⟩⟩⟩ ?_
      exact t_X8_readPart_172  hr hQ
    · rw [if_neg c81] at hr
      refine r_aload rfl rfl ?_
      refine r_dup rfl rfl ?_
      refine r_getI (c := 8) (k := 21) rfl rfl ⟨rfl, rfl⟩ ?_
      refine r_const rfl (gcst 1) ?_
      refine r_iadd rfl ?_
      refine r_putI (c := 8) (k := 21) rfl rfl ⟨rfl, rfl⟩ ?_
      refine r_const rfl (gcst 0) ?_
      refine r_istore [.ref 57, .int v1, .int (nI 0)] rfl rfl (Nat.le_of_ble_eq_true rfl) rfl ?_
      refine gforget (ls := [.ref 57, .null, .int (nI 0)]) ⟨(Or.inl rfl), ⟨(Or.inr (Or.inl ⟨rfl, _, rfl⟩)), ⟨(Or.inl rfl), trivial⟩⟩⟩ ?_
      exact t_X8_readPart_148  hr hQ
def r_X8_readPart_89   (v1 : Int32) (I : Nat → Nat → Int32) (L : Nat → Nat → Int64) : Option gRs := (if ¬ v1 = (nI 66) then (r_X8_readPart_133 v1 I L) else (if (nI 5) ≤ (I 57 16) then (r_X8_readPart_133 v1 I L) else ((r_X8_figure (gu2 I 57 21 ((I 57 21) + (nI 1))) L (nI 1) (nI 9)).bind (fun z84 => (if gvp ((nI 2) * ((gu2 I 57 21 ((I 57 21) + (nI 1))) 57 16)) 10 = true then ((r_X8_figure (gu2 z84.2.1 66 (gx ((nI 2) * ((gu2 I 57 21 ((I 57 21) + (nI 1))) 57 16))) z84.1) z84.2.2 (nI 0) (nI 3)).bind (fun z86 => (if gvp (((nI 2) * ((gu2 z84.2.1 66 (gx ((nI 2) * ((gu2 I 57 21 ((I 57 21) + (nI 1))) 57 16))) z84.1) 57 16)) + (nI 1)) 10 = true then some (0, (gu2 (gu2 z86.2.1 66 (gx (((nI 2) * ((gu2 z84.2.1 66 (gx ((nI 2) * ((gu2 I 57 21 ((I 57 21) + (nI 1))) 57 16))) z84.1) 57 16)) + (nI 1))) z86.1) 57 16 (((gu2 z86.2.1 66 (gx (((nI 2) * ((gu2 z84.2.1 66 (gx ((nI 2) * ((gu2 I 57 21 ((I 57 21) + (nI 1))) 57 16))) z84.1) 57 16)) + (nI 1))) z86.1) 57 16) + (nI 1))), z86.2.2) else none))) else none)))))
set_option maxHeartbeats 4000000 in
set_option maxRecDepth 100000 in
theorem t_X8_readPart_89 {n f g d : Nat} {Q : gP} {z : gRs}    {v1 : Int32} {I : Nat → Nat → Int32} {L : Nat → Nat → Int64} (hr : r_X8_readPart_89 v1 I L = some z) (hQ : Q none (gKn n, gRf f g, z.2.1, z.2.2)) : gW gM (d + 2) 0 0 k_X8_readPart 89 [.ref 57, .int v1, .null] [] (gKn n, gRf f g, I, L) Q := by
  unfold r_X8_readPart_89 at hr
  refine r_iload rfl rfl ?_
  refine r_const rfl (gcst 66) ?_
  refine r_icmp_ne 133 rfl rfl (fun c82 => ?_) (fun c82 => ?_)
  · rw [if_pos c82] at hr
    exact t_X8_readPart_133  hr hQ
  · rw [if_neg c82] at hr
    refine r_aload rfl rfl ?_
    refine r_getI (c := 8) (k := 16) rfl rfl ⟨rfl, rfl⟩ ?_
    refine r_const rfl (gcst 5) ?_
    refine r_icmp_ge 133 rfl rfl (fun c83 => ?_) (fun c83 => ?_)
    · rw [if_pos c83] at hr
      exact t_X8_readPart_133  hr hQ
    · rw [if_neg c83] at hr
      refine r_aload rfl rfl ?_
      refine r_dup rfl rfl ?_
      refine r_getI (c := 8) (k := 21) rfl rfl ⟨rfl, rfl⟩ ?_
      refine r_const rfl (gcst 1) ?_
      refine r_iadd rfl ?_
      refine r_putI (c := 8) (k := 21) rfl rfl ⟨rfl, rfl⟩ ?_
      refine r_aload rfl rfl ?_
      refine r_getR (c := 8) (k := 12) (v := 66) rfl rfl ⟨rfl, rfl⟩ rfl ?_
      refine r_const rfl (gcst 2) ?_
      refine r_aload rfl rfl ?_
      refine r_getI (c := 8) (k := 16) rfl rfl ⟨rfl, rfl⟩ ?_
      refine r_imul rfl ?_
      refine r_aload rfl rfl ?_
      refine r_const rfl (gcst 1) ?_
      refine r_const rfl (gcst 9) ?_
      obtain ⟨z84, hz84, hr⟩ := gbnd hr
      refine r_invv (a := 57) [.int (nI 1), .int (nI 9)] rfl rfl rfl rfl rfl (Nat.le_of_ble_eq_true rfl) ⟨rfl, rfl⟩ ?_
      refine s_X8_figure  hz84 ?_
      show gW _ _ _ _ _ 112 [.ref 57, .int v1, .null] [.int z84.1, .int ((nI 2) * ((gu2 I 57 21 ((I 57 21) + (nI 1))) 57 16)), .ref 66] (gKn n, gRf f g, z84.2.1, z84.2.2) _
      obtain ⟨b85, hr⟩ := gopt hr
      refine r_iastore (n := 10) rfl rfl (gvp_in b85) (by decide) ?_
      refine r_aload rfl rfl ?_
      refine r_getR (c := 8) (k := 12) (v := 66) rfl rfl ⟨rfl, rfl⟩ rfl ?_
      refine r_const rfl (gcst 2) ?_
      refine r_aload rfl rfl ?_
      refine r_getI (c := 8) (k := 16) rfl rfl ⟨rfl, rfl⟩ ?_
      refine r_imul rfl ?_
      refine r_const rfl (gcst 1) ?_
      refine r_iadd rfl ?_
      refine r_aload rfl rfl ?_
      refine r_const rfl (gcst 0) ?_
      refine r_const rfl (gcst 3) ?_
      obtain ⟨z86, hz86, hr⟩ := gbnd hr
      refine r_invv (a := 57) [.int (nI 0), .int (nI 3)] rfl rfl rfl rfl rfl (Nat.le_of_ble_eq_true rfl) ⟨rfl, rfl⟩ ?_
      refine s_X8_figure  hz86 ?_
      show gW _ _ _ _ _ 125 [.ref 57, .int v1, .null] [.int z86.1, .int (((nI 2) * ((gu2 z84.2.1 66 (gx ((nI 2) * ((gu2 I 57 21 ((I 57 21) + (nI 1))) 57 16))) z84.1) 57 16)) + (nI 1)), .ref 66] (gKn n, gRf f g, z86.2.1, z86.2.2) _
      obtain ⟨b87, hr⟩ := gopt hr
      refine r_iastore (n := 10) rfl rfl (gvp_in b87) (by decide) ?_
      refine r_aload rfl rfl ?_
      refine r_dup rfl rfl ?_
      refine r_getI (c := 8) (k := 16) rfl rfl ⟨rfl, rfl⟩ ?_
      refine r_const rfl (gcst 1) ?_
      refine r_iadd rfl ?_
      refine r_putI (c := 8) (k := 16) rfl rfl ⟨rfl, rfl⟩ ?_
      refine r_goto 176 rfl rfl ?_
      refine r_vret rfl ?_
      cases hr
      exact hQ
def r_X8_readPart_61   : Nat → Int32 → (Nat → Nat → Int32) → (Nat → Nat → Int64) → Option gRs
  | 0, _, _, _ => none
  | m + 1, v2, I, L => (if (nI 3) ≤ v2 then some (0, (gu2 I 57 15 ((I 57 15) + (nI 1))), L) else ((r_X8_figure I L (nI 0) ((I 57 14) - (nI 1))).bind (fun z89 => (if gvp (((nI 3) * (I 57 15)) + v2) 9 = true then (r_X8_readPart_61  m (v2 + (nI 1)) (gu2 z89.2.1 65 (gx (((nI 3) * (I 57 15)) + v2)) z89.1) z89.2.2) else none))))
set_option maxHeartbeats 4000000 in
set_option maxRecDepth 100000 in
theorem t_X8_readPart_61 {n f g d : Nat} {Q : gP} {z : gRs}    : ∀ {m : Nat} {v2 : Int32} {I : Nat → Nat → Int32} {L : Nat → Nat → Int64}, r_X8_readPart_61 m v2 I L = some z → Q none (gKn n, gRf f g, z.2.1, z.2.2) → gW gM (d + 2) 0 0 k_X8_readPart 61 [.ref 57, .null, .int v2] [] (gKn n, gRf f g, I, L) Q := by
  intro m
  induction m with
  | zero =>
    intro v2 I L hr _
    cases hr
  | succ m ih =>
    intro v2 I L hr hQ
    have hK61 : ∀ v2 I L, r_X8_readPart_61 m v2 I L = some z → gW gM (d + 2) 0 0 k_X8_readPart 61 [.ref 57, .null, .int v2] [] (gKn n, gRf f g, I, L) Q := fun v2 I L hr => ih hr hQ
    unfold r_X8_readPart_61 at hr
    refine r_iload rfl rfl ?_
    refine r_const rfl (gcst 3) ?_
    refine r_icmp_ge 82 rfl rfl (fun c88 => ?_) (fun c88 => ?_)
    · rw [if_pos c88] at hr
      refine r_aload rfl rfl ?_
      refine r_dup rfl rfl ?_
      refine r_getI (c := 8) (k := 15) rfl rfl ⟨rfl, rfl⟩ ?_
      refine r_const rfl (gcst 1) ?_
      refine r_iadd rfl ?_
      refine r_putI (c := 8) (k := 15) rfl rfl ⟨rfl, rfl⟩ ?_
      refine r_goto 176 rfl rfl ?_
      refine r_vret rfl ?_
      cases hr
      exact hQ
    · rw [if_neg c88] at hr
      refine r_aload rfl rfl ?_
      refine r_getR (c := 8) (k := 11) (v := 65) rfl rfl ⟨rfl, rfl⟩ rfl ?_
      refine r_const rfl (gcst 3) ?_
      refine r_aload rfl rfl ?_
      refine r_getI (c := 8) (k := 15) rfl rfl ⟨rfl, rfl⟩ ?_
      refine r_imul rfl ?_
      refine r_iload rfl rfl ?_
      refine r_iadd rfl ?_
      refine r_aload rfl rfl ?_
      refine r_const rfl (gcst 0) ?_
      refine r_aload rfl rfl ?_
      refine r_getI (c := 8) (k := 14) rfl rfl ⟨rfl, rfl⟩ ?_
      refine r_const rfl (gcst 1) ?_
      refine r_isub rfl ?_
      obtain ⟨z89, hz89, hr⟩ := gbnd hr
      refine r_invv (a := 57) [.int (nI 0), .int ((I 57 14) - (nI 1))] rfl rfl rfl rfl rfl (Nat.le_of_ble_eq_true rfl) ⟨rfl, rfl⟩ ?_
      refine s_X8_figure  hz89 ?_
      show gW _ _ _ _ _ 79 [.ref 57, .null, .int v2] [.int z89.1, .int (((nI 3) * (I 57 15)) + v2), .ref 65] (gKn n, gRf f g, z89.2.1, z89.2.2) _
      obtain ⟨b90, hr⟩ := gopt hr
      refine r_iastore (n := 9) rfl rfl (gvp_in b90) (by decide) ?_
      refine r_iinc (y := (v2 + (nI 1))) [.ref 57, .null, .int (v2 + (nI 1))] rfl rfl rfl (ginc _ 1) rfl ?_
      refine r_goto 61 rfl rfl ?_
      exact hK61 _ _ _ hr
def r_X8_readPart_43   (v1 : Int32) (I : Nat → Nat → Int32) (L : Nat → Nat → Int64) : Option gRs := (if ¬ v1 = (nI 76) then (r_X8_readPart_89 v1 I L) else (if (nI 3) ≤ (I 57 15) then (r_X8_readPart_89 v1 I L) else (if (I 57 14) ≤ 0 then (r_X8_readPart_89 v1 I L) else (r_X8_readPart_61 100 (nI 0) (gu2 I 57 21 ((I 57 21) + (nI 1))) L))))
set_option maxHeartbeats 4000000 in
set_option maxRecDepth 100000 in
theorem t_X8_readPart_43 {n f g d : Nat} {Q : gP} {z : gRs}    {v1 : Int32} {I : Nat → Nat → Int32} {L : Nat → Nat → Int64} (hr : r_X8_readPart_43 v1 I L = some z) (hQ : Q none (gKn n, gRf f g, z.2.1, z.2.2)) : gW gM (d + 2) 0 0 k_X8_readPart 43 [.ref 57, .int v1, .null] [] (gKn n, gRf f g, I, L) Q := by
  unfold r_X8_readPart_43 at hr
  refine r_iload rfl rfl ?_
  refine r_const rfl (gcst 76) ?_
  refine r_icmp_ne 89 rfl rfl (fun c91 => ?_) (fun c91 => ?_)
  · rw [if_pos c91] at hr
    exact t_X8_readPart_89  hr hQ
  · rw [if_neg c91] at hr
    refine r_aload rfl rfl ?_
    refine r_getI (c := 8) (k := 15) rfl rfl ⟨rfl, rfl⟩ ?_
    refine r_const rfl (gcst 3) ?_
    refine r_icmp_ge 89 rfl rfl (fun c92 => ?_) (fun c92 => ?_)
    · rw [if_pos c92] at hr
      exact t_X8_readPart_89  hr hQ
    · rw [if_neg c92] at hr
      refine r_aload rfl rfl ?_
      refine r_getI (c := 8) (k := 14) rfl rfl ⟨rfl, rfl⟩ ?_
      refine r_if_le 89 rfl rfl (fun c93 => ?_) (fun c93 => ?_)
      · rw [if_pos c93] at hr
        exact t_X8_readPart_89  hr hQ
      · rw [if_neg c93] at hr
        refine r_aload rfl rfl ?_
        refine r_dup rfl rfl ?_
        refine r_getI (c := 8) (k := 21) rfl rfl ⟨rfl, rfl⟩ ?_
        refine r_const rfl (gcst 1) ?_
        refine r_iadd rfl ?_
        refine r_putI (c := 8) (k := 21) rfl rfl ⟨rfl, rfl⟩ ?_
        refine r_const rfl (gcst 0) ?_
        refine r_istore [.ref 57, .int v1, .int (nI 0)] rfl rfl (Nat.le_of_ble_eq_true rfl) rfl ?_
        refine gforget (ls := [.ref 57, .null, .int (nI 0)]) ⟨(Or.inl rfl), ⟨(Or.inr (Or.inl ⟨rfl, _, rfl⟩)), ⟨(Or.inl rfl), trivial⟩⟩⟩ ?_
        exact t_X8_readPart_61  hr hQ
def r_X8_readPart (I : Nat → Nat → Int32) (L : Nat → Nat → Int64) (a1 : Int32) : Option gRs := (if ¬ a1 = (nI 71) then (r_X8_readPart_43 a1 I L) else (if (nI 5) ≤ (I 57 14) then (r_X8_readPart_43 a1 I L) else ((r_X8_letterTone (gu2 I 57 21 ((I 57 21) + (nI 1))) L (nI 0)).bind (fun z96 => (if gvp ((nI 2) * ((gu2 I 57 21 ((I 57 21) + (nI 1))) 57 14)) 10 = true then ((r_X8_figure (gu2 z96.2.1 64 (gx ((nI 2) * ((gu2 I 57 21 ((I 57 21) + (nI 1))) 57 14))) z96.1) z96.2.2 (nI 0) (nI 3)).bind (fun z98 => (if gvp (((nI 2) * ((gu2 z96.2.1 64 (gx ((nI 2) * ((gu2 I 57 21 ((I 57 21) + (nI 1))) 57 14))) z96.1) 57 14)) + (nI 1)) 10 = true then some (0, (gu2 (gu2 z98.2.1 64 (gx (((nI 2) * ((gu2 z96.2.1 64 (gx ((nI 2) * ((gu2 I 57 21 ((I 57 21) + (nI 1))) 57 14))) z96.1) 57 14)) + (nI 1))) z98.1) 57 14 (((gu2 z98.2.1 64 (gx (((nI 2) * ((gu2 z96.2.1 64 (gx ((nI 2) * ((gu2 I 57 21 ((I 57 21) + (nI 1))) 57 14))) z96.1) 57 14)) + (nI 1))) z98.1) 57 14) + (nI 1))), z98.2.2) else none))) else none)))))
set_option maxHeartbeats 4000000 in
set_option maxRecDepth 100000 in
theorem s_X8_readPart {n f g d : Nat} {Q : gP} {I : Nat → Nat → Int32} {L : Nat → Nat → Int64} {a1 : Int32} {z : gRs}  (hr : r_X8_readPart I L a1 = some z) (hQ : Q none (gKn n, gRf f g, z.2.1, z.2.2)) : gR gM (d + 2) 114 [.ref 57, .int a1] (gKn n, gRf f g, I, L) Q := by
  unfold r_X8_readPart at hr
  show gW gM (d + 2) 0 0 k_X8_readPart 0 [.ref 57, .int a1, .null] [] (gKn n, gRf f g, I, L) Q
  refine r_iload rfl rfl ?_
  refine r_const rfl (gcst 71) ?_
  refine r_icmp_ne 43 rfl rfl (fun c94 => ?_) (fun c94 => ?_)
  · rw [if_pos c94] at hr
    exact t_X8_readPart_43  hr hQ
  · rw [if_neg c94] at hr
    refine r_aload rfl rfl ?_
    refine r_getI (c := 8) (k := 14) rfl rfl ⟨rfl, rfl⟩ ?_
    refine r_const rfl (gcst 5) ?_
    refine r_icmp_ge 43 rfl rfl (fun c95 => ?_) (fun c95 => ?_)
    · rw [if_pos c95] at hr
      exact t_X8_readPart_43  hr hQ
    · rw [if_neg c95] at hr
      refine r_aload rfl rfl ?_
      refine r_dup rfl rfl ?_
      refine r_getI (c := 8) (k := 21) rfl rfl ⟨rfl, rfl⟩ ?_
      refine r_const rfl (gcst 1) ?_
      refine r_iadd rfl ?_
      refine r_putI (c := 8) (k := 21) rfl rfl ⟨rfl, rfl⟩ ?_
      refine r_aload rfl rfl ?_
      refine r_getR (c := 8) (k := 10) (v := 64) rfl rfl ⟨rfl, rfl⟩ rfl ?_
      refine r_const rfl (gcst 2) ?_
      refine r_aload rfl rfl ?_
      refine r_getI (c := 8) (k := 14) rfl rfl ⟨rfl, rfl⟩ ?_
      refine r_imul rfl ?_
      refine r_aload rfl rfl ?_
      refine r_const rfl (gcst 0) ?_
      obtain ⟨z96, hz96, hr⟩ := gbnd hr
      refine r_invv (a := 57) [.int (nI 0)] rfl rfl rfl rfl rfl (Nat.le_of_ble_eq_true rfl) ⟨rfl, rfl⟩ ?_
      refine s_X8_letterTone  hz96 ?_
      show gW _ _ _ _ _ 22 [.ref 57, .int a1, .null] [.int z96.1, .int ((nI 2) * ((gu2 I 57 21 ((I 57 21) + (nI 1))) 57 14)), .ref 64] (gKn n, gRf f g, z96.2.1, z96.2.2) _
      obtain ⟨b97, hr⟩ := gopt hr
      refine r_iastore (n := 10) rfl rfl (gvp_in b97) (by decide) ?_
      refine r_aload rfl rfl ?_
      refine r_getR (c := 8) (k := 10) (v := 64) rfl rfl ⟨rfl, rfl⟩ rfl ?_
      refine r_const rfl (gcst 2) ?_
      refine r_aload rfl rfl ?_
      refine r_getI (c := 8) (k := 14) rfl rfl ⟨rfl, rfl⟩ ?_
      refine r_imul rfl ?_
      refine r_const rfl (gcst 1) ?_
      refine r_iadd rfl ?_
      refine r_aload rfl rfl ?_
      refine r_const rfl (gcst 0) ?_
      refine r_const rfl (gcst 3) ?_
      obtain ⟨z98, hz98, hr⟩ := gbnd hr
      refine r_invv (a := 57) [.int (nI 0), .int (nI 3)] rfl rfl rfl rfl rfl (Nat.le_of_ble_eq_true rfl) ⟨rfl, rfl⟩ ?_
      refine s_X8_figure  hz98 ?_
      show gW _ _ _ _ _ 35 [.ref 57, .int a1, .null] [.int z98.1, .int (((nI 2) * ((gu2 z96.2.1 64 (gx ((nI 2) * ((gu2 I 57 21 ((I 57 21) + (nI 1))) 57 14))) z96.1) 57 14)) + (nI 1)), .ref 64] (gKn n, gRf f g, z98.2.1, z98.2.2) _
      obtain ⟨b99, hr⟩ := gopt hr
      refine r_iastore (n := 10) rfl rfl (gvp_in b99) (by decide) ?_
      refine r_aload rfl rfl ?_
      refine r_dup rfl rfl ?_
      refine r_getI (c := 8) (k := 14) rfl rfl ⟨rfl, rfl⟩ ?_
      refine r_const rfl (gcst 1) ?_
      refine r_iadd rfl ?_
      refine r_putI (c := 8) (k := 14) rfl rfl ⟨rfl, rfl⟩ ?_
      refine r_goto 176 rfl rfl ?_
      refine r_vret rfl ?_
      cases hr
      exact hQ
def r_X8_readText_55    (I : Nat → Nat → Int32) (L : Nat → Nat → Int64) : Option gRs := some ((I 57 22), I, L)
set_option maxHeartbeats 4000000 in
set_option maxRecDepth 100000 in
theorem t_X8_readText_55 {n f g d : Nat} {Q : gP} {z : gRs}     {I : Nat → Nat → Int32} {L : Nat → Nat → Int64} (hr : r_X8_readText_55 I L = some z) (hQ : Q (some (.int z.1)) (gKn n, gRf f g, z.2.1, z.2.2)) : gW gM (d + 3) 0 0 k_X8_readText 55 [.ref 57] [] (gKn n, gRf f g, I, L) Q := by
  unfold r_X8_readText_55 at hr
  refine r_aload rfl rfl ?_
  refine r_getI (c := 8) (k := 22) rfl rfl ⟨rfl, rfl⟩ ?_
  refine r_iret rfl ?_
  cases hr
  exact hQ
def r_X8_readText_38   : Nat → (Nat → Nat → Int32) → (Nat → Nat → Int64) → Option gRs
  | 0, _, _ => none
  | m + 1, I, L => (if ¬ (I 57 22) = (-9 : Int32) then (r_X8_readText_55 I L) else (if (I 57 20) ≤ (I 57 21) then (r_X8_readText_55 I L) else (if gvp (I 57 21) 60 = true then ((r_X8_readPart I L (I 68 (gx (I 57 21)))).bind (fun z21 => (r_X8_readText_38  m z21.2.1 z21.2.2))) else none)))
set_option maxHeartbeats 4000000 in
set_option maxRecDepth 100000 in
theorem t_X8_readText_38 {n f g d : Nat} {Q : gP} {z : gRs}    : ∀ {m : Nat}  {I : Nat → Nat → Int32} {L : Nat → Nat → Int64}, r_X8_readText_38 m I L = some z → Q (some (.int z.1)) (gKn n, gRf f g, z.2.1, z.2.2) → gW gM (d + 3) 0 0 k_X8_readText 38 [.ref 57] [] (gKn n, gRf f g, I, L) Q := by
  intro m
  induction m with
  | zero =>
    intro I L hr _
    cases hr
  | succ m ih =>
    intro I L hr hQ
    have hK38 : ∀  I L, r_X8_readText_38 m I L = some z → gW gM (d + 3) 0 0 k_X8_readText 38 [.ref 57] [] (gKn n, gRf f g, I, L) Q := fun  I L hr => ih hr hQ
    unfold r_X8_readText_38 at hr
    refine r_aload rfl rfl ?_
    refine r_getI (c := 8) (k := 22) rfl rfl ⟨rfl, rfl⟩ ?_
    refine r_const rfl (v := -9) (by decide) ?_
    refine r_icmp_ne 55 rfl rfl (fun c18 => ?_) (fun c18 => ?_)
    · rw [if_pos c18] at hr
      exact t_X8_readText_55  hr hQ
    · rw [if_neg c18] at hr
      refine r_aload rfl rfl ?_
      refine r_getI (c := 8) (k := 21) rfl rfl ⟨rfl, rfl⟩ ?_
      refine r_aload rfl rfl ?_
      refine r_getI (c := 8) (k := 20) rfl rfl ⟨rfl, rfl⟩ ?_
      refine r_icmp_ge 55 rfl rfl (fun c19 => ?_) (fun c19 => ?_)
      · rw [if_pos c19] at hr
        exact t_X8_readText_55  hr hQ
      · rw [if_neg c19] at hr
        refine r_aload rfl rfl ?_
        refine r_aload rfl rfl ?_
        refine r_getR (c := 8) (k := 19) (v := 68) rfl rfl ⟨rfl, rfl⟩ rfl ?_
        refine r_aload rfl rfl ?_
        refine r_getI (c := 8) (k := 21) rfl rfl ⟨rfl, rfl⟩ ?_
        obtain ⟨b20, hr⟩ := gopt hr
        refine r_iaload (n := 60) rfl rfl (gvp_in b20) ?_
        obtain ⟨z21, hz21, hr⟩ := gbnd hr
        refine r_invv (a := 57) [.int (I 68 (gx (I 57 21)))] rfl rfl rfl rfl rfl (Nat.le_of_ble_eq_true rfl) ⟨rfl, rfl⟩ ?_
        refine s_X8_readPart  hz21 ?_
        show gW _ _ _ _ _ 54 [.ref 57] [] (gKn n, gRf f g, z21.2.1, z21.2.2) _
        refine r_goto 38 rfl rfl ?_
        exact hK38 _ _ hr
def r_X8_readText_27    (I : Nat → Nat → Int32) (L : Nat → Nat → Int64) : Option gRs := some ((nI 0), I, L)
set_option maxHeartbeats 4000000 in
set_option maxRecDepth 100000 in
theorem t_X8_readText_27 {n f g d : Nat} {Q : gP} {z : gRs}     {I : Nat → Nat → Int32} {L : Nat → Nat → Int64} (hr : r_X8_readText_27 I L = some z) (hQ : Q (some (.int z.1)) (gKn n, gRf f g, z.2.1, z.2.2)) : gW gM (d + 3) 0 0 k_X8_readText 27 [.null] [] (gKn n, gRf f g, I, L) Q := by
  unfold r_X8_readText_27 at hr
  refine r_const rfl (gcst 0) ?_
  refine r_iret rfl ?_
  cases hr
  exact hQ
def r_X8_readText (I : Nat → Nat → Int32) (L : Nat → Nat → Int64)  : Option gRs := (if ((gu2 (gu2 (gu2 (gu2 (gu2 (gu2 I 57 21 (nI 0)) 57 22 (-9 : Int32)) 57 14 (nI 0)) 57 15 (nI 0)) 57 16 (nI 0)) 57 17 (nI 0)) 57 20) = 0 then (r_X8_readText_27 (gu2 (gu2 (gu2 (gu2 (gu2 (gu2 I 57 21 (nI 0)) 57 22 (-9 : Int32)) 57 14 (nI 0)) 57 15 (nI 0)) 57 16 (nI 0)) 57 17 (nI 0)) L) else (if ((gu2 (gu2 (gu2 (gu2 (gu2 (gu2 I 57 21 (nI 0)) 57 22 (-9 : Int32)) 57 14 (nI 0)) 57 15 (nI 0)) 57 16 (nI 0)) 57 17 (nI 0)) 68 (gx (nI 0))) = (nI 67) then ((r_X8_figure (gu2 (gu2 (gu2 (gu2 (gu2 (gu2 (gu2 I 57 21 (nI 0)) 57 22 (-9 : Int32)) 57 14 (nI 0)) 57 15 (nI 0)) 57 16 (nI 0)) 57 17 (nI 0)) 57 21 (nI 1)) L (nI 0) (nI 1)).bind (fun z24 => (r_X8_readText_38 100 (gu2 z24.2.1 57 18 z24.1) z24.2.2))) else (r_X8_readText_27 (gu2 (gu2 (gu2 (gu2 (gu2 (gu2 I 57 21 (nI 0)) 57 22 (-9 : Int32)) 57 14 (nI 0)) 57 15 (nI 0)) 57 16 (nI 0)) 57 17 (nI 0)) L)))
set_option maxHeartbeats 4000000 in
set_option maxRecDepth 100000 in
theorem s_X8_readText {n f g d : Nat} {Q : gP} {I : Nat → Nat → Int32} {L : Nat → Nat → Int64}  {z : gRs}  (hr : r_X8_readText I L  = some z) (hQ : Q (some (.int z.1)) (gKn n, gRf f g, z.2.1, z.2.2)) : gR gM (d + 3) 113 [.ref 57] (gKn n, gRf f g, I, L) Q := by
  unfold r_X8_readText at hr
  show gW gM (d + 3) 0 0 k_X8_readText 0 [.ref 57] [] (gKn n, gRf f g, I, L) Q
  refine r_aload rfl rfl ?_
  refine r_const rfl (gcst 0) ?_
  refine r_putI (c := 8) (k := 21) rfl rfl ⟨rfl, rfl⟩ ?_
  refine r_aload rfl rfl ?_
  refine r_const rfl (v := -9) (by decide) ?_
  refine r_putI (c := 8) (k := 22) rfl rfl ⟨rfl, rfl⟩ ?_
  refine r_aload rfl rfl ?_
  refine r_const rfl (gcst 0) ?_
  refine r_putI (c := 8) (k := 14) rfl rfl ⟨rfl, rfl⟩ ?_
  refine r_aload rfl rfl ?_
  refine r_const rfl (gcst 0) ?_
  refine r_putI (c := 8) (k := 15) rfl rfl ⟨rfl, rfl⟩ ?_
  refine r_aload rfl rfl ?_
  refine r_const rfl (gcst 0) ?_
  refine r_putI (c := 8) (k := 16) rfl rfl ⟨rfl, rfl⟩ ?_
  refine r_aload rfl rfl ?_
  refine r_const rfl (gcst 0) ?_
  refine r_putI (c := 8) (k := 17) rfl rfl ⟨rfl, rfl⟩ ?_
  refine r_aload rfl rfl ?_
  refine r_getI (c := 8) (k := 20) rfl rfl ⟨rfl, rfl⟩ ?_
  refine r_if_eq 27 rfl rfl (fun c22 => ?_) (fun c22 => ?_)
  · rw [if_pos c22] at hr
    refine gforget (ls := [.null]) ⟨(Or.inr (Or.inr ⟨rfl, _, rfl⟩)), trivial⟩ ?_
    exact t_X8_readText_27  hr hQ
  · rw [if_neg c22] at hr
    refine r_aload rfl rfl ?_
    refine r_getR (c := 8) (k := 19) (v := 68) rfl rfl ⟨rfl, rfl⟩ rfl ?_
    refine r_const rfl (gcst 0) ?_
    refine r_iaload (n := 60) rfl rfl (vp_in_nI (n := 0) (N := 60) (by decide) (by decide)) ?_
    refine r_const rfl (gcst 67) ?_
    refine r_icmp_eq 29 rfl rfl (fun c23 => ?_) (fun c23 => ?_)
    · rw [if_pos c23] at hr
      refine r_aload rfl rfl ?_
      refine r_const rfl (gcst 1) ?_
      refine r_putI (c := 8) (k := 21) rfl rfl ⟨rfl, rfl⟩ ?_
      refine r_aload rfl rfl ?_
      refine r_aload rfl rfl ?_
      refine r_const rfl (gcst 0) ?_
      refine r_const rfl (gcst 1) ?_
      obtain ⟨z24, hz24, hr⟩ := gbnd hr
      refine r_invv (a := 57) [.int (nI 0), .int (nI 1)] rfl rfl rfl rfl rfl (Nat.le_of_ble_eq_true rfl) ⟨rfl, rfl⟩ ?_
      refine s_X8_figure  hz24 ?_
      show gW _ _ _ _ _ 37 [.ref 57] [.int z24.1, .ref 57] (gKn n, gRf f g, z24.2.1, z24.2.2) _
      refine r_putI (c := 8) (k := 18) rfl rfl ⟨rfl, rfl⟩ ?_
      exact t_X8_readText_38  hr hQ
    · rw [if_neg c23] at hr
      refine gforget (ls := [.null]) ⟨(Or.inr (Or.inr ⟨rfl, _, rfl⟩)), trivial⟩ ?_
      exact t_X8_readText_27  hr hQ
def r_X8_fault (I : Nat → Nat → Int32) (L : Nat → Nat → Int64)  : Option gRs := ((r_X8_readText I L).bind (fun z2 => some (z2.1, z2.2.1, z2.2.2)))
set_option maxHeartbeats 4000000 in
set_option maxRecDepth 100000 in
theorem s_X8_fault {n f g d : Nat} {Q : gP} {I : Nat → Nat → Int32} {L : Nat → Nat → Int64}  {z : gRs}  (hr : r_X8_fault I L  = some z) (hQ : Q (some (.int z.1)) (gKn n, gRf f g, z.2.1, z.2.2)) : gR gM (d + 4) 115 [.ref 57] (gKn n, gRf f g, I, L) Q := by
  unfold r_X8_fault at hr
  show gW gM (d + 4) 0 0 k_X8_fault 0 [.ref 57] [] (gKn n, gRf f g, I, L) Q
  refine r_aload rfl rfl ?_
  obtain ⟨z2, hz2, hr⟩ := gbnd hr
  refine r_invv (a := 57) [] rfl rfl rfl rfl rfl (Nat.le_of_ble_eq_true rfl) ⟨rfl, rfl⟩ ?_
  refine s_X8_readText  hz2 ?_
  show gW _ _ _ _ _ 2 [.ref 57] [.int z2.1] (gKn n, gRf f g, z2.2.1, z2.2.2) _
  refine r_iret rfl ?_
  cases hr
  exact hQ
def r_X8_fen_117   : Nat → Int32 → (Nat → Nat → Int32) → (Nat → Nat → Int64) → Option gRs
  | 0, _, _, _ => none
  | m + 1, v1, I, L => (if (nI 8) ≤ v1 then some ((((((nI 1000) * ((gu2 (gu2 (gu2 I 57 25 (nI 0)) 74 (gx (nI 0)) (nI 0)) 74 (gx (nI 1)) (nI 0)) 57 0)) + ((nI 100) * ((gu2 (gu2 (gu2 I 57 25 (nI 0)) 74 (gx (nI 0)) (nI 0)) 74 (gx (nI 1)) (nI 0)) 57 1))) + ((nI 10) * ((gu2 (gu2 (gu2 I 57 25 (nI 0)) 74 (gx (nI 0)) (nI 0)) 74 (gx (nI 1)) (nI 0)) 57 2))) + ((gu2 (gu2 (gu2 I 57 25 (nI 0)) 74 (gx (nI 0)) (nI 0)) 74 (gx (nI 1)) (nI 0)) 57 3)), (gu2 (gu2 (gu2 I 57 25 (nI 0)) 74 (gx (nI 0)) (nI 0)) 74 (gx (nI 1)) (nI 0)), L) else (if gvp v1 8 = true then (if gvp v1 8 = true then (r_X8_fen_117  m (v1 + (nI 1)) (gu2 I 62 (gx v1) (I 67 (gx v1))) L) else none) else none))
set_option maxHeartbeats 4000000 in
set_option maxRecDepth 100000 in
theorem t_X8_fen_117 {n f g d : Nat} {Q : gP} {z : gRs}    : ∀ {m : Nat} {v1 : Int32} {I : Nat → Nat → Int32} {L : Nat → Nat → Int64}, r_X8_fen_117 m v1 I L = some z → Q (some (.int z.1)) (gKn n, gRf f g, z.2.1, z.2.2) → gW gM (d + 4) 0 0 k_X8_fen 117 [.ref 57, .int v1] [] (gKn n, gRf f g, I, L) Q := by
  intro m
  induction m with
  | zero =>
    intro v1 I L hr _
    cases hr
  | succ m ih =>
    intro v1 I L hr hQ
    have hK117 : ∀ v1 I L, r_X8_fen_117 m v1 I L = some z → gW gM (d + 4) 0 0 k_X8_fen 117 [.ref 57, .int v1] [] (gKn n, gRf f g, I, L) Q := fun v1 I L hr => ih hr hQ
    unfold r_X8_fen_117 at hr
    refine r_iload rfl rfl ?_
    refine r_const rfl (gcst 8) ?_
    refine r_icmp_ge 130 rfl rfl (fun c21 => ?_) (fun c21 => ?_)
    · rw [if_pos c21] at hr
      refine r_aload rfl rfl ?_
      refine r_const rfl (gcst 0) ?_
      refine r_putI (c := 8) (k := 25) rfl rfl ⟨rfl, rfl⟩ ?_
      refine r_aload rfl rfl ?_
      refine r_getR (c := 8) (k := 34) (v := 74) rfl rfl ⟨rfl, rfl⟩ rfl ?_
      refine r_const rfl (gcst 0) ?_
      refine r_const rfl (gcst 0) ?_
      refine r_bastore (n := 2) rfl rfl (vp_in_nI (n := 0) (N := 2) (by decide) (by decide)) (Or.inl rfl) ?_
      refine r_aload rfl rfl ?_
      refine r_getR (c := 8) (k := 34) (v := 74) rfl rfl ⟨rfl, rfl⟩ rfl ?_
      refine r_const rfl (gcst 1) ?_
      refine r_const rfl (gcst 0) ?_
      refine r_bastore (n := 2) rfl rfl (vp_in_nI (n := 1) (N := 2) (by decide) (by decide)) (Or.inl rfl) ?_
      refine r_const rfl (gcst 1000) ?_
      refine r_aload rfl rfl ?_
      refine r_getI (c := 8) (k := 0) rfl rfl ⟨rfl, rfl⟩ ?_
      refine r_imul rfl ?_
      refine r_const rfl (gcst 100) ?_
      refine r_aload rfl rfl ?_
      refine r_getI (c := 8) (k := 1) rfl rfl ⟨rfl, rfl⟩ ?_
      refine r_imul rfl ?_
      refine r_iadd rfl ?_
      refine r_const rfl (gcst 10) ?_
      refine r_aload rfl rfl ?_
      refine r_getI (c := 8) (k := 2) rfl rfl ⟨rfl, rfl⟩ ?_
      refine r_imul rfl ?_
      refine r_iadd rfl ?_
      refine r_aload rfl rfl ?_
      refine r_getI (c := 8) (k := 3) rfl rfl ⟨rfl, rfl⟩ ?_
      refine r_iadd rfl ?_
      refine r_iret rfl ?_
      cases hr
      exact hQ
    · rw [if_neg c21] at hr
      refine r_aload rfl rfl ?_
      refine r_getR (c := 8) (k := 8) (v := 62) rfl rfl ⟨rfl, rfl⟩ rfl ?_
      refine r_iload rfl rfl ?_
      refine r_aload rfl rfl ?_
      refine r_getR (c := 8) (k := 13) (v := 67) rfl rfl ⟨rfl, rfl⟩ rfl ?_
      refine r_iload rfl rfl ?_
      obtain ⟨b22, hr⟩ := gopt hr
      refine r_iaload (n := 8) rfl rfl (gvp_in b22) ?_
      obtain ⟨b23, hr⟩ := gopt hr
      refine r_iastore (n := 8) rfl rfl (gvp_in b23) (by decide) ?_
      refine r_iinc (y := (v1 + (nI 1))) [.ref 57, .int (v1 + (nI 1))] rfl rfl rfl (ginc _ 1) rfl ?_
      refine r_goto 117 rfl rfl ?_
      exact hK117 _ _ _ hr
def r_X8_fen_87   : Nat → Int32 → (Nat → Nat → Int32) → (Nat → Nat → Int64) → Option gRs
  | 0, _, _, _ => none
  | m + 1, v1, I, L => (if (I 57 2) ≤ v1 then (r_X8_fen_117 100 (nI 0) I L) else (if gvp ((nI 2) * v1) 10 = true then (if gvp v1 5 = true then (if gvp (((nI 2) * v1) + (nI 1)) 10 = true then (if gvp v1 5 = true then (r_X8_fen_87  m (v1 + (nI 1)) (gu2 (gu2 I 60 (gx v1) (I 66 (gx ((nI 2) * v1)))) 61 (gx v1) ((gu2 I 60 (gx v1) (I 66 (gx ((nI 2) * v1)))) 66 (gx (((nI 2) * v1) + (nI 1))))) L) else none) else none) else none) else none))
set_option maxHeartbeats 4000000 in
set_option maxRecDepth 100000 in
theorem t_X8_fen_87 {n f g d : Nat} {Q : gP} {z : gRs}    : ∀ {m : Nat} {v1 : Int32} {I : Nat → Nat → Int32} {L : Nat → Nat → Int64}, r_X8_fen_87 m v1 I L = some z → Q (some (.int z.1)) (gKn n, gRf f g, z.2.1, z.2.2) → gW gM (d + 4) 0 0 k_X8_fen 87 [.ref 57, .int v1] [] (gKn n, gRf f g, I, L) Q := by
  intro m
  induction m with
  | zero =>
    intro v1 I L hr _
    cases hr
  | succ m ih =>
    intro v1 I L hr hQ
    have hK87 : ∀ v1 I L, r_X8_fen_87 m v1 I L = some z → gW gM (d + 4) 0 0 k_X8_fen 87 [.ref 57, .int v1] [] (gKn n, gRf f g, I, L) Q := fun v1 I L hr => ih hr hQ
    unfold r_X8_fen_87 at hr
    refine r_iload rfl rfl ?_
    refine r_aload rfl rfl ?_
    refine r_getI (c := 8) (k := 2) rfl rfl ⟨rfl, rfl⟩ ?_
    refine r_icmp_ge 115 rfl rfl (fun c24 => ?_) (fun c24 => ?_)
    · rw [if_pos c24] at hr
      refine r_const rfl (gcst 0) ?_
      refine r_istore [.ref 57, .int (nI 0)] rfl rfl (Nat.le_of_ble_eq_true rfl) rfl ?_
      exact t_X8_fen_117  hr hQ
    · rw [if_neg c24] at hr
      refine r_aload rfl rfl ?_
      refine r_getR (c := 8) (k := 6) (v := 60) rfl rfl ⟨rfl, rfl⟩ rfl ?_
      refine r_iload rfl rfl ?_
      refine r_aload rfl rfl ?_
      refine r_getR (c := 8) (k := 12) (v := 66) rfl rfl ⟨rfl, rfl⟩ rfl ?_
      refine r_const rfl (gcst 2) ?_
      refine r_iload rfl rfl ?_
      refine r_imul rfl ?_
      obtain ⟨b25, hr⟩ := gopt hr
      refine r_iaload (n := 10) rfl rfl (gvp_in b25) ?_
      obtain ⟨b26, hr⟩ := gopt hr
      refine r_iastore (n := 5) rfl rfl (gvp_in b26) (by decide) ?_
      refine r_aload rfl rfl ?_
      refine r_getR (c := 8) (k := 7) (v := 61) rfl rfl ⟨rfl, rfl⟩ rfl ?_
      refine r_iload rfl rfl ?_
      refine r_aload rfl rfl ?_
      refine r_getR (c := 8) (k := 12) (v := 66) rfl rfl ⟨rfl, rfl⟩ rfl ?_
      refine r_const rfl (gcst 2) ?_
      refine r_iload rfl rfl ?_
      refine r_imul rfl ?_
      refine r_const rfl (gcst 1) ?_
      refine r_iadd rfl ?_
      obtain ⟨b27, hr⟩ := gopt hr
      refine r_iaload (n := 10) rfl rfl (gvp_in b27) ?_
      obtain ⟨b28, hr⟩ := gopt hr
      refine r_iastore (n := 5) rfl rfl (gvp_in b28) (by decide) ?_
      refine r_iinc (y := (v1 + (nI 1))) [.ref 57, .int (v1 + (nI 1))] rfl rfl rfl (ginc _ 1) rfl ?_
      refine r_goto 87 rfl rfl ?_
      exact hK87 _ _ _ hr
def r_X8_fen_72   : Nat → Int32 → (Nat → Nat → Int32) → (Nat → Nat → Int64) → Option gRs
  | 0, _, _, _ => none
  | m + 1, v1, I, L => (if (nI 9) ≤ v1 then (r_X8_fen_87 100 (nI 0) I L) else (if gvp v1 9 = true then (if gvp v1 9 = true then (r_X8_fen_72  m (v1 + (nI 1)) (gu2 I 59 (gx v1) (I 65 (gx v1))) L) else none) else none))
set_option maxHeartbeats 4000000 in
set_option maxRecDepth 100000 in
theorem t_X8_fen_72 {n f g d : Nat} {Q : gP} {z : gRs}    : ∀ {m : Nat} {v1 : Int32} {I : Nat → Nat → Int32} {L : Nat → Nat → Int64}, r_X8_fen_72 m v1 I L = some z → Q (some (.int z.1)) (gKn n, gRf f g, z.2.1, z.2.2) → gW gM (d + 4) 0 0 k_X8_fen 72 [.ref 57, .int v1] [] (gKn n, gRf f g, I, L) Q := by
  intro m
  induction m with
  | zero =>
    intro v1 I L hr _
    cases hr
  | succ m ih =>
    intro v1 I L hr hQ
    have hK72 : ∀ v1 I L, r_X8_fen_72 m v1 I L = some z → gW gM (d + 4) 0 0 k_X8_fen 72 [.ref 57, .int v1] [] (gKn n, gRf f g, I, L) Q := fun v1 I L hr => ih hr hQ
    unfold r_X8_fen_72 at hr
    refine r_iload rfl rfl ?_
    refine r_const rfl (gcst 9) ?_
    refine r_icmp_ge 85 rfl rfl (fun c29 => ?_) (fun c29 => ?_)
    · rw [if_pos c29] at hr
      refine r_const rfl (gcst 0) ?_
      refine r_istore [.ref 57, .int (nI 0)] rfl rfl (Nat.le_of_ble_eq_true rfl) rfl ?_
      exact t_X8_fen_87  hr hQ
    · rw [if_neg c29] at hr
      refine r_aload rfl rfl ?_
      refine r_getR (c := 8) (k := 5) (v := 59) rfl rfl ⟨rfl, rfl⟩ rfl ?_
      refine r_iload rfl rfl ?_
      refine r_aload rfl rfl ?_
      refine r_getR (c := 8) (k := 11) (v := 65) rfl rfl ⟨rfl, rfl⟩ rfl ?_
      refine r_iload rfl rfl ?_
      obtain ⟨b30, hr⟩ := gopt hr
      refine r_iaload (n := 9) rfl rfl (gvp_in b30) ?_
      obtain ⟨b31, hr⟩ := gopt hr
      refine r_iastore (n := 9) rfl rfl (gvp_in b31) (by decide) ?_
      refine r_iinc (y := (v1 + (nI 1))) [.ref 57, .int (v1 + (nI 1))] rfl rfl rfl (ginc _ 1) rfl ?_
      refine r_goto 72 rfl rfl ?_
      exact hK72 _ _ _ hr
def r_X8_fen_42   : Nat → Int32 → (Nat → Nat → Int32) → (Nat → Nat → Int64) → Option gRs
  | 0, _, _, _ => none
  | m + 1, v1, I, L => (if (I 57 0) ≤ v1 then (r_X8_fen_72 100 (nI 0) I L) else (if gvp ((nI 2) * v1) 10 = true then (if gvp v1 54 = true then (if gvp (((nI 2) * v1) + (nI 1)) 10 = true then (if gvp v1 5 = true then (r_X8_fen_42  m (v1 + (nI 1)) (gu2 (gu2 I 63 (gx v1) (I 64 (gx ((nI 2) * v1)))) 58 (gx v1) ((gu2 I 63 (gx v1) (I 64 (gx ((nI 2) * v1)))) 64 (gx (((nI 2) * v1) + (nI 1))))) L) else none) else none) else none) else none))
set_option maxHeartbeats 4000000 in
set_option maxRecDepth 100000 in
theorem t_X8_fen_42 {n f g d : Nat} {Q : gP} {z : gRs}    : ∀ {m : Nat} {v1 : Int32} {I : Nat → Nat → Int32} {L : Nat → Nat → Int64}, r_X8_fen_42 m v1 I L = some z → Q (some (.int z.1)) (gKn n, gRf f g, z.2.1, z.2.2) → gW gM (d + 4) 0 0 k_X8_fen 42 [.ref 57, .int v1] [] (gKn n, gRf f g, I, L) Q := by
  intro m
  induction m with
  | zero =>
    intro v1 I L hr _
    cases hr
  | succ m ih =>
    intro v1 I L hr hQ
    have hK42 : ∀ v1 I L, r_X8_fen_42 m v1 I L = some z → gW gM (d + 4) 0 0 k_X8_fen 42 [.ref 57, .int v1] [] (gKn n, gRf f g, I, L) Q := fun v1 I L hr => ih hr hQ
    unfold r_X8_fen_42 at hr
    refine r_iload rfl rfl ?_
    refine r_aload rfl rfl ?_
    refine r_getI (c := 8) (k := 0) rfl rfl ⟨rfl, rfl⟩ ?_
    refine r_icmp_ge 70 rfl rfl (fun c32 => ?_) (fun c32 => ?_)
    · rw [if_pos c32] at hr
      refine r_const rfl (gcst 0) ?_
      refine r_istore [.ref 57, .int (nI 0)] rfl rfl (Nat.le_of_ble_eq_true rfl) rfl ?_
      exact t_X8_fen_72  hr hQ
    · rw [if_neg c32] at hr
      refine r_aload rfl rfl ?_
      refine r_getR (c := 8) (k := 9) (v := 63) rfl rfl ⟨rfl, rfl⟩ rfl ?_
      refine r_iload rfl rfl ?_
      refine r_aload rfl rfl ?_
      refine r_getR (c := 8) (k := 10) (v := 64) rfl rfl ⟨rfl, rfl⟩ rfl ?_
      refine r_const rfl (gcst 2) ?_
      refine r_iload rfl rfl ?_
      refine r_imul rfl ?_
      obtain ⟨b33, hr⟩ := gopt hr
      refine r_iaload (n := 10) rfl rfl (gvp_in b33) ?_
      obtain ⟨b34, hr⟩ := gopt hr
      refine r_iastore (n := 54) rfl rfl (gvp_in b34) (by decide) ?_
      refine r_aload rfl rfl ?_
      refine r_getR (c := 8) (k := 4) (v := 58) rfl rfl ⟨rfl, rfl⟩ rfl ?_
      refine r_iload rfl rfl ?_
      refine r_aload rfl rfl ?_
      refine r_getR (c := 8) (k := 10) (v := 64) rfl rfl ⟨rfl, rfl⟩ rfl ?_
      refine r_const rfl (gcst 2) ?_
      refine r_iload rfl rfl ?_
      refine r_imul rfl ?_
      refine r_const rfl (gcst 1) ?_
      refine r_iadd rfl ?_
      obtain ⟨b35, hr⟩ := gopt hr
      refine r_iaload (n := 10) rfl rfl (gvp_in b35) ?_
      obtain ⟨b36, hr⟩ := gopt hr
      refine r_iastore (n := 5) rfl rfl (gvp_in b36) (by decide) ?_
      refine r_iinc (y := (v1 + (nI 1))) [.ref 57, .int (v1 + (nI 1))] rfl rfl rfl (ginc _ 1) rfl ?_
      refine r_goto 42 rfl rfl ?_
      exact hK42 _ _ _ hr
def r_X8_fen_24   : Nat → Int32 → (Nat → Nat → Int32) → (Nat → Nat → Int64) → Option gRs
  | 0, _, _, _ => none
  | m + 1, v1, I, L => (if (nI 27) ≤ v1 then (r_X8_fen_42 100 (nI 0) (gu2 I 63 (gx (nI 13)) (I 57 18)) L) else (if gvp v1 54 = true then (r_X8_fen_24  m (v1 + (nI 1)) (gu2 I 63 (gx v1) (nI 0)) L) else none))
set_option maxHeartbeats 4000000 in
set_option maxRecDepth 100000 in
theorem t_X8_fen_24 {n f g d : Nat} {Q : gP} {z : gRs}    : ∀ {m : Nat} {v1 : Int32} {I : Nat → Nat → Int32} {L : Nat → Nat → Int64}, r_X8_fen_24 m v1 I L = some z → Q (some (.int z.1)) (gKn n, gRf f g, z.2.1, z.2.2) → gW gM (d + 4) 0 0 k_X8_fen 24 [.ref 57, .int v1] [] (gKn n, gRf f g, I, L) Q := by
  intro m
  induction m with
  | zero =>
    intro v1 I L hr _
    cases hr
  | succ m ih =>
    intro v1 I L hr hQ
    have hK24 : ∀ v1 I L, r_X8_fen_24 m v1 I L = some z → gW gM (d + 4) 0 0 k_X8_fen 24 [.ref 57, .int v1] [] (gKn n, gRf f g, I, L) Q := fun v1 I L hr => ih hr hQ
    unfold r_X8_fen_24 at hr
    refine r_iload rfl rfl ?_
    refine r_const rfl (gcst 27) ?_
    refine r_icmp_ge 34 rfl rfl (fun c37 => ?_) (fun c37 => ?_)
    · rw [if_pos c37] at hr
      refine r_aload rfl rfl ?_
      refine r_getR (c := 8) (k := 9) (v := 63) rfl rfl ⟨rfl, rfl⟩ rfl ?_
      refine r_const rfl (gcst 13) ?_
      refine r_aload rfl rfl ?_
      refine r_getI (c := 8) (k := 18) rfl rfl ⟨rfl, rfl⟩ ?_
      refine r_iastore (n := 54) rfl rfl (vp_in_nI (n := 13) (N := 54) (by decide) (by decide)) (by decide) ?_
      refine r_const rfl (gcst 0) ?_
      refine r_istore [.ref 57, .int (nI 0)] rfl rfl (Nat.le_of_ble_eq_true rfl) rfl ?_
      exact t_X8_fen_42  hr hQ
    · rw [if_neg c37] at hr
      refine r_aload rfl rfl ?_
      refine r_getR (c := 8) (k := 9) (v := 63) rfl rfl ⟨rfl, rfl⟩ rfl ?_
      refine r_iload rfl rfl ?_
      refine r_const rfl (gcst 0) ?_
      obtain ⟨b38, hr⟩ := gopt hr
      refine r_iastore (n := 54) rfl rfl (gvp_in b38) (by decide) ?_
      refine r_iinc (y := (v1 + (nI 1))) [.ref 57, .int (v1 + (nI 1))] rfl rfl rfl (ginc _ 1) rfl ?_
      refine r_goto 24 rfl rfl ?_
      exact hK24 _ _ _ hr
def r_X8_fen (I : Nat → Nat → Int32) (L : Nat → Nat → Int64)  : Option gRs := ((r_X8_readText I L).bind (fun z39 => (if z39.1 = (-9 : Int32) then (r_X8_fen_24 100 (nI 0) (gu2 (gu2 (gu2 (gu2 z39.2.1 57 0 (z39.2.1 57 14)) 57 1 ((gu2 z39.2.1 57 0 (z39.2.1 57 14)) 57 15)) 57 2 ((gu2 (gu2 z39.2.1 57 0 (z39.2.1 57 14)) 57 1 ((gu2 z39.2.1 57 0 (z39.2.1 57 14)) 57 15)) 57 16)) 57 3 ((gu2 (gu2 (gu2 z39.2.1 57 0 (z39.2.1 57 14)) 57 1 ((gu2 z39.2.1 57 0 (z39.2.1 57 14)) 57 15)) 57 2 ((gu2 (gu2 z39.2.1 57 0 (z39.2.1 57 14)) 57 1 ((gu2 z39.2.1 57 0 (z39.2.1 57 14)) 57 15)) 57 16)) 57 17)) z39.2.2) else some ((-3 : Int32), z39.2.1, z39.2.2))))
set_option maxHeartbeats 4000000 in
set_option maxRecDepth 100000 in
theorem s_X8_fen {n f g d : Nat} {Q : gP} {I : Nat → Nat → Int32} {L : Nat → Nat → Int64}  {z : gRs}  (hr : r_X8_fen I L  = some z) (hQ : Q (some (.int z.1)) (gKn n, gRf f g, z.2.1, z.2.2)) : gR gM (d + 4) 116 [.ref 57] (gKn n, gRf f g, I, L) Q := by
  unfold r_X8_fen at hr
  show gW gM (d + 4) 0 0 k_X8_fen 0 [.ref 57, .null] [] (gKn n, gRf f g, I, L) Q
  refine r_aload rfl rfl ?_
  obtain ⟨z39, hz39, hr⟩ := gbnd hr
  refine r_invv (a := 57) [] rfl rfl rfl rfl rfl (Nat.le_of_ble_eq_true rfl) ⟨rfl, rfl⟩ ?_
  refine s_X8_readText  hz39 ?_
  show gW _ _ _ _ _ 2 [.ref 57, .null] [.int z39.1] (gKn n, gRf f g, z39.2.1, z39.2.2) _
  refine r_const rfl (v := -9) (by decide) ?_
  refine r_icmp_eq 6 rfl rfl (fun c40 => ?_) (fun c40 => ?_)
  · rw [if_pos c40] at hr
    refine r_aload rfl rfl ?_
    refine r_aload rfl rfl ?_
    refine r_getI (c := 8) (k := 14) rfl rfl ⟨rfl, rfl⟩ ?_
    refine r_putI (c := 8) (k := 0) rfl rfl ⟨rfl, rfl⟩ ?_
    refine r_aload rfl rfl ?_
    refine r_aload rfl rfl ?_
    refine r_getI (c := 8) (k := 15) rfl rfl ⟨rfl, rfl⟩ ?_
    refine r_putI (c := 8) (k := 1) rfl rfl ⟨rfl, rfl⟩ ?_
    refine r_aload rfl rfl ?_
    refine r_aload rfl rfl ?_
    refine r_getI (c := 8) (k := 16) rfl rfl ⟨rfl, rfl⟩ ?_
    refine r_putI (c := 8) (k := 2) rfl rfl ⟨rfl, rfl⟩ ?_
    refine r_aload rfl rfl ?_
    refine r_aload rfl rfl ?_
    refine r_getI (c := 8) (k := 17) rfl rfl ⟨rfl, rfl⟩ ?_
    refine r_putI (c := 8) (k := 3) rfl rfl ⟨rfl, rfl⟩ ?_
    refine r_const rfl (gcst 0) ?_
    refine r_istore [.ref 57, .int (nI 0)] rfl rfl (Nat.le_of_ble_eq_true rfl) rfl ?_
    exact t_X8_fen_24  hr hQ
  · rw [if_neg c40] at hr
    refine r_const rfl (v := -3) (by decide) ?_
    refine r_iret rfl ?_
    cases hr
    exact hQ
def r_X8_isGate (I : Nat → Nat → Int32) (L : Nat → Nat → Int64) (a1 : Int32) : Option gRs := (if ((f_X8_in I L (Int32.toInt64 a1) (lN 0) (Int32.toInt64 ((I 57 0) - (nI 1)))) = 0 ∨ (f_X8_in I L (Int32.toInt64 a1) (lN 0) (Int32.toInt64 ((I 57 0) - (nI 1)))) = 1) then some ((f_X8_in I L (Int32.toInt64 a1) (lN 0) (Int32.toInt64 ((I 57 0) - (nI 1)))), I, L) else none)
set_option maxHeartbeats 4000000 in
set_option maxRecDepth 100000 in
theorem s_X8_isGate {n f g d : Nat} {Q : gP} {I : Nat → Nat → Int32} {L : Nat → Nat → Int64} {a1 : Int32} {z : gRs}  (hr : r_X8_isGate I L a1 = some z) (hQ : Q (some (.int z.1)) (gKn n, gRf f g, z.2.1, z.2.2)) : gR gM (d + 1) 117 [.ref 57, .int a1] (gKn n, gRf f g, I, L) Q := by
  unfold r_X8_isGate at hr
  show gW gM (d + 1) 0 0 k_X8_isGate 0 [.ref 57, .int a1] [] (gKn n, gRf f g, I, L) Q
  refine r_iload rfl rfl ?_
  refine r_i2l rfl ?_
  refine r_lconst (v := lN 0) rfl rfl ?_
  refine r_aload rfl rfl ?_
  refine r_getI (c := 8) (k := 0) rfl rfl ⟨rfl, rfl⟩ ?_
  refine r_const rfl (gcst 1) ?_
  refine r_isub rfl ?_
  refine r_i2l rfl ?_
  refine r_invs [.long (Int32.toInt64 a1), .long (lN 0), .long (Int32.toInt64 ((I 57 0) - (nI 1)))] rfl rfl rfl rfl (Nat.le_of_ble_eq_true rfl) ⟨rfl, rfl⟩ ?_
  refine s_X8_in  ?_
  show gW _ _ _ _ _ 9 [.ref 57, .int a1] [.int (f_X8_in I L (Int32.toInt64 a1) (lN 0) (Int32.toInt64 ((I 57 0) - (nI 1))))] (gKn n, gRf f g, I, L) _
  obtain ⟨b2, hr⟩ := gopt hr
  refine r_zret rfl b2 ?_
  cases hr
  exact hQ
def r_X8_isLane (I : Nat → Nat → Int32) (L : Nat → Nat → Int64) (a1 : Int32) : Option gRs := (if ((f_X8_in I L (Int32.toInt64 a1) (lN 0) (Int32.toInt64 ((I 57 1) - (nI 1)))) = 0 ∨ (f_X8_in I L (Int32.toInt64 a1) (lN 0) (Int32.toInt64 ((I 57 1) - (nI 1)))) = 1) then some ((f_X8_in I L (Int32.toInt64 a1) (lN 0) (Int32.toInt64 ((I 57 1) - (nI 1)))), I, L) else none)
set_option maxHeartbeats 4000000 in
set_option maxRecDepth 100000 in
theorem s_X8_isLane {n f g d : Nat} {Q : gP} {I : Nat → Nat → Int32} {L : Nat → Nat → Int64} {a1 : Int32} {z : gRs}  (hr : r_X8_isLane I L a1 = some z) (hQ : Q (some (.int z.1)) (gKn n, gRf f g, z.2.1, z.2.2)) : gR gM (d + 1) 118 [.ref 57, .int a1] (gKn n, gRf f g, I, L) Q := by
  unfold r_X8_isLane at hr
  show gW gM (d + 1) 0 0 k_X8_isLane 0 [.ref 57, .int a1] [] (gKn n, gRf f g, I, L) Q
  refine r_iload rfl rfl ?_
  refine r_i2l rfl ?_
  refine r_lconst (v := lN 0) rfl rfl ?_
  refine r_aload rfl rfl ?_
  refine r_getI (c := 8) (k := 1) rfl rfl ⟨rfl, rfl⟩ ?_
  refine r_const rfl (gcst 1) ?_
  refine r_isub rfl ?_
  refine r_i2l rfl ?_
  refine r_invs [.long (Int32.toInt64 a1), .long (lN 0), .long (Int32.toInt64 ((I 57 1) - (nI 1)))] rfl rfl rfl rfl (Nat.le_of_ble_eq_true rfl) ⟨rfl, rfl⟩ ?_
  refine s_X8_in  ?_
  show gW _ _ _ _ _ 9 [.ref 57, .int a1] [.int (f_X8_in I L (Int32.toInt64 a1) (lN 0) (Int32.toInt64 ((I 57 1) - (nI 1))))] (gKn n, gRf f g, I, L) _
  obtain ⟨b2, hr⟩ := gopt hr
  refine r_zret rfl b2 ?_
  cases hr
  exact hQ
def r_X8_isBeast (I : Nat → Nat → Int32) (L : Nat → Nat → Int64) (a1 : Int32) : Option gRs := (if ((f_X8_in I L (Int32.toInt64 a1) (lN 0) (Int32.toInt64 ((I 57 2) - (nI 1)))) = 0 ∨ (f_X8_in I L (Int32.toInt64 a1) (lN 0) (Int32.toInt64 ((I 57 2) - (nI 1)))) = 1) then some ((f_X8_in I L (Int32.toInt64 a1) (lN 0) (Int32.toInt64 ((I 57 2) - (nI 1)))), I, L) else none)
set_option maxHeartbeats 4000000 in
set_option maxRecDepth 100000 in
theorem s_X8_isBeast {n f g d : Nat} {Q : gP} {I : Nat → Nat → Int32} {L : Nat → Nat → Int64} {a1 : Int32} {z : gRs}  (hr : r_X8_isBeast I L a1 = some z) (hQ : Q (some (.int z.1)) (gKn n, gRf f g, z.2.1, z.2.2)) : gR gM (d + 1) 119 [.ref 57, .int a1] (gKn n, gRf f g, I, L) Q := by
  unfold r_X8_isBeast at hr
  show gW gM (d + 1) 0 0 k_X8_isBeast 0 [.ref 57, .int a1] [] (gKn n, gRf f g, I, L) Q
  refine r_iload rfl rfl ?_
  refine r_i2l rfl ?_
  refine r_lconst (v := lN 0) rfl rfl ?_
  refine r_aload rfl rfl ?_
  refine r_getI (c := 8) (k := 2) rfl rfl ⟨rfl, rfl⟩ ?_
  refine r_const rfl (gcst 1) ?_
  refine r_isub rfl ?_
  refine r_i2l rfl ?_
  refine r_invs [.long (Int32.toInt64 a1), .long (lN 0), .long (Int32.toInt64 ((I 57 2) - (nI 1)))] rfl rfl rfl rfl (Nat.le_of_ble_eq_true rfl) ⟨rfl, rfl⟩ ?_
  refine s_X8_in  ?_
  show gW _ _ _ _ _ 9 [.ref 57, .int a1] [.int (f_X8_in I L (Int32.toInt64 a1) (lN 0) (Int32.toInt64 ((I 57 2) - (nI 1))))] (gKn n, gRf f g, I, L) _
  obtain ⟨b2, hr⟩ := gopt hr
  refine r_zret rfl b2 ?_
  cases hr
  exact hQ
def r_X8_isVerse (I : Nat → Nat → Int32) (L : Nat → Nat → Int64) (a1 : Int32) : Option gRs := (if ((f_X8_in I L (Int32.toInt64 a1) (lN 0) (Int32.toInt64 ((I 57 3) - (nI 1)))) = 0 ∨ (f_X8_in I L (Int32.toInt64 a1) (lN 0) (Int32.toInt64 ((I 57 3) - (nI 1)))) = 1) then some ((f_X8_in I L (Int32.toInt64 a1) (lN 0) (Int32.toInt64 ((I 57 3) - (nI 1)))), I, L) else none)
set_option maxHeartbeats 4000000 in
set_option maxRecDepth 100000 in
theorem s_X8_isVerse {n f g d : Nat} {Q : gP} {I : Nat → Nat → Int32} {L : Nat → Nat → Int64} {a1 : Int32} {z : gRs}  (hr : r_X8_isVerse I L a1 = some z) (hQ : Q (some (.int z.1)) (gKn n, gRf f g, z.2.1, z.2.2)) : gR gM (d + 1) 120 [.ref 57, .int a1] (gKn n, gRf f g, I, L) Q := by
  unfold r_X8_isVerse at hr
  show gW gM (d + 1) 0 0 k_X8_isVerse 0 [.ref 57, .int a1] [] (gKn n, gRf f g, I, L) Q
  refine r_iload rfl rfl ?_
  refine r_i2l rfl ?_
  refine r_lconst (v := lN 0) rfl rfl ?_
  refine r_aload rfl rfl ?_
  refine r_getI (c := 8) (k := 3) rfl rfl ⟨rfl, rfl⟩ ?_
  refine r_const rfl (gcst 1) ?_
  refine r_isub rfl ?_
  refine r_i2l rfl ?_
  refine r_invs [.long (Int32.toInt64 a1), .long (lN 0), .long (Int32.toInt64 ((I 57 3) - (nI 1)))] rfl rfl rfl rfl (Nat.le_of_ble_eq_true rfl) ⟨rfl, rfl⟩ ?_
  refine s_X8_in  ?_
  show gW _ _ _ _ _ 9 [.ref 57, .int a1] [.int (f_X8_in I L (Int32.toInt64 a1) (lN 0) (Int32.toInt64 ((I 57 3) - (nI 1))))] (gKn n, gRf f g, I, L) _
  obtain ⟨b2, hr⟩ := gopt hr
  refine r_zret rfl b2 ?_
  cases hr
  exact hQ
def r_X8_toneOf_80   (v3 : Int32) (s0 : Int32) (s1 : Int32) (I : Nat → Nat → Int32) (L : Nat → Nat → Int64) : Option gRs := some ((grem (((s0 - s1) - (if ¬ v3 = (nI 2) then (nI 0) else (nI 5))) + (nI 24)) (nI 12)), I, L)
set_option maxHeartbeats 4000000 in
set_option maxRecDepth 100000 in
theorem t_X8_toneOf_80 {n f g d : Nat} {Q : gP} {z : gRs}    {v3 : Int32} {s0 : Int32} {s1 : Int32} {I : Nat → Nat → Int32} {L : Nat → Nat → Int64} (hr : r_X8_toneOf_80 v3 s0 s1 I L = some z) (hQ : Q (some (.int z.1)) (gKn n, gRf f g, z.2.1, z.2.2)) : gW gM (d + 1) 0 0 k_X8_toneOf 80 [.null, .null, .null, .int v3, .null, .null, .null] [.int s1, .int s0] (gKn n, gRf f g, I, L) Q := by
  unfold r_X8_toneOf_80 at hr
  refine r_isub rfl ?_
  refine r_istore [.null, .null, .null, .int v3, .null, .null, .int (s0 - s1)] rfl rfl (Nat.le_of_ble_eq_true rfl) rfl ?_
  refine r_iload rfl rfl ?_
  refine r_iload rfl rfl ?_
  refine r_const rfl (gcst 2) ?_
  have j35 : gW gM (d + 1) 0 0 k_X8_toneOf 89 [.null, .null, .null, .int v3, .null, .null, .int (s0 - s1)] [.int (if ¬ v3 = (nI 2) then (nI 0) else (nI 5)), .int (s0 - s1)] (gKn n, gRf f g, I, L) Q := by
    refine r_isub rfl ?_
    refine r_istore [.null, .null, .null, .int v3, .null, .null, .int ((s0 - s1) - (if ¬ v3 = (nI 2) then (nI 0) else (nI 5)))] rfl rfl (Nat.le_of_ble_eq_true rfl) rfl ?_
    refine r_iload rfl rfl ?_
    refine r_const rfl (gcst 24) ?_
    refine r_iadd rfl ?_
    refine r_const rfl (gcst 12) ?_
    refine r_irem rfl (nI_ne0 (n := 12) (by decide) (by decide)) ?_
    refine r_iret rfl ?_
    cases hr
    exact hQ
  refine r_icmp_ne 88 rfl rfl (fun c34 => ?_) (fun c34 => ?_)
  · refine r_const rfl (gcst 0) ?_
    first | contradiction | simpa only [if_pos c34] using j35
  · refine r_const rfl (gcst 5) ?_
    refine r_goto 89 rfl rfl ?_
    first | contradiction | simpa only [if_neg c34] using j35
def r_X8_toneOf_31   (v2 : Int32) (v3 : Int32) (v4 : Int32) (v5 : Int32) (I : Nat → Nat → Int32) (L : Nat → Nat → Int64) : Option gRs := (if gvp (v5 + v2) 54 = true then (if gvp (v5 + (nI 13)) 54 = true then (if gvp v2 5 = true then (if ¬ (I 58 (gx v2)) = (nI 2) then (r_X8_toneOf_80 v3 (((I 63 (gx (v5 + v2))) + (if ¬ v3 = (nI 3) then (v4 / (nI 2)) else (v4 / (nI 4)))) + (if ¬ (I 63 (gx (v5 + (nI 13)))) = (nI 1) then (nI 0) else (nI 4))) (nI 0) I L) else (if gvp ((v5 + (nI 5)) + v2) 54 = true then (r_X8_toneOf_80 v3 (((I 63 (gx (v5 + v2))) + (if ¬ v3 = (nI 3) then (v4 / (nI 2)) else (v4 / (nI 4)))) + (if ¬ (I 63 (gx (v5 + (nI 13)))) = (nI 1) then (nI 0) else (nI 4))) (I 63 (gx ((v5 + (nI 5)) + v2))) I L) else none)) else none) else none) else none)
set_option maxHeartbeats 4000000 in
set_option maxRecDepth 100000 in
theorem t_X8_toneOf_31 {n f g d : Nat} {Q : gP} {z : gRs}    {v2 : Int32} {v3 : Int32} {v4 : Int32} {v5 : Int32} {I : Nat → Nat → Int32} {L : Nat → Nat → Int64} (hr : r_X8_toneOf_31 v2 v3 v4 v5 I L = some z) (hQ : Q (some (.int z.1)) (gKn n, gRf f g, z.2.1, z.2.2)) : gW gM (d + 1) 0 0 k_X8_toneOf 31 [.ref 57, .null, .int v2, .int v3, .int v4, .int v5, .null] [] (gKn n, gRf f g, I, L) Q := by
  unfold r_X8_toneOf_31 at hr
  refine r_aload rfl rfl ?_
  refine r_getR (c := 8) (k := 9) (v := 63) rfl rfl ⟨rfl, rfl⟩ rfl ?_
  refine r_iload rfl rfl ?_
  refine r_iload rfl rfl ?_
  refine r_iadd rfl ?_
  obtain ⟨b36, hr⟩ := gopt hr
  refine r_iaload (n := 54) rfl rfl (gvp_in b36) ?_
  refine r_iload rfl rfl ?_
  refine r_const rfl (gcst 3) ?_
  have j43 : gW gM (d + 1) 0 0 k_X8_toneOf 47 [.ref 57, .null, .int v2, .int v3, .int v4, .int v5, .null] [.int (if ¬ v3 = (nI 3) then (v4 / (nI 2)) else (v4 / (nI 4))), .int (I 63 (gx (v5 + v2)))] (gKn n, gRf f g, I, L) Q := by
    refine r_iadd rfl ?_
    refine r_istore [.ref 57, .null, .int v2, .int v3, .int v4, .int v5, .int ((I 63 (gx (v5 + v2))) + (if ¬ v3 = (nI 3) then (v4 / (nI 2)) else (v4 / (nI 4))))] rfl rfl (Nat.le_of_ble_eq_true rfl) rfl ?_
    refine r_iload rfl rfl ?_
    refine r_aload rfl rfl ?_
    refine r_getR (c := 8) (k := 9) (v := 63) rfl rfl ⟨rfl, rfl⟩ rfl ?_
    refine r_iload rfl rfl ?_
    refine r_const rfl (gcst 13) ?_
    refine r_iadd rfl ?_
    obtain ⟨b38, hr⟩ := gopt hr
    refine r_iaload (n := 54) rfl rfl (gvp_in b38) ?_
    refine r_const rfl (gcst 1) ?_
    have j44 : gW gM (d + 1) 0 0 k_X8_toneOf 61 [.ref 57, .null, .int v2, .int v3, .int v4, .int v5, .int ((I 63 (gx (v5 + v2))) + (if ¬ v3 = (nI 3) then (v4 / (nI 2)) else (v4 / (nI 4))))] [.int (if ¬ (I 63 (gx (v5 + (nI 13)))) = (nI 1) then (nI 0) else (nI 4)), .int ((I 63 (gx (v5 + v2))) + (if ¬ v3 = (nI 3) then (v4 / (nI 2)) else (v4 / (nI 4))))] (gKn n, gRf f g, I, L) Q := by
      refine r_iadd rfl ?_
      refine r_istore [.ref 57, .null, .int v2, .int v3, .int v4, .int v5, .int (((I 63 (gx (v5 + v2))) + (if ¬ v3 = (nI 3) then (v4 / (nI 2)) else (v4 / (nI 4)))) + (if ¬ (I 63 (gx (v5 + (nI 13)))) = (nI 1) then (nI 0) else (nI 4)))] rfl rfl (Nat.le_of_ble_eq_true rfl) rfl ?_
      refine r_iload rfl rfl ?_
      refine r_aload rfl rfl ?_
      refine r_getR (c := 8) (k := 4) (v := 58) rfl rfl ⟨rfl, rfl⟩ rfl ?_
      refine r_iload rfl rfl ?_
      obtain ⟨b40, hr⟩ := gopt hr
      refine r_iaload (n := 5) rfl rfl (gvp_in b40) ?_
      refine r_const rfl (gcst 2) ?_
      refine r_icmp_ne 79 rfl rfl (fun c41 => ?_) (fun c41 => ?_)
      · rw [if_pos c41] at hr
        refine r_const rfl (gcst 0) ?_
        refine gforget (ls := [.null, .null, .null, .int v3, .null, .null, .null]) ⟨(Or.inr (Or.inr ⟨rfl, _, rfl⟩)), ⟨(Or.inl rfl), ⟨(Or.inr (Or.inl ⟨rfl, _, rfl⟩)), ⟨(Or.inl rfl), ⟨(Or.inr (Or.inl ⟨rfl, _, rfl⟩)), ⟨(Or.inr (Or.inl ⟨rfl, _, rfl⟩)), ⟨(Or.inr (Or.inl ⟨rfl, _, rfl⟩)), trivial⟩⟩⟩⟩⟩⟩⟩ ?_
        exact t_X8_toneOf_80  hr hQ
      · rw [if_neg c41] at hr
        refine r_aload rfl rfl ?_
        refine r_getR (c := 8) (k := 9) (v := 63) rfl rfl ⟨rfl, rfl⟩ rfl ?_
        refine r_iload rfl rfl ?_
        refine r_const rfl (gcst 5) ?_
        refine r_iadd rfl ?_
        refine r_iload rfl rfl ?_
        refine r_iadd rfl ?_
        obtain ⟨b42, hr⟩ := gopt hr
        refine r_iaload (n := 54) rfl rfl (gvp_in b42) ?_
        refine r_goto 80 rfl rfl ?_
        refine gforget (ls := [.null, .null, .null, .int v3, .null, .null, .null]) ⟨(Or.inr (Or.inr ⟨rfl, _, rfl⟩)), ⟨(Or.inl rfl), ⟨(Or.inr (Or.inl ⟨rfl, _, rfl⟩)), ⟨(Or.inl rfl), ⟨(Or.inr (Or.inl ⟨rfl, _, rfl⟩)), ⟨(Or.inr (Or.inl ⟨rfl, _, rfl⟩)), ⟨(Or.inr (Or.inl ⟨rfl, _, rfl⟩)), trivial⟩⟩⟩⟩⟩⟩⟩ ?_
        exact t_X8_toneOf_80  hr hQ
    refine r_icmp_ne 60 rfl rfl (fun c39 => ?_) (fun c39 => ?_)
    · refine r_const rfl (gcst 0) ?_
      first | contradiction | simpa only [if_pos c39] using j44
    · refine r_const rfl (gcst 4) ?_
      refine r_goto 61 rfl rfl ?_
      first | contradiction | simpa only [if_neg c39] using j44
  refine r_icmp_ne 44 rfl rfl (fun c37 => ?_) (fun c37 => ?_)
  · refine r_iload rfl rfl ?_
    refine r_const rfl (gcst 2) ?_
    refine r_idiv rfl (nI_ne0 (n := 2) (by decide) (by decide)) ?_
    first | contradiction | simpa only [if_pos c37] using j43
  · refine r_iload rfl rfl ?_
    refine r_const rfl (gcst 4) ?_
    refine r_idiv rfl (nI_ne0 (n := 4) (by decide) (by decide)) ?_
    refine r_goto 47 rfl rfl ?_
    first | contradiction | simpa only [if_neg c37] using j43
def r_X8_toneOf_29    (I : Nat → Nat → Int32) (L : Nat → Nat → Int64) : Option gRs := some ((nI 12), I, L)
set_option maxHeartbeats 4000000 in
set_option maxRecDepth 100000 in
theorem t_X8_toneOf_29 {n f g d : Nat} {Q : gP} {z : gRs}     {I : Nat → Nat → Int32} {L : Nat → Nat → Int64} (hr : r_X8_toneOf_29 I L = some z) (hQ : Q (some (.int z.1)) (gKn n, gRf f g, z.2.1, z.2.2)) : gW gM (d + 1) 0 0 k_X8_toneOf 29 [.null, .null, .null, .null, .null, .null, .null] [] (gKn n, gRf f g, I, L) Q := by
  unfold r_X8_toneOf_29 at hr
  refine r_const rfl (gcst 12) ?_
  refine r_iret rfl ?_
  cases hr
  exact hQ
def r_X8_toneOf (I : Nat → Nat → Int32) (L : Nat → Nat → Int64) (a1 : Int32) (a2 : Int32) (a3 : Int32) (a4 : Int32) : Option gRs := (if gvp (((nI 27) * a1) + (nI 10)) 54 = true then (if gvp (((nI 27) * a1) + (nI 11)) 54 = true then (if ¬ (f_X8_bit I L ((I 63 (gx (((nI 27) * a1) + (nI 10)))) ||| (I 63 (gx (((nI 27) * a1) + (nI 11))))) a2) = 0 then (r_X8_toneOf_29 I L) else (if gvp a2 5 = true then (if ¬ (I 58 (gx a2)) = (nI 3) then (r_X8_toneOf_31 a2 a3 a4 ((nI 27) * a1) I L) else (if (nI 5) ≤ a4 then (r_X8_toneOf_31 a2 a3 a4 ((nI 27) * a1) I L) else (r_X8_toneOf_29 I L))) else none)) else none) else none)
set_option maxHeartbeats 4000000 in
set_option maxRecDepth 100000 in
theorem s_X8_toneOf {n f g d : Nat} {Q : gP} {I : Nat → Nat → Int32} {L : Nat → Nat → Int64} {a1 : Int32} {a2 : Int32} {a3 : Int32} {a4 : Int32} {z : gRs}  (hr : r_X8_toneOf I L a1 a2 a3 a4 = some z) (hQ : Q (some (.int z.1)) (gKn n, gRf f g, z.2.1, z.2.2)) : gR gM (d + 1) 121 [.ref 57, .int a1, .int a2, .int a3, .int a4] (gKn n, gRf f g, I, L) Q := by
  unfold r_X8_toneOf at hr
  show gW gM (d + 1) 0 0 k_X8_toneOf 0 [.ref 57, .int a1, .int a2, .int a3, .int a4, .null, .null] [] (gKn n, gRf f g, I, L) Q
  refine r_const rfl (gcst 27) ?_
  refine r_iload rfl rfl ?_
  refine r_imul rfl ?_
  refine r_istore [.ref 57, .int a1, .int a2, .int a3, .int a4, .int ((nI 27) * a1), .null] rfl rfl (Nat.le_of_ble_eq_true rfl) rfl ?_
  refine r_aload rfl rfl ?_
  refine r_getR (c := 8) (k := 9) (v := 63) rfl rfl ⟨rfl, rfl⟩ rfl ?_
  refine r_iload rfl rfl ?_
  refine r_const rfl (gcst 10) ?_
  refine r_iadd rfl ?_
  obtain ⟨b45, hr⟩ := gopt hr
  refine r_iaload (n := 54) rfl rfl (gvp_in b45) ?_
  refine r_aload rfl rfl ?_
  refine r_getR (c := 8) (k := 9) (v := 63) rfl rfl ⟨rfl, rfl⟩ rfl ?_
  refine r_iload rfl rfl ?_
  refine r_const rfl (gcst 11) ?_
  refine r_iadd rfl ?_
  obtain ⟨b46, hr⟩ := gopt hr
  refine r_iaload (n := 54) rfl rfl (gvp_in b46) ?_
  refine r_ior rfl ?_
  refine r_iload rfl rfl ?_
  refine r_invs [.int ((I 63 (gx (((nI 27) * a1) + (nI 10)))) ||| (I 63 (gx (((nI 27) * a1) + (nI 11))))), .int a2] rfl rfl rfl rfl (Nat.le_of_ble_eq_true rfl) ⟨rfl, rfl⟩ ?_
  refine s_X8_bit  ?_
  show gW _ _ _ _ _ 19 [.ref 57, .int a1, .int a2, .int a3, .int a4, .int ((nI 27) * a1), .null] [.int (f_X8_bit I L ((I 63 (gx (((nI 27) * a1) + (nI 10)))) ||| (I 63 (gx (((nI 27) * a1) + (nI 11))))) a2)] (gKn n, gRf f g, I, L) _
  refine r_if_ne 29 rfl rfl (fun c47 => ?_) (fun c47 => ?_)
  · rw [if_pos c47] at hr
    refine gforget (ls := [.null, .null, .null, .null, .null, .null, .null]) ⟨(Or.inr (Or.inr ⟨rfl, _, rfl⟩)), ⟨(Or.inr (Or.inl ⟨rfl, _, rfl⟩)), ⟨(Or.inr (Or.inl ⟨rfl, _, rfl⟩)), ⟨(Or.inr (Or.inl ⟨rfl, _, rfl⟩)), ⟨(Or.inr (Or.inl ⟨rfl, _, rfl⟩)), ⟨(Or.inr (Or.inl ⟨rfl, _, rfl⟩)), ⟨(Or.inl rfl), trivial⟩⟩⟩⟩⟩⟩⟩ ?_
    exact t_X8_toneOf_29  hr hQ
  · rw [if_neg c47] at hr
    refine r_aload rfl rfl ?_
    refine r_getR (c := 8) (k := 4) (v := 58) rfl rfl ⟨rfl, rfl⟩ rfl ?_
    refine r_iload rfl rfl ?_
    obtain ⟨b48, hr⟩ := gopt hr
    refine r_iaload (n := 5) rfl rfl (gvp_in b48) ?_
    refine r_const rfl (gcst 3) ?_
    refine r_icmp_ne 31 rfl rfl (fun c49 => ?_) (fun c49 => ?_)
    · rw [if_pos c49] at hr
      refine gforget (ls := [.ref 57, .null, .int a2, .int a3, .int a4, .int ((nI 27) * a1), .null]) ⟨(Or.inl rfl), ⟨(Or.inr (Or.inl ⟨rfl, _, rfl⟩)), ⟨(Or.inl rfl), ⟨(Or.inl rfl), ⟨(Or.inl rfl), ⟨(Or.inl rfl), ⟨(Or.inl rfl), trivial⟩⟩⟩⟩⟩⟩⟩ ?_
      exact t_X8_toneOf_31  hr hQ
    · rw [if_neg c49] at hr
      refine r_iload rfl rfl ?_
      refine r_const rfl (gcst 5) ?_
      refine r_icmp_ge 31 rfl rfl (fun c50 => ?_) (fun c50 => ?_)
      · rw [if_pos c50] at hr
        refine gforget (ls := [.ref 57, .null, .int a2, .int a3, .int a4, .int ((nI 27) * a1), .null]) ⟨(Or.inl rfl), ⟨(Or.inr (Or.inl ⟨rfl, _, rfl⟩)), ⟨(Or.inl rfl), ⟨(Or.inl rfl), ⟨(Or.inl rfl), ⟨(Or.inl rfl), ⟨(Or.inl rfl), trivial⟩⟩⟩⟩⟩⟩⟩ ?_
        exact t_X8_toneOf_31  hr hQ
      · rw [if_neg c50] at hr
        refine gforget (ls := [.null, .null, .null, .null, .null, .null, .null]) ⟨(Or.inr (Or.inr ⟨rfl, _, rfl⟩)), ⟨(Or.inr (Or.inl ⟨rfl, _, rfl⟩)), ⟨(Or.inr (Or.inl ⟨rfl, _, rfl⟩)), ⟨(Or.inr (Or.inl ⟨rfl, _, rfl⟩)), ⟨(Or.inr (Or.inl ⟨rfl, _, rfl⟩)), ⟨(Or.inr (Or.inl ⟨rfl, _, rfl⟩)), ⟨(Or.inl rfl), trivial⟩⟩⟩⟩⟩⟩⟩ ?_
        exact t_X8_toneOf_29  hr hQ
def r_X8_sing_41    (I : Nat → Nat → Int32) (L : Nat → Nat → Int64) : Option gRs := some (0, I, L)
set_option maxHeartbeats 4000000 in
set_option maxRecDepth 100000 in
theorem t_X8_sing_41 {n f g d : Nat} {Q : gP} {z : gRs}     {I : Nat → Nat → Int32} {L : Nat → Nat → Int64} (hr : r_X8_sing_41 I L = some z) (hQ : Q none (gKn n, gRf f g, z.2.1, z.2.2)) : gW gM (d + 0) 0 0 k_X8_sing 41 [.null, .null, .null, .null] [] (gKn n, gRf f g, I, L) Q := by
  unfold r_X8_sing_41 at hr
  refine r_vret rfl ?_
  cases hr
  exact hQ
def r_X8_sing (I : Nat → Nat → Int32) (L : Nat → Nat → Int64) (a1 : Int32) (a2 : Int32) (a3 : Int32) : Option gRs := (if gvp (((nI 12) * a1) + (I 57 24)) 24 = true then (if a3 = 0 then (r_X8_sing_41 (gu2 (gu2 I 69 (gx (((nI 12) * a1) + (I 57 24))) a2) 57 24 (((gu2 I 69 (gx (((nI 12) * a1) + (I 57 24))) a2) 57 24) + (nI 1))) L) else (if a2 = (nI 12) then (r_X8_sing_41 (gu2 (gu2 I 69 (gx (((nI 12) * a1) + (I 57 24))) a2) 57 24 (((gu2 I 69 (gx (((nI 12) * a1) + (I 57 24))) a2) 57 24) + (nI 1))) L) else (if gvp (((nI 12) * a1) + ((gu2 (gu2 I 69 (gx (((nI 12) * a1) + (I 57 24))) a2) 57 24 (((gu2 I 69 (gx (((nI 12) * a1) + (I 57 24))) a2) 57 24) + (nI 1))) 57 24)) 24 = true then (r_X8_sing_41 (gu2 (gu2 (gu2 (gu2 I 69 (gx (((nI 12) * a1) + (I 57 24))) a2) 57 24 (((gu2 I 69 (gx (((nI 12) * a1) + (I 57 24))) a2) 57 24) + (nI 1))) 69 (gx (((nI 12) * a1) + ((gu2 (gu2 I 69 (gx (((nI 12) * a1) + (I 57 24))) a2) 57 24 (((gu2 I 69 (gx (((nI 12) * a1) + (I 57 24))) a2) 57 24) + (nI 1))) 57 24))) (grem (a2 + (nI 1)) (nI 12))) 57 24 (((gu2 (gu2 (gu2 I 69 (gx (((nI 12) * a1) + (I 57 24))) a2) 57 24 (((gu2 I 69 (gx (((nI 12) * a1) + (I 57 24))) a2) 57 24) + (nI 1))) 69 (gx (((nI 12) * a1) + ((gu2 (gu2 I 69 (gx (((nI 12) * a1) + (I 57 24))) a2) 57 24 (((gu2 I 69 (gx (((nI 12) * a1) + (I 57 24))) a2) 57 24) + (nI 1))) 57 24))) (grem (a2 + (nI 1)) (nI 12))) 57 24) + (nI 1))) L) else none))) else none)
set_option maxHeartbeats 4000000 in
set_option maxRecDepth 100000 in
theorem s_X8_sing {n f g d : Nat} {Q : gP} {I : Nat → Nat → Int32} {L : Nat → Nat → Int64} {a1 : Int32} {a2 : Int32} {a3 : Int32} {z : gRs}  (hr : r_X8_sing I L a1 a2 a3 = some z) (hQ : Q none (gKn n, gRf f g, z.2.1, z.2.2)) : gR gM (d + 0) 122 [.ref 57, .int a1, .int a2, .int a3] (gKn n, gRf f g, I, L) Q := by
  unfold r_X8_sing at hr
  show gW gM (d + 0) 0 0 k_X8_sing 0 [.ref 57, .int a1, .int a2, .int a3] [] (gKn n, gRf f g, I, L) Q
  refine r_aload rfl rfl ?_
  refine r_getR (c := 8) (k := 23) (v := 69) rfl rfl ⟨rfl, rfl⟩ rfl ?_
  refine r_const rfl (gcst 12) ?_
  refine r_iload rfl rfl ?_
  refine r_imul rfl ?_
  refine r_aload rfl rfl ?_
  refine r_getI (c := 8) (k := 24) rfl rfl ⟨rfl, rfl⟩ ?_
  refine r_iadd rfl ?_
  refine r_iload rfl rfl ?_
  obtain ⟨b9, hr⟩ := gopt hr
  refine r_iastore (n := 24) rfl rfl (gvp_in b9) (by decide) ?_
  refine r_aload rfl rfl ?_
  refine r_dup rfl rfl ?_
  refine r_getI (c := 8) (k := 24) rfl rfl ⟨rfl, rfl⟩ ?_
  refine r_const rfl (gcst 1) ?_
  refine r_iadd rfl ?_
  refine r_putI (c := 8) (k := 24) rfl rfl ⟨rfl, rfl⟩ ?_
  refine r_iload rfl rfl ?_
  refine r_if_eq 41 rfl rfl (fun c10 => ?_) (fun c10 => ?_)
  · rw [if_pos c10] at hr
    refine gforget (ls := [.null, .null, .null, .null]) ⟨(Or.inr (Or.inr ⟨rfl, _, rfl⟩)), ⟨(Or.inr (Or.inl ⟨rfl, _, rfl⟩)), ⟨(Or.inr (Or.inl ⟨rfl, _, rfl⟩)), ⟨(Or.inr (Or.inl ⟨rfl, _, rfl⟩)), trivial⟩⟩⟩⟩ ?_
    exact t_X8_sing_41  hr hQ
  · rw [if_neg c10] at hr
    refine r_iload rfl rfl ?_
    refine r_const rfl (gcst 12) ?_
    refine r_icmp_eq 41 rfl rfl (fun c11 => ?_) (fun c11 => ?_)
    · rw [if_pos c11] at hr
      refine gforget (ls := [.null, .null, .null, .null]) ⟨(Or.inr (Or.inr ⟨rfl, _, rfl⟩)), ⟨(Or.inr (Or.inl ⟨rfl, _, rfl⟩)), ⟨(Or.inr (Or.inl ⟨rfl, _, rfl⟩)), ⟨(Or.inr (Or.inl ⟨rfl, _, rfl⟩)), trivial⟩⟩⟩⟩ ?_
      exact t_X8_sing_41  hr hQ
    · rw [if_neg c11] at hr
      refine r_aload rfl rfl ?_
      refine r_getR (c := 8) (k := 23) (v := 69) rfl rfl ⟨rfl, rfl⟩ rfl ?_
      refine r_const rfl (gcst 12) ?_
      refine r_iload rfl rfl ?_
      refine r_imul rfl ?_
      refine r_aload rfl rfl ?_
      refine r_getI (c := 8) (k := 24) rfl rfl ⟨rfl, rfl⟩ ?_
      refine r_iadd rfl ?_
      refine r_iload rfl rfl ?_
      refine r_const rfl (gcst 1) ?_
      refine r_iadd rfl ?_
      refine r_const rfl (gcst 12) ?_
      refine r_irem rfl (nI_ne0 (n := 12) (by decide) (by decide)) ?_
      obtain ⟨b12, hr⟩ := gopt hr
      refine r_iastore (n := 24) rfl rfl (gvp_in b12) (by decide) ?_
      refine r_aload rfl rfl ?_
      refine r_dup rfl rfl ?_
      refine r_getI (c := 8) (k := 24) rfl rfl ⟨rfl, rfl⟩ ?_
      refine r_const rfl (gcst 1) ?_
      refine r_iadd rfl ?_
      refine r_putI (c := 8) (k := 24) rfl rfl ⟨rfl, rfl⟩ ?_
      refine gforget (ls := [.null, .null, .null, .null]) ⟨(Or.inr (Or.inr ⟨rfl, _, rfl⟩)), ⟨(Or.inr (Or.inl ⟨rfl, _, rfl⟩)), ⟨(Or.inr (Or.inl ⟨rfl, _, rfl⟩)), ⟨(Or.inr (Or.inl ⟨rfl, _, rfl⟩)), trivial⟩⟩⟩⟩ ?_
      exact t_X8_sing_41  hr hQ
def r_X8_laySong_56  (K5 : Int32 → Int32 → Int32 → Int32 → Int32 → (Nat → Nat → Int32) → (Nat → Nat → Int64) → Option gRs) (v1 : Int32) (v2 : Int32) (v3 : Int32) (v4 : Int32) (v5 : Int32) (I : Nat → Nat → Int32) (L : Nat → Nat → Int64) : Option gRs := (K5 v1 v2 v3 v4 (v5 + (nI 1)) I L)
set_option maxHeartbeats 4000000 in
set_option maxRecDepth 100000 in
theorem t_X8_laySong_56 {n f g d : Nat} {Q : gP} {z : gRs}   {K5 : Int32 → Int32 → Int32 → Int32 → Int32 → (Nat → Nat → Int32) → (Nat → Nat → Int64) → Option gRs} (hK5 : ∀ v1 v2 v3 v4 v5 I L, K5 v1 v2 v3 v4 v5 I L = some z → gW gM (d + 2) 0 0 k_X8_laySong 5 [.ref 57, .int v1, .int v2, .int v3, .int v4, .int v5, .null, .null, .null] [] (gKn n, gRf f g, I, L) Q) {v1 : Int32} {v2 : Int32} {v3 : Int32} {v4 : Int32} {v5 : Int32} {I : Nat → Nat → Int32} {L : Nat → Nat → Int64} (hr : r_X8_laySong_56 K5 v1 v2 v3 v4 v5 I L = some z) (hQ : Q (some (.int z.1)) (gKn n, gRf f g, z.2.1, z.2.2)) : gW gM (d + 2) 0 0 k_X8_laySong 56 [.ref 57, .int v1, .int v2, .int v3, .int v4, .int v5, .null, .null, .null] [] (gKn n, gRf f g, I, L) Q := by
  unfold r_X8_laySong_56 at hr
  refine r_iinc (y := (v5 + (nI 1))) [.ref 57, .int v1, .int v2, .int v3, .int v4, .int (v5 + (nI 1)), .null, .null, .null] rfl rfl rfl (ginc _ 1) rfl ?_
  refine r_goto 5 rfl rfl ?_
  exact hK5 _ _ _ _ _ _ _ hr
def r_X8_laySong_39  (K5 : Int32 → Int32 → Int32 → Int32 → Int32 → (Nat → Nat → Int32) → (Nat → Nat → Int64) → Option gRs) (v1 : Int32) (v2 : Int32) (v3 : Int32) (v4 : Int32) (v5 : Int32) (v6 : Int32) (v7 : Int32) (s0 : Int32) (I : Nat → Nat → Int32) (L : Nat → Nat → Int64) : Option gRs := ((r_X8_sing I L v2 v7 s0).bind (fun z30 => (if gvp v6 5 = true then (if ¬ (z30.2.1 58 (gx v6)) = (nI 1) then (r_X8_laySong_56 K5 v1 v2 v3 v4 v5 z30.2.1 z30.2.2) else ((r_X8_sing z30.2.1 z30.2.2 v2 v7 s0).bind (fun z33 => (r_X8_laySong_56 K5 v1 v2 v3 v4 v5 z33.2.1 z33.2.2)))) else none)))
set_option maxHeartbeats 4000000 in
set_option maxRecDepth 100000 in
theorem t_X8_laySong_39 {n f g d : Nat} {Q : gP} {z : gRs}   {K5 : Int32 → Int32 → Int32 → Int32 → Int32 → (Nat → Nat → Int32) → (Nat → Nat → Int64) → Option gRs} (hK5 : ∀ v1 v2 v3 v4 v5 I L, K5 v1 v2 v3 v4 v5 I L = some z → gW gM (d + 2) 0 0 k_X8_laySong 5 [.ref 57, .int v1, .int v2, .int v3, .int v4, .int v5, .null, .null, .null] [] (gKn n, gRf f g, I, L) Q) {v1 : Int32} {v2 : Int32} {v3 : Int32} {v4 : Int32} {v5 : Int32} {v6 : Int32} {v7 : Int32} {s0 : Int32} {I : Nat → Nat → Int32} {L : Nat → Nat → Int64} (hr : r_X8_laySong_39 K5 v1 v2 v3 v4 v5 v6 v7 s0 I L = some z) (hQ : Q (some (.int z.1)) (gKn n, gRf f g, z.2.1, z.2.2)) : gW gM (d + 2) 0 0 k_X8_laySong 39 [.ref 57, .int v1, .int v2, .int v3, .int v4, .int v5, .int v6, .int v7, .null] [.int s0] (gKn n, gRf f g, I, L) Q := by
  unfold r_X8_laySong_39 at hr
  refine r_istore [.ref 57, .int v1, .int v2, .int v3, .int v4, .int v5, .int v6, .int v7, .int s0] rfl rfl (Nat.le_of_ble_eq_true rfl) rfl ?_
  refine r_aload rfl rfl ?_
  refine r_iload rfl rfl ?_
  refine r_iload rfl rfl ?_
  refine r_iload rfl rfl ?_
  obtain ⟨z30, hz30, hr⟩ := gbnd hr
  refine r_invv (a := 57) [.int v2, .int v7, .int s0] rfl rfl rfl rfl rfl (Nat.le_of_ble_eq_true rfl) ⟨rfl, rfl⟩ ?_
  refine s_X8_sing  hz30 ?_
  show gW _ _ _ _ _ 45 [.ref 57, .int v1, .int v2, .int v3, .int v4, .int v5, .int v6, .int v7, .int s0] [] (gKn n, gRf f g, z30.2.1, z30.2.2) _
  refine r_aload rfl rfl ?_
  refine r_getR (c := 8) (k := 4) (v := 58) rfl rfl ⟨rfl, rfl⟩ rfl ?_
  refine r_iload rfl rfl ?_
  obtain ⟨b31, hr⟩ := gopt hr
  refine r_iaload (n := 5) rfl rfl (gvp_in b31) ?_
  refine r_const rfl (gcst 1) ?_
  refine r_icmp_ne 56 rfl rfl (fun c32 => ?_) (fun c32 => ?_)
  · rw [if_pos c32] at hr
    refine gforget (ls := [.ref 57, .int v1, .int v2, .int v3, .int v4, .int v5, .null, .null, .null]) ⟨(Or.inl rfl), ⟨(Or.inl rfl), ⟨(Or.inl rfl), ⟨(Or.inl rfl), ⟨(Or.inl rfl), ⟨(Or.inl rfl), ⟨(Or.inr (Or.inl ⟨rfl, _, rfl⟩)), ⟨(Or.inr (Or.inl ⟨rfl, _, rfl⟩)), ⟨(Or.inr (Or.inl ⟨rfl, _, rfl⟩)), trivial⟩⟩⟩⟩⟩⟩⟩⟩⟩ ?_
    exact t_X8_laySong_56 hK5 hr hQ
  · rw [if_neg c32] at hr
    refine r_aload rfl rfl ?_
    refine r_iload rfl rfl ?_
    refine r_iload rfl rfl ?_
    refine r_iload rfl rfl ?_
    obtain ⟨z33, hz33, hr⟩ := gbnd hr
    refine r_invv (a := 57) [.int v2, .int v7, .int s0] rfl rfl rfl rfl rfl (Nat.le_of_ble_eq_true rfl) ⟨rfl, rfl⟩ ?_
    refine s_X8_sing  hz33 ?_
    show gW _ _ _ _ _ 56 [.ref 57, .int v1, .int v2, .int v3, .int v4, .int v5, .int v6, .int v7, .int s0] [] (gKn n, gRf f g, z33.2.1, z33.2.2) _
    refine gforget (ls := [.ref 57, .int v1, .int v2, .int v3, .int v4, .int v5, .null, .null, .null]) ⟨(Or.inl rfl), ⟨(Or.inl rfl), ⟨(Or.inl rfl), ⟨(Or.inl rfl), ⟨(Or.inl rfl), ⟨(Or.inl rfl), ⟨(Or.inr (Or.inl ⟨rfl, _, rfl⟩)), ⟨(Or.inr (Or.inl ⟨rfl, _, rfl⟩)), ⟨(Or.inr (Or.inl ⟨rfl, _, rfl⟩)), trivial⟩⟩⟩⟩⟩⟩⟩⟩⟩ ?_
    exact t_X8_laySong_56 hK5 hr hQ
def r_X8_laySong_5   : Nat → Int32 → Int32 → Int32 → Int32 → Int32 → (Nat → Nat → Int32) → (Nat → Nat → Int64) → Option gRs
  | 0, _, _, _, _, _, _, _ => none
  | m + 1, v1, v2, v3, v4, v5, I, L => (if (nI 3) ≤ v5 then some ((I 57 24), I, L) else (if gvp (((nI 3) * v4) + v5) 9 = true then (if gvp v3 5 = true then (if gvp v3 5 = true then ((r_X8_toneOf I L v1 (I 59 (gx (((nI 3) * v4) + v5))) (I 61 (gx v3)) (I 60 (gx v3))).bind (fun z38 => (if gvp v3 5 = true then (if ¬ (z38.2.1 61 (gx v3)) = (nI 1) then (r_X8_laySong_39 (r_X8_laySong_5  m) v1 v2 v3 v4 v5 (I 59 (gx (((nI 3) * v4) + v5))) z38.1 (nI 0) z38.2.1 z38.2.2) else (r_X8_laySong_39 (r_X8_laySong_5  m) v1 v2 v3 v4 v5 (I 59 (gx (((nI 3) * v4) + v5))) z38.1 (nI 1) z38.2.1 z38.2.2)) else none))) else none) else none) else none))
set_option maxHeartbeats 4000000 in
set_option maxRecDepth 100000 in
theorem t_X8_laySong_5 {n f g d : Nat} {Q : gP} {z : gRs}    : ∀ {m : Nat} {v1 : Int32} {v2 : Int32} {v3 : Int32} {v4 : Int32} {v5 : Int32} {I : Nat → Nat → Int32} {L : Nat → Nat → Int64}, r_X8_laySong_5 m v1 v2 v3 v4 v5 I L = some z → Q (some (.int z.1)) (gKn n, gRf f g, z.2.1, z.2.2) → gW gM (d + 2) 0 0 k_X8_laySong 5 [.ref 57, .int v1, .int v2, .int v3, .int v4, .int v5, .null, .null, .null] [] (gKn n, gRf f g, I, L) Q := by
  intro m
  induction m with
  | zero =>
    intro v1 v2 v3 v4 v5 I L hr _
    cases hr
  | succ m ih =>
    intro v1 v2 v3 v4 v5 I L hr hQ
    have hK5 : ∀ v1 v2 v3 v4 v5 I L, r_X8_laySong_5 m v1 v2 v3 v4 v5 I L = some z → gW gM (d + 2) 0 0 k_X8_laySong 5 [.ref 57, .int v1, .int v2, .int v3, .int v4, .int v5, .null, .null, .null] [] (gKn n, gRf f g, I, L) Q := fun v1 v2 v3 v4 v5 I L hr => ih hr hQ
    unfold r_X8_laySong_5 at hr
    refine r_iload rfl rfl ?_
    refine r_const rfl (gcst 3) ?_
    refine r_icmp_ge 58 rfl rfl (fun c34 => ?_) (fun c34 => ?_)
    · rw [if_pos c34] at hr
      refine r_aload rfl rfl ?_
      refine r_getI (c := 8) (k := 24) rfl rfl ⟨rfl, rfl⟩ ?_
      refine r_iret rfl ?_
      cases hr
      exact hQ
    · rw [if_neg c34] at hr
      refine r_aload rfl rfl ?_
      refine r_getR (c := 8) (k := 5) (v := 59) rfl rfl ⟨rfl, rfl⟩ rfl ?_
      refine r_const rfl (gcst 3) ?_
      refine r_iload rfl rfl ?_
      refine r_imul rfl ?_
      refine r_iload rfl rfl ?_
      refine r_iadd rfl ?_
      obtain ⟨b35, hr⟩ := gopt hr
      refine r_iaload (n := 9) rfl rfl (gvp_in b35) ?_
      refine r_istore [.ref 57, .int v1, .int v2, .int v3, .int v4, .int v5, .int (I 59 (gx (((nI 3) * v4) + v5))), .null, .null] rfl rfl (Nat.le_of_ble_eq_true rfl) rfl ?_
      refine r_aload rfl rfl ?_
      refine r_iload rfl rfl ?_
      refine r_iload rfl rfl ?_
      refine r_aload rfl rfl ?_
      refine r_getR (c := 8) (k := 7) (v := 61) rfl rfl ⟨rfl, rfl⟩ rfl ?_
      refine r_iload rfl rfl ?_
      obtain ⟨b36, hr⟩ := gopt hr
      refine r_iaload (n := 5) rfl rfl (gvp_in b36) ?_
      refine r_aload rfl rfl ?_
      refine r_getR (c := 8) (k := 6) (v := 60) rfl rfl ⟨rfl, rfl⟩ rfl ?_
      refine r_iload rfl rfl ?_
      obtain ⟨b37, hr⟩ := gopt hr
      refine r_iaload (n := 5) rfl rfl (gvp_in b37) ?_
      obtain ⟨z38, hz38, hr⟩ := gbnd hr
      refine r_invv (a := 57) [.int v1, .int (I 59 (gx (((nI 3) * v4) + v5))), .int (I 61 (gx v3)), .int (I 60 (gx v3))] rfl rfl rfl rfl rfl (Nat.le_of_ble_eq_true rfl) ⟨rfl, rfl⟩ ?_
      refine s_X8_toneOf  hz38 ?_
      show gW _ _ _ _ _ 29 [.ref 57, .int v1, .int v2, .int v3, .int v4, .int v5, .int (I 59 (gx (((nI 3) * v4) + v5))), .null, .null] [.int z38.1] (gKn n, gRf f g, z38.2.1, z38.2.2) _
      refine r_istore [.ref 57, .int v1, .int v2, .int v3, .int v4, .int v5, .int (I 59 (gx (((nI 3) * v4) + v5))), .int z38.1, .null] rfl rfl (Nat.le_of_ble_eq_true rfl) rfl ?_
      refine r_aload rfl rfl ?_
      refine r_getR (c := 8) (k := 7) (v := 61) rfl rfl ⟨rfl, rfl⟩ rfl ?_
      refine r_iload rfl rfl ?_
      obtain ⟨b39, hr⟩ := gopt hr
      refine r_iaload (n := 5) rfl rfl (gvp_in b39) ?_
      refine r_const rfl (gcst 1) ?_
      refine r_icmp_ne 38 rfl rfl (fun c40 => ?_) (fun c40 => ?_)
      · rw [if_pos c40] at hr
        refine r_const rfl (gcst 0) ?_
        exact t_X8_laySong_39 hK5 hr hQ
      · rw [if_neg c40] at hr
        refine r_const rfl (gcst 1) ?_
        refine r_goto 39 rfl rfl ?_
        exact t_X8_laySong_39 hK5 hr hQ
def r_X8_laySong (I : Nat → Nat → Int32) (L : Nat → Nat → Int64) (a1 : Int32) (a2 : Int32) (a3 : Int32) (a4 : Int32) : Option gRs := (r_X8_laySong_5 100 a1 a2 a3 a4 (nI 0) (gu2 I 57 24 (nI 0)) L)
set_option maxHeartbeats 4000000 in
set_option maxRecDepth 100000 in
theorem s_X8_laySong {n f g d : Nat} {Q : gP} {I : Nat → Nat → Int32} {L : Nat → Nat → Int64} {a1 : Int32} {a2 : Int32} {a3 : Int32} {a4 : Int32} {z : gRs}  (hr : r_X8_laySong I L a1 a2 a3 a4 = some z) (hQ : Q (some (.int z.1)) (gKn n, gRf f g, z.2.1, z.2.2)) : gR gM (d + 2) 123 [.ref 57, .int a1, .int a2, .int a3, .int a4] (gKn n, gRf f g, I, L) Q := by
  unfold r_X8_laySong at hr
  show gW gM (d + 2) 0 0 k_X8_laySong 0 [.ref 57, .int a1, .int a2, .int a3, .int a4, .null, .null, .null, .null] [] (gKn n, gRf f g, I, L) Q
  refine r_aload rfl rfl ?_
  refine r_const rfl (gcst 0) ?_
  refine r_putI (c := 8) (k := 24) rfl rfl ⟨rfl, rfl⟩ ?_
  refine r_const rfl (gcst 0) ?_
  refine r_istore [.ref 57, .int a1, .int a2, .int a3, .int a4, .int (nI 0), .null, .null, .null] rfl rfl (Nat.le_of_ble_eq_true rfl) rfl ?_
  exact t_X8_laySong_5  hr hQ
def r_X8_loud_21  (K4 : Int32 → Int32 → Int32 → Int32 → (Nat → Nat → Int32) → (Nat → Nat → Int64) → Option gRs) (v1 : Int32) (v2 : Int32) (v4 : Int32) (s0 : Int32) (s1 : Int32) (I : Nat → Nat → Int32) (L : Nat → Nat → Int64) : Option gRs := (K4 v1 v2 (s0 + s1) (v4 + (nI 1)) I L)
set_option maxHeartbeats 4000000 in
set_option maxRecDepth 100000 in
theorem t_X8_loud_21 {n f g d : Nat} {Q : gP} {z : gRs}   {K4 : Int32 → Int32 → Int32 → Int32 → (Nat → Nat → Int32) → (Nat → Nat → Int64) → Option gRs} (hK4 : ∀ v1 v2 v3 v4 I L, K4 v1 v2 v3 v4 I L = some z → gW gM (d + 0) 0 0 k_X8_loud 4 [.ref 57, .int v1, .int v2, .int v3, .int v4] [] (gKn n, gRf f g, I, L) Q) {v1 : Int32} {v2 : Int32} {v4 : Int32} {s0 : Int32} {s1 : Int32} {I : Nat → Nat → Int32} {L : Nat → Nat → Int64} (hr : r_X8_loud_21 K4 v1 v2 v4 s0 s1 I L = some z) (hQ : Q (some (.int z.1)) (gKn n, gRf f g, z.2.1, z.2.2)) : gW gM (d + 0) 0 0 k_X8_loud 21 [.ref 57, .int v1, .int v2, .null, .int v4] [.int s1, .int s0] (gKn n, gRf f g, I, L) Q := by
  unfold r_X8_loud_21 at hr
  refine r_iadd rfl ?_
  refine r_istore [.ref 57, .int v1, .int v2, .int (s0 + s1), .int v4] rfl rfl (Nat.le_of_ble_eq_true rfl) rfl ?_
  refine r_iinc (y := (v4 + (nI 1))) [.ref 57, .int v1, .int v2, .int (s0 + s1), .int (v4 + (nI 1))] rfl rfl rfl (ginc _ 1) rfl ?_
  refine r_goto 4 rfl rfl ?_
  exact hK4 _ _ _ _ _ _ hr
def r_X8_loud_4   : Nat → Int32 → Int32 → Int32 → Int32 → (Nat → Nat → Int32) → (Nat → Nat → Int64) → Option gRs
  | 0, _, _, _, _, _, _ => none
  | m + 1, v1, v2, v3, v4, I, L => (if v2 ≤ v4 then some (v3, I, L) else (if gvp (((nI 12) * v1) + v4) 24 = true then (if ¬ (I 69 (gx (((nI 12) * v1) + v4))) = (nI 12) then (r_X8_loud_21 (r_X8_loud_4  m) v1 v2 v4 v3 (nI 1) I L) else (r_X8_loud_21 (r_X8_loud_4  m) v1 v2 v4 v3 (nI 0) I L)) else none))
set_option maxHeartbeats 4000000 in
set_option maxRecDepth 100000 in
theorem t_X8_loud_4 {n f g d : Nat} {Q : gP} {z : gRs}    : ∀ {m : Nat} {v1 : Int32} {v2 : Int32} {v3 : Int32} {v4 : Int32} {I : Nat → Nat → Int32} {L : Nat → Nat → Int64}, r_X8_loud_4 m v1 v2 v3 v4 I L = some z → Q (some (.int z.1)) (gKn n, gRf f g, z.2.1, z.2.2) → gW gM (d + 0) 0 0 k_X8_loud 4 [.ref 57, .int v1, .int v2, .int v3, .int v4] [] (gKn n, gRf f g, I, L) Q := by
  intro m
  induction m with
  | zero =>
    intro v1 v2 v3 v4 I L hr _
    cases hr
  | succ m ih =>
    intro v1 v2 v3 v4 I L hr hQ
    have hK4 : ∀ v1 v2 v3 v4 I L, r_X8_loud_4 m v1 v2 v3 v4 I L = some z → gW gM (d + 0) 0 0 k_X8_loud 4 [.ref 57, .int v1, .int v2, .int v3, .int v4] [] (gKn n, gRf f g, I, L) Q := fun v1 v2 v3 v4 I L hr => ih hr hQ
    unfold r_X8_loud_4 at hr
    refine r_iload rfl rfl ?_
    refine r_iload rfl rfl ?_
    refine r_icmp_ge 25 rfl rfl (fun c7 => ?_) (fun c7 => ?_)
    · rw [if_pos c7] at hr
      refine r_iload rfl rfl ?_
      refine r_iret rfl ?_
      cases hr
      exact hQ
    · rw [if_neg c7] at hr
      refine r_iload rfl rfl ?_
      refine r_aload rfl rfl ?_
      refine r_getR (c := 8) (k := 23) (v := 69) rfl rfl ⟨rfl, rfl⟩ rfl ?_
      refine r_const rfl (gcst 12) ?_
      refine r_iload rfl rfl ?_
      refine r_imul rfl ?_
      refine r_iload rfl rfl ?_
      refine r_iadd rfl ?_
      obtain ⟨b8, hr⟩ := gopt hr
      refine r_iaload (n := 24) rfl rfl (gvp_in b8) ?_
      refine r_const rfl (gcst 12) ?_
      refine r_icmp_ne 20 rfl rfl (fun c9 => ?_) (fun c9 => ?_)
      · rw [if_pos c9] at hr
        refine r_const rfl (gcst 1) ?_
        refine gforget (ls := [.ref 57, .int v1, .int v2, .null, .int v4]) ⟨(Or.inl rfl), ⟨(Or.inl rfl), ⟨(Or.inl rfl), ⟨(Or.inr (Or.inl ⟨rfl, _, rfl⟩)), ⟨(Or.inl rfl), trivial⟩⟩⟩⟩⟩ ?_
        exact t_X8_loud_21 hK4 hr hQ
      · rw [if_neg c9] at hr
        refine r_const rfl (gcst 0) ?_
        refine r_goto 21 rfl rfl ?_
        refine gforget (ls := [.ref 57, .int v1, .int v2, .null, .int v4]) ⟨(Or.inl rfl), ⟨(Or.inl rfl), ⟨(Or.inl rfl), ⟨(Or.inr (Or.inl ⟨rfl, _, rfl⟩)), ⟨(Or.inl rfl), trivial⟩⟩⟩⟩⟩ ?_
        exact t_X8_loud_21 hK4 hr hQ
def r_X8_loud (I : Nat → Nat → Int32) (L : Nat → Nat → Int64) (a1 : Int32) (a2 : Int32) : Option gRs := (r_X8_loud_4 100 a1 a2 (nI 0) (nI 0) I L)
set_option maxHeartbeats 4000000 in
set_option maxRecDepth 100000 in
theorem s_X8_loud {n f g d : Nat} {Q : gP} {I : Nat → Nat → Int32} {L : Nat → Nat → Int64} {a1 : Int32} {a2 : Int32} {z : gRs}  (hr : r_X8_loud I L a1 a2 = some z) (hQ : Q (some (.int z.1)) (gKn n, gRf f g, z.2.1, z.2.2)) : gR gM (d + 0) 124 [.ref 57, .int a1, .int a2] (gKn n, gRf f g, I, L) Q := by
  unfold r_X8_loud at hr
  show gW gM (d + 0) 0 0 k_X8_loud 0 [.ref 57, .int a1, .int a2, .null, .null] [] (gKn n, gRf f g, I, L) Q
  refine r_const rfl (gcst 0) ?_
  refine r_istore [.ref 57, .int a1, .int a2, .int (nI 0), .null] rfl rfl (Nat.le_of_ble_eq_true rfl) rfl ?_
  refine r_const rfl (gcst 0) ?_
  refine r_istore [.ref 57, .int a1, .int a2, .int (nI 0), .int (nI 0)] rfl rfl (Nat.le_of_ble_eq_true rfl) rfl ?_
  exact t_X8_loud_4  hr hQ
def r_X8_addSung_14   : Nat → Int32 → Int32 → Int32 → (Nat → Nat → Int32) → (Nat → Nat → Int64) → Option gRs
  | 0, _, _, _, _, _ => none
  | m + 1, v2, v3, v4, I, L => (if (nI 11) ≤ v4 then (if gvp (v3 + (nI 14)) 54 = true then (if gvp (v3 + (nI 14)) 54 = true then (if gvp ((v3 + (nI 15)) + ((gu2 I 63 (gx (v3 + (nI 14))) (nI 11)) 63 (gx (v3 + (nI 14))))) 54 = true then (if gvp (v3 + (nI 14)) 54 = true then (if gvp (v3 + (nI 14)) 54 = true then some (0, (gu2 (gu2 (gu2 I 63 (gx (v3 + (nI 14))) (nI 11)) 63 (gx ((v3 + (nI 15)) + ((gu2 I 63 (gx (v3 + (nI 14))) (nI 11)) 63 (gx (v3 + (nI 14)))))) v2) 63 (gx (v3 + (nI 14))) (((gu2 (gu2 I 63 (gx (v3 + (nI 14))) (nI 11)) 63 (gx ((v3 + (nI 15)) + ((gu2 I 63 (gx (v3 + (nI 14))) (nI 11)) 63 (gx (v3 + (nI 14)))))) v2) 63 (gx (v3 + (nI 14)))) + (nI 1))), L) else none) else none) else none) else none) else none) else (if gvp (((v3 + (nI 15)) + v4) + (nI 1)) 54 = true then (if gvp ((v3 + (nI 15)) + v4) 54 = true then (r_X8_addSung_14  m v2 v3 (v4 + (nI 1)) (gu2 I 63 (gx ((v3 + (nI 15)) + v4)) (I 63 (gx (((v3 + (nI 15)) + v4) + (nI 1))))) L) else none) else none))
set_option maxHeartbeats 4000000 in
set_option maxRecDepth 100000 in
theorem t_X8_addSung_14 {n f g d : Nat} {Q : gP} {z : gRs}    : ∀ {m : Nat} {v2 : Int32} {v3 : Int32} {v4 : Int32} {I : Nat → Nat → Int32} {L : Nat → Nat → Int64}, r_X8_addSung_14 m v2 v3 v4 I L = some z → Q none (gKn n, gRf f g, z.2.1, z.2.2) → gW gM (d + 0) 0 0 k_X8_addSung 14 [.ref 57, .null, .int v2, .int v3, .int v4] [] (gKn n, gRf f g, I, L) Q := by
  intro m
  induction m with
  | zero =>
    intro v2 v3 v4 I L hr _
    cases hr
  | succ m ih =>
    intro v2 v3 v4 I L hr hQ
    have hK14 : ∀ v2 v3 v4 I L, r_X8_addSung_14 m v2 v3 v4 I L = some z → gW gM (d + 0) 0 0 k_X8_addSung 14 [.ref 57, .null, .int v2, .int v3, .int v4] [] (gKn n, gRf f g, I, L) Q := fun v2 v3 v4 I L hr => ih hr hQ
    unfold r_X8_addSung_14 at hr
    refine r_iload rfl rfl ?_
    refine r_const rfl (gcst 11) ?_
    refine r_icmp_ge 37 rfl rfl (fun c15 => ?_) (fun c15 => ?_)
    · rw [if_pos c15] at hr
      refine r_aload rfl rfl ?_
      refine r_getR (c := 8) (k := 9) (v := 63) rfl rfl ⟨rfl, rfl⟩ rfl ?_
      refine r_iload rfl rfl ?_
      refine r_const rfl (gcst 14) ?_
      refine r_iadd rfl ?_
      refine r_const rfl (gcst 11) ?_
      obtain ⟨b16, hr⟩ := gopt hr
      refine r_iastore (n := 54) rfl rfl (gvp_in b16) (by decide) ?_
      refine r_aload rfl rfl ?_
      refine r_getR (c := 8) (k := 9) (v := 63) rfl rfl ⟨rfl, rfl⟩ rfl ?_
      refine r_iload rfl rfl ?_
      refine r_const rfl (gcst 15) ?_
      refine r_iadd rfl ?_
      refine r_aload rfl rfl ?_
      refine r_getR (c := 8) (k := 9) (v := 63) rfl rfl ⟨rfl, rfl⟩ rfl ?_
      refine r_iload rfl rfl ?_
      refine r_const rfl (gcst 14) ?_
      refine r_iadd rfl ?_
      obtain ⟨b17, hr⟩ := gopt hr
      refine r_iaload (n := 54) rfl rfl (gvp_in b17) ?_
      refine r_iadd rfl ?_
      refine r_iload rfl rfl ?_
      obtain ⟨b18, hr⟩ := gopt hr
      refine r_iastore (n := 54) rfl rfl (gvp_in b18) (by decide) ?_
      refine r_aload rfl rfl ?_
      refine r_getR (c := 8) (k := 9) (v := 63) rfl rfl ⟨rfl, rfl⟩ rfl ?_
      refine r_iload rfl rfl ?_
      refine r_const rfl (gcst 14) ?_
      refine r_iadd rfl ?_
      refine r_dup2 rfl rfl rfl ?_
      obtain ⟨b19, hr⟩ := gopt hr
      refine r_iaload (n := 54) rfl rfl (gvp_in b19) ?_
      refine r_const rfl (gcst 1) ?_
      refine r_iadd rfl ?_
      obtain ⟨b20, hr⟩ := gopt hr
      refine r_iastore (n := 54) rfl rfl (gvp_in b20) (by decide) ?_
      refine r_vret rfl ?_
      cases hr
      exact hQ
    · rw [if_neg c15] at hr
      refine r_aload rfl rfl ?_
      refine r_getR (c := 8) (k := 9) (v := 63) rfl rfl ⟨rfl, rfl⟩ rfl ?_
      refine r_iload rfl rfl ?_
      refine r_const rfl (gcst 15) ?_
      refine r_iadd rfl ?_
      refine r_iload rfl rfl ?_
      refine r_iadd rfl ?_
      refine r_aload rfl rfl ?_
      refine r_getR (c := 8) (k := 9) (v := 63) rfl rfl ⟨rfl, rfl⟩ rfl ?_
      refine r_iload rfl rfl ?_
      refine r_const rfl (gcst 15) ?_
      refine r_iadd rfl ?_
      refine r_iload rfl rfl ?_
      refine r_iadd rfl ?_
      refine r_const rfl (gcst 1) ?_
      refine r_iadd rfl ?_
      obtain ⟨b21, hr⟩ := gopt hr
      refine r_iaload (n := 54) rfl rfl (gvp_in b21) ?_
      obtain ⟨b22, hr⟩ := gopt hr
      refine r_iastore (n := 54) rfl rfl (gvp_in b22) (by decide) ?_
      refine r_iinc (y := (v4 + (nI 1))) [.ref 57, .null, .int v2, .int v3, .int (v4 + (nI 1))] rfl rfl rfl (ginc _ 1) rfl ?_
      refine r_goto 14 rfl rfl ?_
      exact hK14 _ _ _ _ _ hr
def r_X8_addSung (I : Nat → Nat → Int32) (L : Nat → Nat → Int64) (a1 : Int32) (a2 : Int32) : Option gRs := (if gvp (((nI 27) * a1) + (nI 14)) 54 = true then (if ¬ (I 63 (gx (((nI 27) * a1) + (nI 14)))) = (nI 12) then (if gvp (((nI 27) * a1) + (nI 14)) 54 = true then (if gvp ((((nI 27) * a1) + (nI 15)) + (I 63 (gx (((nI 27) * a1) + (nI 14))))) 54 = true then (if gvp (((nI 27) * a1) + (nI 14)) 54 = true then (if gvp (((nI 27) * a1) + (nI 14)) 54 = true then some (0, (gu2 (gu2 I 63 (gx ((((nI 27) * a1) + (nI 15)) + (I 63 (gx (((nI 27) * a1) + (nI 14)))))) a2) 63 (gx (((nI 27) * a1) + (nI 14))) (((gu2 I 63 (gx ((((nI 27) * a1) + (nI 15)) + (I 63 (gx (((nI 27) * a1) + (nI 14)))))) a2) 63 (gx (((nI 27) * a1) + (nI 14)))) + (nI 1))), L) else none) else none) else none) else none) else (r_X8_addSung_14 100 a2 ((nI 27) * a1) (nI 0) I L)) else none)
set_option maxHeartbeats 4000000 in
set_option maxRecDepth 100000 in
theorem s_X8_addSung {n f g d : Nat} {Q : gP} {I : Nat → Nat → Int32} {L : Nat → Nat → Int64} {a1 : Int32} {a2 : Int32} {z : gRs}  (hr : r_X8_addSung I L a1 a2 = some z) (hQ : Q none (gKn n, gRf f g, z.2.1, z.2.2)) : gR gM (d + 0) 125 [.ref 57, .int a1, .int a2] (gKn n, gRf f g, I, L) Q := by
  unfold r_X8_addSung at hr
  show gW gM (d + 0) 0 0 k_X8_addSung 0 [.ref 57, .int a1, .int a2, .null, .null] [] (gKn n, gRf f g, I, L) Q
  refine r_const rfl (gcst 27) ?_
  refine r_iload rfl rfl ?_
  refine r_imul rfl ?_
  refine r_istore [.ref 57, .int a1, .int a2, .int ((nI 27) * a1), .null] rfl rfl (Nat.le_of_ble_eq_true rfl) rfl ?_
  refine r_aload rfl rfl ?_
  refine r_getR (c := 8) (k := 9) (v := 63) rfl rfl ⟨rfl, rfl⟩ rfl ?_
  refine r_iload rfl rfl ?_
  refine r_const rfl (gcst 14) ?_
  refine r_iadd rfl ?_
  obtain ⟨b23, hr⟩ := gopt hr
  refine r_iaload (n := 54) rfl rfl (gvp_in b23) ?_
  refine r_const rfl (gcst 12) ?_
  refine r_icmp_ne 44 rfl rfl (fun c24 => ?_) (fun c24 => ?_)
  · rw [if_pos c24] at hr
    refine r_aload rfl rfl ?_
    refine r_getR (c := 8) (k := 9) (v := 63) rfl rfl ⟨rfl, rfl⟩ rfl ?_
    refine r_iload rfl rfl ?_
    refine r_const rfl (gcst 15) ?_
    refine r_iadd rfl ?_
    refine r_aload rfl rfl ?_
    refine r_getR (c := 8) (k := 9) (v := 63) rfl rfl ⟨rfl, rfl⟩ rfl ?_
    refine r_iload rfl rfl ?_
    refine r_const rfl (gcst 14) ?_
    refine r_iadd rfl ?_
    obtain ⟨b25, hr⟩ := gopt hr
    refine r_iaload (n := 54) rfl rfl (gvp_in b25) ?_
    refine r_iadd rfl ?_
    refine r_iload rfl rfl ?_
    obtain ⟨b26, hr⟩ := gopt hr
    refine r_iastore (n := 54) rfl rfl (gvp_in b26) (by decide) ?_
    refine r_aload rfl rfl ?_
    refine r_getR (c := 8) (k := 9) (v := 63) rfl rfl ⟨rfl, rfl⟩ rfl ?_
    refine r_iload rfl rfl ?_
    refine r_const rfl (gcst 14) ?_
    refine r_iadd rfl ?_
    refine r_dup2 rfl rfl rfl ?_
    obtain ⟨b27, hr⟩ := gopt hr
    refine r_iaload (n := 54) rfl rfl (gvp_in b27) ?_
    refine r_const rfl (gcst 1) ?_
    refine r_iadd rfl ?_
    obtain ⟨b28, hr⟩ := gopt hr
    refine r_iastore (n := 54) rfl rfl (gvp_in b28) (by decide) ?_
    refine r_vret rfl ?_
    cases hr
    exact hQ
  · rw [if_neg c24] at hr
    refine r_const rfl (gcst 0) ?_
    refine r_istore [.ref 57, .int a1, .int a2, .int ((nI 27) * a1), .int (nI 0)] rfl rfl (Nat.le_of_ble_eq_true rfl) rfl ?_
    refine gforget (ls := [.ref 57, .null, .int a2, .int ((nI 27) * a1), .int (nI 0)]) ⟨(Or.inl rfl), ⟨(Or.inr (Or.inl ⟨rfl, _, rfl⟩)), ⟨(Or.inl rfl), ⟨(Or.inl rfl), ⟨(Or.inl rfl), trivial⟩⟩⟩⟩⟩ ?_
    exact t_X8_addSung_14  hr hQ
def r_X8_driveOn_57  (K27 : Int32 → Int32 → Int32 → Int32 → Int32 → (Nat → Nat → Int32) → (Nat → Nat → Int64) → Option gRs) (v2 : Int32) (v3 : Int32) (v4 : Int32) (v5 : Int32) (v6 : Int32) (s1 : Int32) (s2 : Int32) (s3 : Int32) (I : Nat → Nat → Int32) (L : Nat → Nat → Int64) : Option gRs := (if gvp s1 54 = true then (K27 v2 v3 v4 v5 (v6 + (nI 1)) (gu2 I 63 (gx s1) (s2 + s3)) L) else none)
set_option maxHeartbeats 4000000 in
set_option maxRecDepth 100000 in
theorem t_X8_driveOn_57 {n f g d : Nat} {Q : gP} {z : gRs}   {K27 : Int32 → Int32 → Int32 → Int32 → Int32 → (Nat → Nat → Int32) → (Nat → Nat → Int64) → Option gRs} (hK27 : ∀ v2 v3 v4 v5 v6 I L, K27 v2 v3 v4 v5 v6 I L = some z → gW gM (d + 3) 0 0 k_X8_driveOn 27 [.ref 57, .null, .int v2, .int v3, .int v4, .int v5, .int v6, .null] [] (gKn n, gRf f g, I, L) Q) {v2 : Int32} {v3 : Int32} {v4 : Int32} {v5 : Int32} {v6 : Int32} {s1 : Int32} {s2 : Int32} {s3 : Int32} {I : Nat → Nat → Int32} {L : Nat → Nat → Int64} (hr : r_X8_driveOn_57 K27 v2 v3 v4 v5 v6 s1 s2 s3 I L = some z) (hQ : Q (some (.int z.1)) (gKn n, gRf f g, z.2.1, z.2.2)) : gW gM (d + 3) 0 0 k_X8_driveOn 57 [.ref 57, .null, .int v2, .int v3, .int v4, .int v5, .int v6, .null] [.int s3, .int s2, .int s1, .ref 63] (gKn n, gRf f g, I, L) Q := by
  unfold r_X8_driveOn_57 at hr
  refine r_iadd rfl ?_
  obtain ⟨b26, hr⟩ := gopt hr
  refine r_iastore (n := 54) rfl rfl (gvp_in b26) (by decide) ?_
  refine r_iinc (y := (v6 + (nI 1))) [.ref 57, .null, .int v2, .int v3, .int v4, .int v5, .int (v6 + (nI 1)), .null] rfl rfl rfl (ginc _ 1) rfl ?_
  refine r_goto 27 rfl rfl ?_
  exact hK27 _ _ _ _ _ _ _ hr
def r_X8_driveOn_27   : Nat → Int32 → Int32 → Int32 → Int32 → Int32 → (Nat → Nat → Int32) → (Nat → Nat → Int64) → Option gRs
  | 0, _, _, _, _, _, _, _ => none
  | m + 1, v2, v3, v4, v5, v6, I, L => (if (nI 3) ≤ v6 then (if gvp (v4 + (nI 12)) 54 = true then (if gvp (v4 + (nI 12)) 54 = true then ((r_X8_loud (gu2 I 63 (gx (v4 + (nI 12))) ((I 63 (gx (v4 + (nI 12)))) ||| (gshl (nI 1) v2))) L (nI 0) v5).bind (fun z30 => some (z30.1, z30.2.1, z30.2.2))) else none) else none) else (if gvp (((nI 3) * v3) + v6) 9 = true then (if gvp ((v4 + (nI 5)) + (I 59 (gx (((nI 3) * v3) + v6)))) 54 = true then (if gvp ((v4 + (nI 5)) + (I 59 (gx (((nI 3) * v3) + v6)))) 54 = true then (if (nI 3) ≤ (I 63 (gx ((v4 + (nI 5)) + (I 59 (gx (((nI 3) * v3) + v6)))))) then (r_X8_driveOn_57 (r_X8_driveOn_27  m) v2 v3 v4 v5 v6 ((v4 + (nI 5)) + (I 59 (gx (((nI 3) * v3) + v6)))) (I 63 (gx ((v4 + (nI 5)) + (I 59 (gx (((nI 3) * v3) + v6)))))) (nI 0) I L) else (r_X8_driveOn_57 (r_X8_driveOn_27  m) v2 v3 v4 v5 v6 ((v4 + (nI 5)) + (I 59 (gx (((nI 3) * v3) + v6)))) (I 63 (gx ((v4 + (nI 5)) + (I 59 (gx (((nI 3) * v3) + v6)))))) (nI 1) I L)) else none) else none) else none))
set_option maxHeartbeats 4000000 in
set_option maxRecDepth 100000 in
theorem t_X8_driveOn_27 {n f g d : Nat} {Q : gP} {z : gRs}    : ∀ {m : Nat} {v2 : Int32} {v3 : Int32} {v4 : Int32} {v5 : Int32} {v6 : Int32} {I : Nat → Nat → Int32} {L : Nat → Nat → Int64}, r_X8_driveOn_27 m v2 v3 v4 v5 v6 I L = some z → Q (some (.int z.1)) (gKn n, gRf f g, z.2.1, z.2.2) → gW gM (d + 3) 0 0 k_X8_driveOn 27 [.ref 57, .null, .int v2, .int v3, .int v4, .int v5, .int v6, .null] [] (gKn n, gRf f g, I, L) Q := by
  intro m
  induction m with
  | zero =>
    intro v2 v3 v4 v5 v6 I L hr _
    cases hr
  | succ m ih =>
    intro v2 v3 v4 v5 v6 I L hr hQ
    have hK27 : ∀ v2 v3 v4 v5 v6 I L, r_X8_driveOn_27 m v2 v3 v4 v5 v6 I L = some z → gW gM (d + 3) 0 0 k_X8_driveOn 27 [.ref 57, .null, .int v2, .int v3, .int v4, .int v5, .int v6, .null] [] (gKn n, gRf f g, I, L) Q := fun v2 v3 v4 v5 v6 I L hr => ih hr hQ
    unfold r_X8_driveOn_27 at hr
    refine r_iload rfl rfl ?_
    refine r_const rfl (gcst 3) ?_
    refine r_icmp_ge 61 rfl rfl (fun c27 => ?_) (fun c27 => ?_)
    · rw [if_pos c27] at hr
      refine r_aload rfl rfl ?_
      refine r_getR (c := 8) (k := 9) (v := 63) rfl rfl ⟨rfl, rfl⟩ rfl ?_
      refine r_iload rfl rfl ?_
      refine r_const rfl (gcst 12) ?_
      refine r_iadd rfl ?_
      refine r_dup2 rfl rfl rfl ?_
      obtain ⟨b28, hr⟩ := gopt hr
      refine r_iaload (n := 54) rfl rfl (gvp_in b28) ?_
      refine r_const rfl (gcst 1) ?_
      refine r_iload rfl rfl ?_
      refine r_ishl rfl ?_
      refine r_ior rfl ?_
      obtain ⟨b29, hr⟩ := gopt hr
      refine r_iastore (n := 54) rfl rfl (gvp_in b29) (by decide) ?_
      refine r_aload rfl rfl ?_
      refine r_const rfl (gcst 0) ?_
      refine r_iload rfl rfl ?_
      obtain ⟨z30, hz30, hr⟩ := gbnd hr
      refine r_invv (a := 57) [.int (nI 0), .int v5] rfl rfl rfl rfl rfl (Nat.le_of_ble_eq_true rfl) ⟨rfl, rfl⟩ ?_
      refine s_X8_loud  hz30 ?_
      show gW _ _ _ _ _ 77 [.ref 57, .null, .int v2, .int v3, .int v4, .int v5, .int v6, .null] [.int z30.1] (gKn n, gRf f g, z30.2.1, z30.2.2) _
      refine r_iret rfl ?_
      cases hr
      exact hQ
    · rw [if_neg c27] at hr
      refine r_iload rfl rfl ?_
      refine r_const rfl (gcst 5) ?_
      refine r_iadd rfl ?_
      refine r_aload rfl rfl ?_
      refine r_getR (c := 8) (k := 5) (v := 59) rfl rfl ⟨rfl, rfl⟩ rfl ?_
      refine r_const rfl (gcst 3) ?_
      refine r_iload rfl rfl ?_
      refine r_imul rfl ?_
      refine r_iload rfl rfl ?_
      refine r_iadd rfl ?_
      obtain ⟨b31, hr⟩ := gopt hr
      refine r_iaload (n := 9) rfl rfl (gvp_in b31) ?_
      refine r_iadd rfl ?_
      refine r_istore [.ref 57, .null, .int v2, .int v3, .int v4, .int v5, .int v6, .int ((v4 + (nI 5)) + (I 59 (gx (((nI 3) * v3) + v6))))] rfl rfl (Nat.le_of_ble_eq_true rfl) rfl ?_
      refine r_aload rfl rfl ?_
      refine r_getR (c := 8) (k := 9) (v := 63) rfl rfl ⟨rfl, rfl⟩ rfl ?_
      refine r_iload rfl rfl ?_
      refine r_dup2 rfl rfl rfl ?_
      obtain ⟨b32, hr⟩ := gopt hr
      refine r_iaload (n := 54) rfl rfl (gvp_in b32) ?_
      refine r_aload rfl rfl ?_
      refine r_getR (c := 8) (k := 9) (v := 63) rfl rfl ⟨rfl, rfl⟩ rfl ?_
      refine r_iload rfl rfl ?_
      obtain ⟨b33, hr⟩ := gopt hr
      refine r_iaload (n := 54) rfl rfl (gvp_in b33) ?_
      refine r_const rfl (gcst 3) ?_
      refine r_icmp_ge 56 rfl rfl (fun c34 => ?_) (fun c34 => ?_)
      · rw [if_pos c34] at hr
        refine r_const rfl (gcst 0) ?_
        refine gforget (ls := [.ref 57, .null, .int v2, .int v3, .int v4, .int v5, .int v6, .null]) ⟨(Or.inl rfl), ⟨(Or.inl rfl), ⟨(Or.inl rfl), ⟨(Or.inl rfl), ⟨(Or.inl rfl), ⟨(Or.inl rfl), ⟨(Or.inl rfl), ⟨(Or.inr (Or.inl ⟨rfl, _, rfl⟩)), trivial⟩⟩⟩⟩⟩⟩⟩⟩ ?_
        exact t_X8_driveOn_57 hK27 hr hQ
      · rw [if_neg c34] at hr
        refine r_const rfl (gcst 1) ?_
        refine r_goto 57 rfl rfl ?_
        refine gforget (ls := [.ref 57, .null, .int v2, .int v3, .int v4, .int v5, .int v6, .null]) ⟨(Or.inl rfl), ⟨(Or.inl rfl), ⟨(Or.inl rfl), ⟨(Or.inl rfl), ⟨(Or.inl rfl), ⟨(Or.inl rfl), ⟨(Or.inl rfl), ⟨(Or.inr (Or.inl ⟨rfl, _, rfl⟩)), trivial⟩⟩⟩⟩⟩⟩⟩⟩ ?_
        exact t_X8_driveOn_57 hK27 hr hQ
def r_X8_driveOn_13   : Nat → Int32 → Int32 → Int32 → Int32 → Int32 → Int32 → (Nat → Nat → Int32) → (Nat → Nat → Int64) → Option gRs
  | 0, _, _, _, _, _, _, _, _ => none
  | m + 1, v1, v2, v3, v4, v5, v6, I, L => (if v5 ≤ v6 then (r_X8_driveOn_27 100 v2 v3 v4 v5 (nI 0) I L) else (if gvp v6 24 = true then ((r_X8_addSung I L v1 (I 69 (gx v6))).bind (fun z37 => (r_X8_driveOn_13  m v1 v2 v3 v4 v5 (v6 + (nI 1)) z37.2.1 z37.2.2))) else none))
set_option maxHeartbeats 4000000 in
set_option maxRecDepth 100000 in
theorem t_X8_driveOn_13 {n f g d : Nat} {Q : gP} {z : gRs}    : ∀ {m : Nat} {v1 : Int32} {v2 : Int32} {v3 : Int32} {v4 : Int32} {v5 : Int32} {v6 : Int32} {I : Nat → Nat → Int32} {L : Nat → Nat → Int64}, r_X8_driveOn_13 m v1 v2 v3 v4 v5 v6 I L = some z → Q (some (.int z.1)) (gKn n, gRf f g, z.2.1, z.2.2) → gW gM (d + 3) 0 0 k_X8_driveOn 13 [.ref 57, .int v1, .int v2, .int v3, .int v4, .int v5, .int v6, .null] [] (gKn n, gRf f g, I, L) Q := by
  intro m
  induction m with
  | zero =>
    intro v1 v2 v3 v4 v5 v6 I L hr _
    cases hr
  | succ m ih =>
    intro v1 v2 v3 v4 v5 v6 I L hr hQ
    have hK13 : ∀ v1 v2 v3 v4 v5 v6 I L, r_X8_driveOn_13 m v1 v2 v3 v4 v5 v6 I L = some z → gW gM (d + 3) 0 0 k_X8_driveOn 13 [.ref 57, .int v1, .int v2, .int v3, .int v4, .int v5, .int v6, .null] [] (gKn n, gRf f g, I, L) Q := fun v1 v2 v3 v4 v5 v6 I L hr => ih hr hQ
    unfold r_X8_driveOn_13 at hr
    refine r_iload rfl rfl ?_
    refine r_iload rfl rfl ?_
    refine r_icmp_ge 25 rfl rfl (fun c35 => ?_) (fun c35 => ?_)
    · rw [if_pos c35] at hr
      refine r_const rfl (gcst 0) ?_
      refine r_istore [.ref 57, .int v1, .int v2, .int v3, .int v4, .int v5, .int (nI 0), .null] rfl rfl (Nat.le_of_ble_eq_true rfl) rfl ?_
      refine gforget (ls := [.ref 57, .null, .int v2, .int v3, .int v4, .int v5, .int (nI 0), .null]) ⟨(Or.inl rfl), ⟨(Or.inr (Or.inl ⟨rfl, _, rfl⟩)), ⟨(Or.inl rfl), ⟨(Or.inl rfl), ⟨(Or.inl rfl), ⟨(Or.inl rfl), ⟨(Or.inl rfl), ⟨(Or.inl rfl), trivial⟩⟩⟩⟩⟩⟩⟩⟩ ?_
      exact t_X8_driveOn_27  hr hQ
    · rw [if_neg c35] at hr
      refine r_aload rfl rfl ?_
      refine r_iload rfl rfl ?_
      refine r_aload rfl rfl ?_
      refine r_getR (c := 8) (k := 23) (v := 69) rfl rfl ⟨rfl, rfl⟩ rfl ?_
      refine r_iload rfl rfl ?_
      obtain ⟨b36, hr⟩ := gopt hr
      refine r_iaload (n := 24) rfl rfl (gvp_in b36) ?_
      obtain ⟨z37, hz37, hr⟩ := gbnd hr
      refine r_invv (a := 57) [.int v1, .int (I 69 (gx v6))] rfl rfl rfl rfl rfl (Nat.le_of_ble_eq_true rfl) ⟨rfl, rfl⟩ ?_
      refine s_X8_addSung  hz37 ?_
      show gW _ _ _ _ _ 23 [.ref 57, .int v1, .int v2, .int v3, .int v4, .int v5, .int v6, .null] [] (gKn n, gRf f g, z37.2.1, z37.2.2) _
      refine r_iinc (y := (v6 + (nI 1))) [.ref 57, .int v1, .int v2, .int v3, .int v4, .int v5, .int (v6 + (nI 1)), .null] rfl rfl rfl (ginc _ 1) rfl ?_
      refine r_goto 13 rfl rfl ?_
      exact hK13 _ _ _ _ _ _ _ _ hr
def r_X8_driveOn (I : Nat → Nat → Int32) (L : Nat → Nat → Int64) (a1 : Int32) (a2 : Int32) (a3 : Int32) : Option gRs := ((r_X8_laySong I L a1 (nI 0) a2 a3).bind (fun z38 => (r_X8_driveOn_13 100 a1 a2 a3 ((nI 27) * a1) z38.1 (nI 0) z38.2.1 z38.2.2)))
set_option maxHeartbeats 4000000 in
set_option maxRecDepth 100000 in
theorem s_X8_driveOn {n f g d : Nat} {Q : gP} {I : Nat → Nat → Int32} {L : Nat → Nat → Int64} {a1 : Int32} {a2 : Int32} {a3 : Int32} {z : gRs}  (hr : r_X8_driveOn I L a1 a2 a3 = some z) (hQ : Q (some (.int z.1)) (gKn n, gRf f g, z.2.1, z.2.2)) : gR gM (d + 3) 126 [.ref 57, .int a1, .int a2, .int a3] (gKn n, gRf f g, I, L) Q := by
  unfold r_X8_driveOn at hr
  show gW gM (d + 3) 0 0 k_X8_driveOn 0 [.ref 57, .int a1, .int a2, .int a3, .null, .null, .null, .null] [] (gKn n, gRf f g, I, L) Q
  refine r_const rfl (gcst 27) ?_
  refine r_iload rfl rfl ?_
  refine r_imul rfl ?_
  refine r_istore [.ref 57, .int a1, .int a2, .int a3, .int ((nI 27) * a1), .null, .null, .null] rfl rfl (Nat.le_of_ble_eq_true rfl) rfl ?_
  refine r_aload rfl rfl ?_
  refine r_iload rfl rfl ?_
  refine r_const rfl (gcst 0) ?_
  refine r_iload rfl rfl ?_
  refine r_iload rfl rfl ?_
  obtain ⟨z38, hz38, hr⟩ := gbnd hr
  refine r_invv (a := 57) [.int a1, .int (nI 0), .int a2, .int a3] rfl rfl rfl rfl rfl (Nat.le_of_ble_eq_true rfl) ⟨rfl, rfl⟩ ?_
  refine s_X8_laySong  hz38 ?_
  show gW _ _ _ _ _ 10 [.ref 57, .int a1, .int a2, .int a3, .int ((nI 27) * a1), .null, .null, .null] [.int z38.1] (gKn n, gRf f g, z38.2.1, z38.2.2) _
  refine r_istore [.ref 57, .int a1, .int a2, .int a3, .int ((nI 27) * a1), .int z38.1, .null, .null] rfl rfl (Nat.le_of_ble_eq_true rfl) rfl ?_
  refine r_const rfl (gcst 0) ?_
  refine r_istore [.ref 57, .int a1, .int a2, .int a3, .int ((nI 27) * a1), .int z38.1, .int (nI 0), .null] rfl rfl (Nat.le_of_ble_eq_true rfl) rfl ?_
  exact t_X8_driveOn_13  hr hQ
def r_X8_lanesOf_24  (K4 : Int32 → Int32 → Int32 → (Nat → Nat → Int32) → (Nat → Nat → Int64) → Option gRs) (v1 : Int32) (v3 : Int32) (s0 : Int32) (s1 : Int32) (I : Nat → Nat → Int32) (L : Nat → Nat → Int64) : Option gRs := (K4 v1 (s0 ||| s1) (v3 + (nI 1)) I L)
set_option maxHeartbeats 4000000 in
set_option maxRecDepth 100000 in
theorem t_X8_lanesOf_24 {n f g d : Nat} {Q : gP} {z : gRs}   {K4 : Int32 → Int32 → Int32 → (Nat → Nat → Int32) → (Nat → Nat → Int64) → Option gRs} (hK4 : ∀ v1 v2 v3 I L, K4 v1 v2 v3 I L = some z → gW gM (d + 0) 0 0 k_X8_lanesOf 4 [.ref 57, .int v1, .int v2, .int v3] [] (gKn n, gRf f g, I, L) Q) {v1 : Int32} {v3 : Int32} {s0 : Int32} {s1 : Int32} {I : Nat → Nat → Int32} {L : Nat → Nat → Int64} (hr : r_X8_lanesOf_24 K4 v1 v3 s0 s1 I L = some z) (hQ : Q (some (.int z.1)) (gKn n, gRf f g, z.2.1, z.2.2)) : gW gM (d + 0) 0 0 k_X8_lanesOf 24 [.ref 57, .int v1, .null, .int v3] [.int s1, .int s0] (gKn n, gRf f g, I, L) Q := by
  unfold r_X8_lanesOf_24 at hr
  refine r_ior rfl ?_
  refine r_istore [.ref 57, .int v1, .int (s0 ||| s1), .int v3] rfl rfl (Nat.le_of_ble_eq_true rfl) rfl ?_
  refine r_iinc (y := (v3 + (nI 1))) [.ref 57, .int v1, .int (s0 ||| s1), .int (v3 + (nI 1))] rfl rfl rfl (ginc _ 1) rfl ?_
  refine r_goto 4 rfl rfl ?_
  exact hK4 _ _ _ _ _ hr
def r_X8_lanesOf_4   : Nat → Int32 → Int32 → Int32 → (Nat → Nat → Int32) → (Nat → Nat → Int64) → Option gRs
  | 0, _, _, _, _, _ => none
  | m + 1, v1, v2, v3, I, L => (if ((nI 3) * (I 57 1)) ≤ v3 then some (v2, I, L) else (if gvp v3 9 = true then (if ¬ (I 59 (gx v3)) = v1 then (r_X8_lanesOf_24 (r_X8_lanesOf_4  m) v1 v3 v2 (nI 0) I L) else (r_X8_lanesOf_24 (r_X8_lanesOf_4  m) v1 v3 v2 (gshl (nI 1) (v3 / (nI 3))) I L)) else none))
set_option maxHeartbeats 4000000 in
set_option maxRecDepth 100000 in
theorem t_X8_lanesOf_4 {n f g d : Nat} {Q : gP} {z : gRs}    : ∀ {m : Nat} {v1 : Int32} {v2 : Int32} {v3 : Int32} {I : Nat → Nat → Int32} {L : Nat → Nat → Int64}, r_X8_lanesOf_4 m v1 v2 v3 I L = some z → Q (some (.int z.1)) (gKn n, gRf f g, z.2.1, z.2.2) → gW gM (d + 0) 0 0 k_X8_lanesOf 4 [.ref 57, .int v1, .int v2, .int v3] [] (gKn n, gRf f g, I, L) Q := by
  intro m
  induction m with
  | zero =>
    intro v1 v2 v3 I L hr _
    cases hr
  | succ m ih =>
    intro v1 v2 v3 I L hr hQ
    have hK4 : ∀ v1 v2 v3 I L, r_X8_lanesOf_4 m v1 v2 v3 I L = some z → gW gM (d + 0) 0 0 k_X8_lanesOf 4 [.ref 57, .int v1, .int v2, .int v3] [] (gKn n, gRf f g, I, L) Q := fun v1 v2 v3 I L hr => ih hr hQ
    unfold r_X8_lanesOf_4 at hr
    refine r_iload rfl rfl ?_
    refine r_const rfl (gcst 3) ?_
    refine r_aload rfl rfl ?_
    refine r_getI (c := 8) (k := 1) rfl rfl ⟨rfl, rfl⟩ ?_
    refine r_imul rfl ?_
    refine r_icmp_ge 28 rfl rfl (fun c7 => ?_) (fun c7 => ?_)
    · rw [if_pos c7] at hr
      refine r_iload rfl rfl ?_
      refine r_iret rfl ?_
      cases hr
      exact hQ
    · rw [if_neg c7] at hr
      refine r_iload rfl rfl ?_
      refine r_aload rfl rfl ?_
      refine r_getR (c := 8) (k := 5) (v := 59) rfl rfl ⟨rfl, rfl⟩ rfl ?_
      refine r_iload rfl rfl ?_
      obtain ⟨b8, hr⟩ := gopt hr
      refine r_iaload (n := 9) rfl rfl (gvp_in b8) ?_
      refine r_iload rfl rfl ?_
      refine r_icmp_ne 23 rfl rfl (fun c9 => ?_) (fun c9 => ?_)
      · rw [if_pos c9] at hr
        refine r_const rfl (gcst 0) ?_
        refine gforget (ls := [.ref 57, .int v1, .null, .int v3]) ⟨(Or.inl rfl), ⟨(Or.inl rfl), ⟨(Or.inr (Or.inl ⟨rfl, _, rfl⟩)), ⟨(Or.inl rfl), trivial⟩⟩⟩⟩ ?_
        exact t_X8_lanesOf_24 hK4 hr hQ
      · rw [if_neg c9] at hr
        refine r_const rfl (gcst 1) ?_
        refine r_iload rfl rfl ?_
        refine r_const rfl (gcst 3) ?_
        refine r_idiv rfl (nI_ne0 (n := 3) (by decide) (by decide)) ?_
        refine r_ishl rfl ?_
        refine r_goto 24 rfl rfl ?_
        refine gforget (ls := [.ref 57, .int v1, .null, .int v3]) ⟨(Or.inl rfl), ⟨(Or.inl rfl), ⟨(Or.inr (Or.inl ⟨rfl, _, rfl⟩)), ⟨(Or.inl rfl), trivial⟩⟩⟩⟩ ?_
        exact t_X8_lanesOf_24 hK4 hr hQ
def r_X8_lanesOf (I : Nat → Nat → Int32) (L : Nat → Nat → Int64) (a1 : Int32) : Option gRs := (r_X8_lanesOf_4 100 a1 (nI 0) (nI 0) I L)
set_option maxHeartbeats 4000000 in
set_option maxRecDepth 100000 in
theorem s_X8_lanesOf {n f g d : Nat} {Q : gP} {I : Nat → Nat → Int32} {L : Nat → Nat → Int64} {a1 : Int32} {z : gRs}  (hr : r_X8_lanesOf I L a1 = some z) (hQ : Q (some (.int z.1)) (gKn n, gRf f g, z.2.1, z.2.2)) : gR gM (d + 0) 127 [.ref 57, .int a1] (gKn n, gRf f g, I, L) Q := by
  unfold r_X8_lanesOf at hr
  show gW gM (d + 0) 0 0 k_X8_lanesOf 0 [.ref 57, .int a1, .null, .null] [] (gKn n, gRf f g, I, L) Q
  refine r_const rfl (gcst 0) ?_
  refine r_istore [.ref 57, .int a1, .int (nI 0), .null] rfl rfl (Nat.le_of_ble_eq_true rfl) rfl ?_
  refine r_const rfl (gcst 0) ?_
  refine r_istore [.ref 57, .int a1, .int (nI 0), .int (nI 0)] rfl rfl (Nat.le_of_ble_eq_true rfl) rfl ?_
  exact t_X8_lanesOf_4  hr hQ
def r_X8_gate (I : Nat → Nat → Int32) (L : Nat → Nat → Int64) (a1 : Int32) (a2 : Int32) : Option gRs := ((r_X8_isGate I L a1).bind (fun z13 => (if ¬ z13.1 = 0 then (if a2 = (nI 0) then (if gvp a1 54 = true then some ((z13.2.1 63 (gx a1)), z13.2.1, z13.2.2) else none) else (if a2 = (nI 1) then (if gvp a1 5 = true then some ((z13.2.1 58 (gx a1)), z13.2.1, z13.2.2) else none) else (if a2 = (nI 2) then (if gvp ((nI 5) + a1) 54 = true then some ((z13.2.1 63 (gx ((nI 5) + a1))), z13.2.1, z13.2.2) else none) else (if a2 = (nI 3) then some (((gshr (z13.2.1 63 (gx (nI 10))) a1) &&& (nI 1)), z13.2.1, z13.2.2) else (if a2 = (nI 4) then some (((gshr (z13.2.1 63 (gx (nI 11))) a1) &&& (nI 1)), z13.2.1, z13.2.2) else (if a2 = (nI 5) then ((r_X8_lanesOf z13.2.1 z13.2.2 a1).bind (fun z24 => some (z24.1, z24.2.1, z24.2.2))) else some ((-2 : Int32), z13.2.1, z13.2.2))))))) else some ((-1 : Int32), z13.2.1, z13.2.2))))
set_option maxHeartbeats 4000000 in
set_option maxRecDepth 100000 in
theorem s_X8_gate {n f g d : Nat} {Q : gP} {I : Nat → Nat → Int32} {L : Nat → Nat → Int64} {a1 : Int32} {a2 : Int32} {z : gRs}  (hr : r_X8_gate I L a1 a2 = some z) (hQ : Q (some (.int z.1)) (gKn n, gRf f g, z.2.1, z.2.2)) : gR gM (d + 2) 128 [.ref 57, .int a1, .int a2] (gKn n, gRf f g, I, L) Q := by
  unfold r_X8_gate at hr
  show gW gM (d + 2) 0 0 k_X8_gate 0 [.ref 57, .int a1, .int a2] [] (gKn n, gRf f g, I, L) Q
  refine r_aload rfl rfl ?_
  refine r_iload rfl rfl ?_
  obtain ⟨z13, hz13, hr⟩ := gbnd hr
  refine r_invv (a := 57) [.int a1] rfl rfl rfl rfl rfl (Nat.le_of_ble_eq_true rfl) ⟨rfl, rfl⟩ ?_
  refine s_X8_isGate  hz13 ?_
  show gW _ _ _ _ _ 3 [.ref 57, .int a1, .int a2] [.int z13.1] (gKn n, gRf f g, z13.2.1, z13.2.2) _
  refine r_if_ne 6 rfl rfl (fun c14 => ?_) (fun c14 => ?_)
  · rw [if_pos c14] at hr
    refine r_iload rfl rfl ?_
    by_cases c15 : a2 = (nI 0)
    · rw [if_pos c15] at hr
      refine r_tsw 8 rfl (by rw [c15]; decide +kernel) ?_
      refine r_aload rfl rfl ?_
      refine r_getR (c := 8) (k := 9) (v := 63) rfl rfl ⟨rfl, rfl⟩ rfl ?_
      refine r_iload rfl rfl ?_
      obtain ⟨b16, hr⟩ := gopt hr
      refine r_iaload (n := 54) rfl rfl (gvp_in b16) ?_
      refine r_iret rfl ?_
      cases hr
      exact hQ
    · rw [if_neg c15] at hr
      by_cases c17 : a2 = (nI 1)
      · rw [if_pos c17] at hr
        refine r_tsw 13 rfl (by rw [c17]; decide +kernel) ?_
        refine r_aload rfl rfl ?_
        refine r_getR (c := 8) (k := 4) (v := 58) rfl rfl ⟨rfl, rfl⟩ rfl ?_
        refine r_iload rfl rfl ?_
        obtain ⟨b18, hr⟩ := gopt hr
        refine r_iaload (n := 5) rfl rfl (gvp_in b18) ?_
        refine r_iret rfl ?_
        cases hr
        exact hQ
      · rw [if_neg c17] at hr
        by_cases c19 : a2 = (nI 2)
        · rw [if_pos c19] at hr
          refine r_tsw 18 rfl (by rw [c19]; decide +kernel) ?_
          refine r_aload rfl rfl ?_
          refine r_getR (c := 8) (k := 9) (v := 63) rfl rfl ⟨rfl, rfl⟩ rfl ?_
          refine r_const rfl (gcst 5) ?_
          refine r_iload rfl rfl ?_
          refine r_iadd rfl ?_
          obtain ⟨b20, hr⟩ := gopt hr
          refine r_iaload (n := 54) rfl rfl (gvp_in b20) ?_
          refine r_iret rfl ?_
          cases hr
          exact hQ
        · rw [if_neg c19] at hr
          by_cases c21 : a2 = (nI 3)
          · rw [if_pos c21] at hr
            refine r_tsw 25 rfl (by rw [c21]; decide +kernel) ?_
            refine r_aload rfl rfl ?_
            refine r_getR (c := 8) (k := 9) (v := 63) rfl rfl ⟨rfl, rfl⟩ rfl ?_
            refine r_const rfl (gcst 10) ?_
            refine r_iaload (n := 54) rfl rfl (vp_in_nI (n := 10) (N := 54) (by decide) (by decide)) ?_
            refine r_iload rfl rfl ?_
            refine r_ishr rfl ?_
            refine r_const rfl (gcst 1) ?_
            refine r_iand rfl ?_
            refine r_iret rfl ?_
            cases hr
            exact hQ
          · rw [if_neg c21] at hr
            by_cases c22 : a2 = (nI 4)
            · rw [if_pos c22] at hr
              refine r_tsw 34 rfl (by rw [c22]; decide +kernel) ?_
              refine r_aload rfl rfl ?_
              refine r_getR (c := 8) (k := 9) (v := 63) rfl rfl ⟨rfl, rfl⟩ rfl ?_
              refine r_const rfl (gcst 11) ?_
              refine r_iaload (n := 54) rfl rfl (vp_in_nI (n := 11) (N := 54) (by decide) (by decide)) ?_
              refine r_iload rfl rfl ?_
              refine r_ishr rfl ?_
              refine r_const rfl (gcst 1) ?_
              refine r_iand rfl ?_
              refine r_iret rfl ?_
              cases hr
              exact hQ
            · rw [if_neg c22] at hr
              by_cases c23 : a2 = (nI 5)
              · rw [if_pos c23] at hr
                refine r_tsw 43 rfl (by rw [c23]; decide +kernel) ?_
                refine r_aload rfl rfl ?_
                refine r_iload rfl rfl ?_
                obtain ⟨z24, hz24, hr⟩ := gbnd hr
                refine r_invv (a := 57) [.int a1] rfl rfl rfl rfl rfl (Nat.le_of_ble_eq_true rfl) ⟨rfl, rfl⟩ ?_
                refine s_X8_lanesOf  hz24 ?_
                show gW _ _ _ _ _ 46 [.ref 57, .int a1, .int a2] [.int z24.1] (gKn n, gRf f g, z24.2.1, z24.2.2) _
                refine r_iret rfl ?_
                cases hr
                exact hQ
              · rw [if_neg c23] at hr
                refine r_tsw 47 rfl (gtab_df rfl (fun z h1 h2 e => by
                    rcases (by omega : z = 0 ∨ z = 1 ∨ z = 2 ∨ z = 3 ∨ z = 4 ∨ z = 5) with rfl | rfl | rfl | rfl | rfl | rfl
                    · exact c15 (gI_of_toInt e)
                    · exact c17 (gI_of_toInt e)
                    · exact c19 (gI_of_toInt e)
                    · exact c21 (gI_of_toInt e)
                    · exact c22 (gI_of_toInt e)
                    · exact c23 (gI_of_toInt e))) ?_
                refine r_const rfl (v := -2) (by decide) ?_
                refine r_iret rfl ?_
                cases hr
                exact hQ
  · rw [if_neg c14] at hr
    refine r_const rfl (v := -1) (by decide) ?_
    refine r_iret rfl ?_
    cases hr
    exact hQ
