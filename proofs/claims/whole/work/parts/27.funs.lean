/-! FUNCTIONS (dec.py, dec2.py) -/
def r_X8_factorial_4   : Nat → Int32 → Int32 → Int32 → (Nat → Nat → Int32) → (Nat → Nat → Int64) → Option gRs
  | 0, _, _, _, _, _ => none
  | m + 1, v0, v1, v2, I, L => (if v0 < v2 then some (v1, I, L) else (r_X8_factorial_4  m v0 (v1 * v2) (v2 + (nI 1)) I L))
set_option maxHeartbeats 4000000 in
set_option maxRecDepth 100000 in
theorem t_X8_factorial_4 {n f g d : Nat} {Q : gP} {z : gRs}    : ∀ {m : Nat} {v0 : Int32} {v1 : Int32} {v2 : Int32} {I : Nat → Nat → Int32} {L : Nat → Nat → Int64}, r_X8_factorial_4 m v0 v1 v2 I L = some z → Q (some (.int z.1)) (gKn n, gRf f g, z.2.1, z.2.2) → gW gM (d + 0) 0 0 k_X8_factorial 4 [.int v0, .int v1, .int v2] [] (gKn n, gRf f g, I, L) Q := by
  intro m
  induction m with
  | zero =>
    intro v0 v1 v2 I L hr _
    cases hr
  | succ m ih =>
    intro v0 v1 v2 I L hr hQ
    have hK4 : ∀ v0 v1 v2 I L, r_X8_factorial_4 m v0 v1 v2 I L = some z → gW gM (d + 0) 0 0 k_X8_factorial 4 [.int v0, .int v1, .int v2] [] (gKn n, gRf f g, I, L) Q := fun v0 v1 v2 I L hr => ih hr hQ
    unfold r_X8_factorial_4 at hr
    refine r_iload rfl rfl ?_
    refine r_iload rfl rfl ?_
    refine r_icmp_gt 13 rfl rfl (fun c2 => ?_) (fun c2 => ?_)
    · rw [if_pos c2] at hr
      refine r_iload rfl rfl ?_
      refine r_iret rfl ?_
      cases hr
      exact hQ
    · rw [if_neg c2] at hr
      refine r_iload rfl rfl ?_
      refine r_iload rfl rfl ?_
      refine r_imul rfl ?_
      refine r_istore [.int v0, .int (v1 * v2), .int v2] rfl rfl (Nat.le_of_ble_eq_true rfl) rfl ?_
      refine r_iinc (y := (v2 + (nI 1))) [.int v0, .int (v1 * v2), .int (v2 + (nI 1))] rfl rfl rfl (ginc _ 1) rfl ?_
      refine r_goto 4 rfl rfl ?_
      exact hK4 _ _ _ _ _ hr
def r_X8_factorial (I : Nat → Nat → Int32) (L : Nat → Nat → Int64) (a0 : Int32) : Option gRs := (r_X8_factorial_4 100 a0 (nI 1) (nI 2) I L)
set_option maxHeartbeats 4000000 in
set_option maxRecDepth 100000 in
theorem s_X8_factorial {n f g d : Nat} {Q : gP} {I : Nat → Nat → Int32} {L : Nat → Nat → Int64} {a0 : Int32} {z : gRs}  (hr : r_X8_factorial I L a0 = some z) (hQ : Q (some (.int z.1)) (gKn n, gRf f g, z.2.1, z.2.2)) : gR gM (d + 0) 164 [.int a0] (gKn n, gRf f g, I, L) Q := by
  unfold r_X8_factorial at hr
  show gW gM (d + 0) 0 0 k_X8_factorial 0 [.int a0, .null, .null] [] (gKn n, gRf f g, I, L) Q
  refine r_const rfl (gcst 1) ?_
  refine r_istore [.int a0, .int (nI 1), .null] rfl rfl (Nat.le_of_ble_eq_true rfl) rfl ?_
  refine r_const rfl (gcst 2) ?_
  refine r_istore [.int a0, .int (nI 1), .int (nI 2)] rfl rfl (Nat.le_of_ble_eq_true rfl) rfl ?_
  exact t_X8_factorial_4  hr hQ
def r_X8_common_9   : Nat → Int32 → Int32 → (Nat → Nat → Int32) → (Nat → Nat → Int64) → Option gRs
  | 0, _, _, _, _ => none
  | m + 1, v2, v3, I, L => (if v3 = 0 then some (v2, I, L) else (if ¬ v3 = 0 then (r_X8_common_9  m v3 (grem v2 v3) I L) else none))
set_option maxHeartbeats 4000000 in
set_option maxRecDepth 100000 in
theorem t_X8_common_9 {n f g d : Nat} {Q : gP} {z : gRs}    : ∀ {m : Nat} {v2 : Int32} {v3 : Int32} {I : Nat → Nat → Int32} {L : Nat → Nat → Int64}, r_X8_common_9 m v2 v3 I L = some z → Q (some (.int z.1)) (gKn n, gRf f g, z.2.1, z.2.2) → gW gM (d + 0) 0 0 k_X8_common 9 [.null, .null, .int v2, .int v3, .null] [] (gKn n, gRf f g, I, L) Q := by
  intro m
  induction m with
  | zero =>
    intro v2 v3 I L hr _
    cases hr
  | succ m ih =>
    intro v2 v3 I L hr hQ
    have hK9 : ∀ v2 v3 I L, r_X8_common_9 m v2 v3 I L = some z → gW gM (d + 0) 0 0 k_X8_common 9 [.null, .null, .int v2, .int v3, .null] [] (gKn n, gRf f g, I, L) Q := fun v2 v3 I L hr => ih hr hQ
    unfold r_X8_common_9 at hr
    refine r_iload rfl rfl ?_
    refine r_if_eq 20 rfl rfl (fun c4 => ?_) (fun c4 => ?_)
    · rw [if_pos c4] at hr
      refine r_iload rfl rfl ?_
      refine r_iret rfl ?_
      cases hr
      exact hQ
    · rw [if_neg c4] at hr
      refine r_iload rfl rfl ?_
      refine r_iload rfl rfl ?_
      obtain ⟨b5, hr⟩ := gopt hr
      refine r_irem rfl b5 ?_
      refine r_istore [.null, .null, .int v2, .int v3, .int (grem v2 v3)] rfl rfl (Nat.le_of_ble_eq_true rfl) rfl ?_
      refine r_iload rfl rfl ?_
      refine r_istore [.null, .null, .int v3, .int v3, .int (grem v2 v3)] rfl rfl (Nat.le_of_ble_eq_true rfl) rfl ?_
      refine r_iload rfl rfl ?_
      refine r_istore [.null, .null, .int v3, .int (grem v2 v3), .int (grem v2 v3)] rfl rfl (Nat.le_of_ble_eq_true rfl) rfl ?_
      refine r_goto 9 rfl rfl ?_
      refine gforget (ls := [.null, .null, .int v3, .int (grem v2 v3), .null]) ⟨(Or.inl rfl), ⟨(Or.inl rfl), ⟨(Or.inl rfl), ⟨(Or.inl rfl), ⟨(Or.inr (Or.inl ⟨rfl, _, rfl⟩)), trivial⟩⟩⟩⟩⟩ ?_
      exact hK9 _ _ _ _ hr
def r_X8_common (I : Nat → Nat → Int32) (L : Nat → Nat → Int64) (a0 : Int32) (a1 : Int32) : Option gRs := (r_X8_common_9 100 (if 0 ≤ a0 then a0 else (-a0)) a1 I L)
set_option maxHeartbeats 4000000 in
set_option maxRecDepth 100000 in
theorem s_X8_common {n f g d : Nat} {Q : gP} {I : Nat → Nat → Int32} {L : Nat → Nat → Int64} {a0 : Int32} {a1 : Int32} {z : gRs}  (hr : r_X8_common I L a0 a1 = some z) (hQ : Q (some (.int z.1)) (gKn n, gRf f g, z.2.1, z.2.2)) : gR gM (d + 0) 165 [.int a0, .int a1] (gKn n, gRf f g, I, L) Q := by
  unfold r_X8_common at hr
  show gW gM (d + 0) 0 0 k_X8_common 0 [.int a0, .int a1, .null, .null, .null] [] (gKn n, gRf f g, I, L) Q
  refine r_iload rfl rfl ?_
  have j7 : gW gM (d + 0) 0 0 k_X8_common 6 [.int a0, .int a1, .null, .null, .null] [.int (if 0 ≤ a0 then a0 else (-a0))] (gKn n, gRf f g, I, L) Q := by
    refine r_istore [.int a0, .int a1, .int (if 0 ≤ a0 then a0 else (-a0)), .null, .null] rfl rfl (Nat.le_of_ble_eq_true rfl) rfl ?_
    refine r_iload rfl rfl ?_
    refine r_istore [.int a0, .int a1, .int (if 0 ≤ a0 then a0 else (-a0)), .int a1, .null] rfl rfl (Nat.le_of_ble_eq_true rfl) rfl ?_
    refine gforget (ls := [.null, .null, .int (if 0 ≤ a0 then a0 else (-a0)), .int a1, .null]) ⟨(Or.inr (Or.inl ⟨rfl, _, rfl⟩)), ⟨(Or.inr (Or.inl ⟨rfl, _, rfl⟩)), ⟨(Or.inl rfl), ⟨(Or.inl rfl), ⟨(Or.inl rfl), trivial⟩⟩⟩⟩⟩ ?_
    exact t_X8_common_9  hr hQ
  refine r_if_ge 5 rfl rfl (fun c6 => ?_) (fun c6 => ?_)
  · refine r_iload rfl rfl ?_
    first | contradiction | simpa only [if_pos c6] using j7
  · refine r_iload rfl rfl ?_
    refine r_ineg rfl ?_
    refine r_goto 6 rfl rfl ?_
    first | contradiction | simpa only [if_neg c6] using j7
def r_X8_tonesBy_24  (K4 : Int32 → Int32 → Int32 → Int32 → (Nat → Nat → Int32) → (Nat → Nat → Int64) → Option gRs) (v1 : Int32) (v2 : Int32) (v4 : Int32) (s0 : Int32) (s1 : Int32) (I : Nat → Nat → Int32) (L : Nat → Nat → Int64) : Option gRs := (K4 v1 v2 (s0 ||| s1) (v4 + (nI 1)) I L)
set_option maxHeartbeats 4000000 in
set_option maxRecDepth 100000 in
theorem t_X8_tonesBy_24 {n f g d : Nat} {Q : gP} {z : gRs}   {K4 : Int32 → Int32 → Int32 → Int32 → (Nat → Nat → Int32) → (Nat → Nat → Int64) → Option gRs} (hK4 : ∀ v1 v2 v3 v4 I L, K4 v1 v2 v3 v4 I L = some z → gW gM (d + 3) 0 0 k_X8_tonesBy 4 [.ref 57, .int v1, .int v2, .int v3, .int v4] [] (gKn n, gRf f g, I, L) Q) {v1 : Int32} {v2 : Int32} {v4 : Int32} {s0 : Int32} {s1 : Int32} {I : Nat → Nat → Int32} {L : Nat → Nat → Int64} (hr : r_X8_tonesBy_24 K4 v1 v2 v4 s0 s1 I L = some z) (hQ : Q (some (.int z.1)) (gKn n, gRf f g, z.2.1, z.2.2)) : gW gM (d + 3) 0 0 k_X8_tonesBy 24 [.ref 57, .int v1, .int v2, .null, .int v4] [.int s1, .int s0] (gKn n, gRf f g, I, L) Q := by
  unfold r_X8_tonesBy_24 at hr
  refine r_ior rfl ?_
  refine r_istore [.ref 57, .int v1, .int v2, .int (s0 ||| s1), .int v4] rfl rfl (Nat.le_of_ble_eq_true rfl) rfl ?_
  refine r_iinc (y := (v4 + (nI 1))) [.ref 57, .int v1, .int v2, .int (s0 ||| s1), .int (v4 + (nI 1))] rfl rfl rfl (ginc _ 1) rfl ?_
  refine r_goto 4 rfl rfl ?_
  exact hK4 _ _ _ _ _ _ hr
def r_X8_tonesBy_4   : Nat → Int32 → Int32 → Int32 → Int32 → (Nat → Nat → Int32) → (Nat → Nat → Int64) → Option gRs
  | 0, _, _, _, _, _, _ => none
  | m + 1, v1, v2, v3, v4, I, L => (if (I 57 2) ≤ v4 then ((r_X8_ones I L v3).bind (fun z12 => some (z12.1, z12.2.1, z12.2.2))) else (if (f_X8_bit I L v1 v4) = 0 then (r_X8_tonesBy_24 (r_X8_tonesBy_4  m) v1 v2 v4 v3 (nI 0) I L) else ((r_X8_laySong I L (nI 0) (nI 0) v4 v2).bind (fun z14 => ((r_X8_tonesIn z14.2.1 z14.2.2 (nI 0) z14.1).bind (fun z15 => (r_X8_tonesBy_24 (r_X8_tonesBy_4  m) v1 v2 v4 v3 z15.1 z15.2.1 z15.2.2)))))))
set_option maxHeartbeats 4000000 in
set_option maxRecDepth 100000 in
theorem t_X8_tonesBy_4 {n f g d : Nat} {Q : gP} {z : gRs}    : ∀ {m : Nat} {v1 : Int32} {v2 : Int32} {v3 : Int32} {v4 : Int32} {I : Nat → Nat → Int32} {L : Nat → Nat → Int64}, r_X8_tonesBy_4 m v1 v2 v3 v4 I L = some z → Q (some (.int z.1)) (gKn n, gRf f g, z.2.1, z.2.2) → gW gM (d + 3) 0 0 k_X8_tonesBy 4 [.ref 57, .int v1, .int v2, .int v3, .int v4] [] (gKn n, gRf f g, I, L) Q := by
  intro m
  induction m with
  | zero =>
    intro v1 v2 v3 v4 I L hr _
    cases hr
  | succ m ih =>
    intro v1 v2 v3 v4 I L hr hQ
    have hK4 : ∀ v1 v2 v3 v4 I L, r_X8_tonesBy_4 m v1 v2 v3 v4 I L = some z → gW gM (d + 3) 0 0 k_X8_tonesBy 4 [.ref 57, .int v1, .int v2, .int v3, .int v4] [] (gKn n, gRf f g, I, L) Q := fun v1 v2 v3 v4 I L hr => ih hr hQ
    unfold r_X8_tonesBy_4 at hr
    refine r_iload rfl rfl ?_
    refine r_aload rfl rfl ?_
    refine r_getI (c := 8) (k := 2) rfl rfl ⟨rfl, rfl⟩ ?_
    refine r_icmp_ge 28 rfl rfl (fun c11 => ?_) (fun c11 => ?_)
    · rw [if_pos c11] at hr
      refine r_iload rfl rfl ?_
      obtain ⟨z12, hz12, hr⟩ := gbnd hr
      refine r_invs [.int v3] rfl rfl rfl rfl (Nat.le_of_ble_eq_true rfl) ⟨rfl, rfl⟩ ?_
      refine s_X8_ones  hz12 ?_
      show gW _ _ _ _ _ 30 [.ref 57, .int v1, .int v2, .int v3, .int v4] [.int z12.1] (gKn n, gRf f g, z12.2.1, z12.2.2) _
      refine r_iret rfl ?_
      cases hr
      exact hQ
    · rw [if_neg c11] at hr
      refine r_iload rfl rfl ?_
      refine r_iload rfl rfl ?_
      refine r_iload rfl rfl ?_
      refine r_invs [.int v1, .int v4] rfl rfl rfl rfl (Nat.le_of_ble_eq_true rfl) ⟨rfl, rfl⟩ ?_
      refine s_X8_bit  ?_
      show gW _ _ _ _ _ 12 [.ref 57, .int v1, .int v2, .int v3, .int v4] [.int (f_X8_bit I L v1 v4), .int v3] (gKn n, gRf f g, I, L) _
      refine r_if_eq 23 rfl rfl (fun c13 => ?_) (fun c13 => ?_)
      · rw [if_pos c13] at hr
        refine r_const rfl (gcst 0) ?_
        refine gforget (ls := [.ref 57, .int v1, .int v2, .null, .int v4]) ⟨(Or.inl rfl), ⟨(Or.inl rfl), ⟨(Or.inl rfl), ⟨(Or.inr (Or.inl ⟨rfl, _, rfl⟩)), ⟨(Or.inl rfl), trivial⟩⟩⟩⟩⟩ ?_
        exact t_X8_tonesBy_24 hK4 hr hQ
      · rw [if_neg c13] at hr
        refine r_aload rfl rfl ?_
        refine r_const rfl (gcst 0) ?_
        refine r_aload rfl rfl ?_
        refine r_const rfl (gcst 0) ?_
        refine r_const rfl (gcst 0) ?_
        refine r_iload rfl rfl ?_
        refine r_iload rfl rfl ?_
        obtain ⟨z14, hz14, hr⟩ := gbnd hr
        refine r_invv (a := 57) [.int (nI 0), .int (nI 0), .int v4, .int v2] rfl rfl rfl rfl rfl (Nat.le_of_ble_eq_true rfl) ⟨rfl, rfl⟩ ?_
        refine s_X8_laySong  hz14 ?_
        show gW _ _ _ _ _ 21 [.ref 57, .int v1, .int v2, .int v3, .int v4] [.int z14.1, .int (nI 0), .ref 57, .int v3] (gKn n, gRf f g, z14.2.1, z14.2.2) _
        obtain ⟨z15, hz15, hr⟩ := gbnd hr
        refine r_invv (a := 57) [.int (nI 0), .int z14.1] rfl rfl rfl rfl rfl (Nat.le_of_ble_eq_true rfl) ⟨rfl, rfl⟩ ?_
        refine s_X8_tonesIn  hz15 ?_
        show gW _ _ _ _ _ 22 [.ref 57, .int v1, .int v2, .int v3, .int v4] [.int z15.1, .int v3] (gKn n, gRf f g, z15.2.1, z15.2.2) _
        refine r_goto 24 rfl rfl ?_
        refine gforget (ls := [.ref 57, .int v1, .int v2, .null, .int v4]) ⟨(Or.inl rfl), ⟨(Or.inl rfl), ⟨(Or.inl rfl), ⟨(Or.inr (Or.inl ⟨rfl, _, rfl⟩)), ⟨(Or.inl rfl), trivial⟩⟩⟩⟩⟩ ?_
        exact t_X8_tonesBy_24 hK4 hr hQ
def r_X8_tonesBy (I : Nat → Nat → Int32) (L : Nat → Nat → Int64) (a1 : Int32) (a2 : Int32) : Option gRs := (r_X8_tonesBy_4 100 a1 a2 (nI 0) (nI 0) I L)
set_option maxHeartbeats 4000000 in
set_option maxRecDepth 100000 in
theorem s_X8_tonesBy {n f g d : Nat} {Q : gP} {I : Nat → Nat → Int32} {L : Nat → Nat → Int64} {a1 : Int32} {a2 : Int32} {z : gRs}  (hr : r_X8_tonesBy I L a1 a2 = some z) (hQ : Q (some (.int z.1)) (gKn n, gRf f g, z.2.1, z.2.2)) : gR gM (d + 3) 166 [.ref 57, .int a1, .int a2] (gKn n, gRf f g, I, L) Q := by
  unfold r_X8_tonesBy at hr
  show gW gM (d + 3) 0 0 k_X8_tonesBy 0 [.ref 57, .int a1, .int a2, .null, .null] [] (gKn n, gRf f g, I, L) Q
  refine r_const rfl (gcst 0) ?_
  refine r_istore [.ref 57, .int a1, .int a2, .int (nI 0), .null] rfl rfl (Nat.le_of_ble_eq_true rfl) rfl ?_
  refine r_const rfl (gcst 0) ?_
  refine r_istore [.ref 57, .int a1, .int a2, .int (nI 0), .int (nI 0)] rfl rfl (Nat.le_of_ble_eq_true rfl) rfl ?_
  exact t_X8_tonesBy_4  hr hQ
def r_X8_share_74   (s0 : Int32) (I : Nat → Nat → Int32) (L : Nat → Nat → Int64) : Option gRs := some (s0, I, L)
set_option maxHeartbeats 4000000 in
set_option maxRecDepth 100000 in
theorem t_X8_share_74 {n f g d : Nat} {Q : gP} {z : gRs}    {s0 : Int32} {I : Nat → Nat → Int32} {L : Nat → Nat → Int64} (hr : r_X8_share_74 s0 I L = some z) (hQ : Q (some (.int z.1)) (gKn n, gRf f g, z.2.1, z.2.2)) : gW gM (d + 4) 0 0 k_X8_share 74 [.null, .null, .null, .null, .null, .null, .null] [.int s0] (gKn n, gRf f g, I, L) Q := by
  unfold r_X8_share_74 at hr
  refine r_iret rfl ?_
  cases hr
  exact hQ
def r_X8_share_55  (K14 : Int32 → Int32 → Int32 → Int32 → Int32 → (Nat → Nat → Int32) → (Nat → Nat → Int64) → Option gRs) (v1 : Int32) (v2 : Int32) (v3 : Int32) (v4 : Int32) (v5 : Int32) (I : Nat → Nat → Int32) (L : Nat → Nat → Int64) : Option gRs := (K14 v1 v2 v3 v4 (v5 + (nI 1)) I L)
set_option maxHeartbeats 4000000 in
set_option maxRecDepth 100000 in
theorem t_X8_share_55 {n f g d : Nat} {Q : gP} {z : gRs}   {K14 : Int32 → Int32 → Int32 → Int32 → Int32 → (Nat → Nat → Int32) → (Nat → Nat → Int64) → Option gRs} (hK14 : ∀ v1 v2 v3 v4 v5 I L, K14 v1 v2 v3 v4 v5 I L = some z → gW gM (d + 4) 0 0 k_X8_share 14 [.ref 57, .int v1, .int v2, .int v3, .int v4, .int v5, .null] [] (gKn n, gRf f g, I, L) Q) {v1 : Int32} {v2 : Int32} {v3 : Int32} {v4 : Int32} {v5 : Int32} {I : Nat → Nat → Int32} {L : Nat → Nat → Int64} (hr : r_X8_share_55 K14 v1 v2 v3 v4 v5 I L = some z) (hQ : Q (some (.int z.1)) (gKn n, gRf f g, z.2.1, z.2.2)) : gW gM (d + 4) 0 0 k_X8_share 55 [.ref 57, .int v1, .int v2, .int v3, .int v4, .int v5, .null] [] (gKn n, gRf f g, I, L) Q := by
  unfold r_X8_share_55 at hr
  refine r_iinc (y := (v5 + (nI 1))) [.ref 57, .int v1, .int v2, .int v3, .int v4, .int (v5 + (nI 1)), .null] rfl rfl rfl (ginc _ 1) rfl ?_
  refine r_goto 14 rfl rfl ?_
  exact hK14 _ _ _ _ _ _ _ hr
def r_X8_share_14   : Nat → Int32 → Int32 → Int32 → Int32 → Int32 → (Nat → Nat → Int32) → (Nat → Nat → Int64) → Option gRs
  | 0, _, _, _, _, _, _, _ => none
  | m + 1, v1, v2, v3, v4, v5, I, L => (if (gshl (nI 1) (I 57 2)) ≤ v5 then ((r_X8_factorial I L (I 57 2)).bind (fun z42 => ((r_X8_common z42.2.1 z42.2.2 v4 z42.1).bind (fun z43 => (if v3 = 0 then ((r_X8_factorial z43.2.1 z43.2.2 (z43.2.1 57 2)).bind (fun z45 => (if ¬ z43.1 = 0 then (r_X8_share_74 (z45.1 / z43.1) z45.2.1 z45.2.2) else none))) else (if ¬ z43.1 = 0 then (r_X8_share_74 (v4 / z43.1) z43.2.1 z43.2.2) else none)))))) else (if ¬ (f_X8_bit I L v5 v1) = 0 then (r_X8_share_55 (r_X8_share_14  m) v1 v2 v3 v4 v5 I L) else ((r_X8_ones I L v5).bind (fun z49 => ((r_X8_factorial z49.2.1 z49.2.2 z49.1).bind (fun z50 => ((r_X8_ones z50.2.1 z50.2.2 v5).bind (fun z51 => ((r_X8_factorial z51.2.1 z51.2.2 (((z50.2.1 57 2) - (nI 1)) - z51.1)).bind (fun z52 => ((r_X8_tonesBy z52.2.1 z52.2.2 (v5 ||| (gshl (nI 1) v1)) v2).bind (fun z53 => ((r_X8_tonesBy z53.2.1 z53.2.2 v5 v2).bind (fun z54 => (r_X8_share_55 (r_X8_share_14  m) v1 v2 v3 (v4 + ((z50.1 * z52.1) * (z53.1 - z54.1))) v5 z54.2.1 z54.2.2)))))))))))))))
set_option maxHeartbeats 4000000 in
set_option maxRecDepth 100000 in
theorem t_X8_share_14 {n f g d : Nat} {Q : gP} {z : gRs}    : ∀ {m : Nat} {v1 : Int32} {v2 : Int32} {v3 : Int32} {v4 : Int32} {v5 : Int32} {I : Nat → Nat → Int32} {L : Nat → Nat → Int64}, r_X8_share_14 m v1 v2 v3 v4 v5 I L = some z → Q (some (.int z.1)) (gKn n, gRf f g, z.2.1, z.2.2) → gW gM (d + 4) 0 0 k_X8_share 14 [.ref 57, .int v1, .int v2, .int v3, .int v4, .int v5, .null] [] (gKn n, gRf f g, I, L) Q := by
  intro m
  induction m with
  | zero =>
    intro v1 v2 v3 v4 v5 I L hr _
    cases hr
  | succ m ih =>
    intro v1 v2 v3 v4 v5 I L hr hQ
    have hK14 : ∀ v1 v2 v3 v4 v5 I L, r_X8_share_14 m v1 v2 v3 v4 v5 I L = some z → gW gM (d + 4) 0 0 k_X8_share 14 [.ref 57, .int v1, .int v2, .int v3, .int v4, .int v5, .null] [] (gKn n, gRf f g, I, L) Q := fun v1 v2 v3 v4 v5 I L hr => ih hr hQ
    unfold r_X8_share_14 at hr
    refine r_iload rfl rfl ?_
    refine r_const rfl (gcst 1) ?_
    refine r_aload rfl rfl ?_
    refine r_getI (c := 8) (k := 2) rfl rfl ⟨rfl, rfl⟩ ?_
    refine r_ishl rfl ?_
    refine r_icmp_ge 57 rfl rfl (fun c41 => ?_) (fun c41 => ?_)
    · rw [if_pos c41] at hr
      refine r_iload rfl rfl ?_
      refine r_aload rfl rfl ?_
      refine r_getI (c := 8) (k := 2) rfl rfl ⟨rfl, rfl⟩ ?_
      obtain ⟨z42, hz42, hr⟩ := gbnd hr
      refine r_invs [.int (I 57 2)] rfl rfl rfl rfl (Nat.le_of_ble_eq_true rfl) ⟨rfl, rfl⟩ ?_
      refine s_X8_factorial  hz42 ?_
      show gW _ _ _ _ _ 61 [.ref 57, .int v1, .int v2, .int v3, .int v4, .int v5, .null] [.int z42.1, .int v4] (gKn n, gRf f g, z42.2.1, z42.2.2) _
      obtain ⟨z43, hz43, hr⟩ := gbnd hr
      refine r_invs [.int v4, .int z42.1] rfl rfl rfl rfl (Nat.le_of_ble_eq_true rfl) ⟨rfl, rfl⟩ ?_
      refine s_X8_common  hz43 ?_
      show gW _ _ _ _ _ 62 [.ref 57, .int v1, .int v2, .int v3, .int v4, .int v5, .null] [.int z43.1] (gKn n, gRf f g, z43.2.1, z43.2.2) _
      refine r_istore [.ref 57, .int v1, .int v2, .int v3, .int v4, .int z43.1, .null] rfl rfl (Nat.le_of_ble_eq_true rfl) rfl ?_
      refine r_iload rfl rfl ?_
      refine r_if_eq 69 rfl rfl (fun c44 => ?_) (fun c44 => ?_)
      · rw [if_pos c44] at hr
        refine r_aload rfl rfl ?_
        refine r_getI (c := 8) (k := 2) rfl rfl ⟨rfl, rfl⟩ ?_
        obtain ⟨z45, hz45, hr⟩ := gbnd hr
        refine r_invs [.int (z43.2.1 57 2)] rfl rfl rfl rfl (Nat.le_of_ble_eq_true rfl) ⟨rfl, rfl⟩ ?_
        refine s_X8_factorial  hz45 ?_
        show gW _ _ _ _ _ 72 [.ref 57, .int v1, .int v2, .int v3, .int v4, .int z43.1, .null] [.int z45.1] (gKn n, gRf f g, z45.2.1, z45.2.2) _
        refine r_iload rfl rfl ?_
        obtain ⟨b46, hr⟩ := gopt hr
        refine r_idiv rfl b46 ?_
        refine gforget (ls := [.null, .null, .null, .null, .null, .null, .null]) ⟨(Or.inr (Or.inr ⟨rfl, _, rfl⟩)), ⟨(Or.inr (Or.inl ⟨rfl, _, rfl⟩)), ⟨(Or.inr (Or.inl ⟨rfl, _, rfl⟩)), ⟨(Or.inr (Or.inl ⟨rfl, _, rfl⟩)), ⟨(Or.inr (Or.inl ⟨rfl, _, rfl⟩)), ⟨(Or.inr (Or.inl ⟨rfl, _, rfl⟩)), ⟨(Or.inl rfl), trivial⟩⟩⟩⟩⟩⟩⟩ ?_
        exact t_X8_share_74  hr hQ
      · rw [if_neg c44] at hr
        refine r_iload rfl rfl ?_
        refine r_iload rfl rfl ?_
        obtain ⟨b47, hr⟩ := gopt hr
        refine r_idiv rfl b47 ?_
        refine r_goto 74 rfl rfl ?_
        refine gforget (ls := [.null, .null, .null, .null, .null, .null, .null]) ⟨(Or.inr (Or.inr ⟨rfl, _, rfl⟩)), ⟨(Or.inr (Or.inl ⟨rfl, _, rfl⟩)), ⟨(Or.inr (Or.inl ⟨rfl, _, rfl⟩)), ⟨(Or.inr (Or.inl ⟨rfl, _, rfl⟩)), ⟨(Or.inr (Or.inl ⟨rfl, _, rfl⟩)), ⟨(Or.inr (Or.inl ⟨rfl, _, rfl⟩)), ⟨(Or.inl rfl), trivial⟩⟩⟩⟩⟩⟩⟩ ?_
        exact t_X8_share_74  hr hQ
    · rw [if_neg c41] at hr
      refine r_iload rfl rfl ?_
      refine r_iload rfl rfl ?_
      refine r_invs [.int v5, .int v1] rfl rfl rfl rfl (Nat.le_of_ble_eq_true rfl) ⟨rfl, rfl⟩ ?_
      refine s_X8_bit  ?_
      show gW _ _ _ _ _ 23 [.ref 57, .int v1, .int v2, .int v3, .int v4, .int v5, .null] [.int (f_X8_bit I L v5 v1)] (gKn n, gRf f g, I, L) _
      refine r_if_ne 55 rfl rfl (fun c48 => ?_) (fun c48 => ?_)
      · rw [if_pos c48] at hr
        exact t_X8_share_55 hK14 hr hQ
      · rw [if_neg c48] at hr
        refine r_iload rfl rfl ?_
        obtain ⟨z49, hz49, hr⟩ := gbnd hr
        refine r_invs [.int v5] rfl rfl rfl rfl (Nat.le_of_ble_eq_true rfl) ⟨rfl, rfl⟩ ?_
        refine s_X8_ones  hz49 ?_
        show gW _ _ _ _ _ 26 [.ref 57, .int v1, .int v2, .int v3, .int v4, .int v5, .null] [.int z49.1] (gKn n, gRf f g, z49.2.1, z49.2.2) _
        obtain ⟨z50, hz50, hr⟩ := gbnd hr
        refine r_invs [.int z49.1] rfl rfl rfl rfl (Nat.le_of_ble_eq_true rfl) ⟨rfl, rfl⟩ ?_
        refine s_X8_factorial  hz50 ?_
        show gW _ _ _ _ _ 27 [.ref 57, .int v1, .int v2, .int v3, .int v4, .int v5, .null] [.int z50.1] (gKn n, gRf f g, z50.2.1, z50.2.2) _
        refine r_aload rfl rfl ?_
        refine r_getI (c := 8) (k := 2) rfl rfl ⟨rfl, rfl⟩ ?_
        refine r_const rfl (gcst 1) ?_
        refine r_isub rfl ?_
        refine r_iload rfl rfl ?_
        obtain ⟨z51, hz51, hr⟩ := gbnd hr
        refine r_invs [.int v5] rfl rfl rfl rfl (Nat.le_of_ble_eq_true rfl) ⟨rfl, rfl⟩ ?_
        refine s_X8_ones  hz51 ?_
        show gW _ _ _ _ _ 33 [.ref 57, .int v1, .int v2, .int v3, .int v4, .int v5, .null] [.int z51.1, .int ((z50.2.1 57 2) - (nI 1)), .int z50.1] (gKn n, gRf f g, z51.2.1, z51.2.2) _
        refine r_isub rfl ?_
        obtain ⟨z52, hz52, hr⟩ := gbnd hr
        refine r_invs [.int (((z50.2.1 57 2) - (nI 1)) - z51.1)] rfl rfl rfl rfl (Nat.le_of_ble_eq_true rfl) ⟨rfl, rfl⟩ ?_
        refine s_X8_factorial  hz52 ?_
        show gW _ _ _ _ _ 35 [.ref 57, .int v1, .int v2, .int v3, .int v4, .int v5, .null] [.int z52.1, .int z50.1] (gKn n, gRf f g, z52.2.1, z52.2.2) _
        refine r_imul rfl ?_
        refine r_istore [.ref 57, .int v1, .int v2, .int v3, .int v4, .int v5, .int (z50.1 * z52.1)] rfl rfl (Nat.le_of_ble_eq_true rfl) rfl ?_
        refine r_iload rfl rfl ?_
        refine r_iload rfl rfl ?_
        refine r_aload rfl rfl ?_
        refine r_iload rfl rfl ?_
        refine r_const rfl (gcst 1) ?_
        refine r_iload rfl rfl ?_
        refine r_ishl rfl ?_
        refine r_ior rfl ?_
        refine r_iload rfl rfl ?_
        obtain ⟨z53, hz53, hr⟩ := gbnd hr
        refine r_invv (a := 57) [.int (v5 ||| (gshl (nI 1) v1)), .int v2] rfl rfl rfl rfl rfl (Nat.le_of_ble_eq_true rfl) ⟨rfl, rfl⟩ ?_
        refine s_X8_tonesBy  hz53 ?_
        show gW _ _ _ _ _ 47 [.ref 57, .int v1, .int v2, .int v3, .int v4, .int v5, .int (z50.1 * z52.1)] [.int z53.1, .int (z50.1 * z52.1), .int v4] (gKn n, gRf f g, z53.2.1, z53.2.2) _
        refine r_aload rfl rfl ?_
        refine r_iload rfl rfl ?_
        refine r_iload rfl rfl ?_
        obtain ⟨z54, hz54, hr⟩ := gbnd hr
        refine r_invv (a := 57) [.int v5, .int v2] rfl rfl rfl rfl rfl (Nat.le_of_ble_eq_true rfl) ⟨rfl, rfl⟩ ?_
        refine s_X8_tonesBy  hz54 ?_
        show gW _ _ _ _ _ 51 [.ref 57, .int v1, .int v2, .int v3, .int v4, .int v5, .int (z50.1 * z52.1)] [.int z54.1, .int z53.1, .int (z50.1 * z52.1), .int v4] (gKn n, gRf f g, z54.2.1, z54.2.2) _
        refine r_isub rfl ?_
        refine r_imul rfl ?_
        refine r_iadd rfl ?_
        refine r_istore [.ref 57, .int v1, .int v2, .int v3, .int (v4 + ((z50.1 * z52.1) * (z53.1 - z54.1))), .int v5, .int (z50.1 * z52.1)] rfl rfl (Nat.le_of_ble_eq_true rfl) rfl ?_
        refine gforget (ls := [.ref 57, .int v1, .int v2, .int v3, .int (v4 + ((z50.1 * z52.1) * (z53.1 - z54.1))), .int v5, .null]) ⟨(Or.inl rfl), ⟨(Or.inl rfl), ⟨(Or.inl rfl), ⟨(Or.inl rfl), ⟨(Or.inl rfl), ⟨(Or.inl rfl), ⟨(Or.inr (Or.inl ⟨rfl, _, rfl⟩)), trivial⟩⟩⟩⟩⟩⟩⟩ ?_
        exact t_X8_share_55 hK14 hr hQ
def r_X8_share_8    (I : Nat → Nat → Int32) (L : Nat → Nat → Int64) : Option gRs := some ((-1 : Int32), I, L)
set_option maxHeartbeats 4000000 in
set_option maxRecDepth 100000 in
theorem t_X8_share_8 {n f g d : Nat} {Q : gP} {z : gRs}     {I : Nat → Nat → Int32} {L : Nat → Nat → Int64} (hr : r_X8_share_8 I L = some z) (hQ : Q (some (.int z.1)) (gKn n, gRf f g, z.2.1, z.2.2)) : gW gM (d + 4) 0 0 k_X8_share 8 [.null, .null, .null, .null, .null, .null, .null] [] (gKn n, gRf f g, I, L) Q := by
  unfold r_X8_share_8 at hr
  refine r_const rfl (v := -1) (by decide) ?_
  refine r_iret rfl ?_
  cases hr
  exact hQ
def r_X8_share (I : Nat → Nat → Int32) (L : Nat → Nat → Int64) (a1 : Int32) (a2 : Int32) (a3 : Int32) : Option gRs := ((r_X8_isBeast I L a1).bind (fun z55 => (if z55.1 = 0 then (r_X8_share_8 z55.2.1 z55.2.2) else ((r_X8_isLane z55.2.1 z55.2.2 a2).bind (fun z57 => (if ¬ z57.1 = 0 then (r_X8_share_14 100 a1 a2 a3 (nI 0) (nI 0) z57.2.1 z57.2.2) else (r_X8_share_8 z57.2.1 z57.2.2)))))))
set_option maxHeartbeats 4000000 in
set_option maxRecDepth 100000 in
theorem s_X8_share {n f g d : Nat} {Q : gP} {I : Nat → Nat → Int32} {L : Nat → Nat → Int64} {a1 : Int32} {a2 : Int32} {a3 : Int32} {z : gRs}  (hr : r_X8_share I L a1 a2 a3 = some z) (hQ : Q (some (.int z.1)) (gKn n, gRf f g, z.2.1, z.2.2)) : gR gM (d + 4) 167 [.ref 57, .int a1, .int a2, .int a3] (gKn n, gRf f g, I, L) Q := by
  unfold r_X8_share at hr
  show gW gM (d + 4) 0 0 k_X8_share 0 [.ref 57, .int a1, .int a2, .int a3, .null, .null, .null] [] (gKn n, gRf f g, I, L) Q
  refine r_aload rfl rfl ?_
  refine r_iload rfl rfl ?_
  obtain ⟨z55, hz55, hr⟩ := gbnd hr
  refine r_invv (a := 57) [.int a1] rfl rfl rfl rfl rfl (Nat.le_of_ble_eq_true rfl) ⟨rfl, rfl⟩ ?_
  refine s_X8_isBeast  hz55 ?_
  show gW _ _ _ _ _ 3 [.ref 57, .int a1, .int a2, .int a3, .null, .null, .null] [.int z55.1] (gKn n, gRf f g, z55.2.1, z55.2.2) _
  refine r_if_eq 8 rfl rfl (fun c56 => ?_) (fun c56 => ?_)
  · rw [if_pos c56] at hr
    refine gforget (ls := [.null, .null, .null, .null, .null, .null, .null]) ⟨(Or.inr (Or.inr ⟨rfl, _, rfl⟩)), ⟨(Or.inr (Or.inl ⟨rfl, _, rfl⟩)), ⟨(Or.inr (Or.inl ⟨rfl, _, rfl⟩)), ⟨(Or.inr (Or.inl ⟨rfl, _, rfl⟩)), ⟨(Or.inl rfl), ⟨(Or.inl rfl), ⟨(Or.inl rfl), trivial⟩⟩⟩⟩⟩⟩⟩ ?_
    exact t_X8_share_8  hr hQ
  · rw [if_neg c56] at hr
    refine r_aload rfl rfl ?_
    refine r_iload rfl rfl ?_
    obtain ⟨z57, hz57, hr⟩ := gbnd hr
    refine r_invv (a := 57) [.int a2] rfl rfl rfl rfl rfl (Nat.le_of_ble_eq_true rfl) ⟨rfl, rfl⟩ ?_
    refine s_X8_isLane  hz57 ?_
    show gW _ _ _ _ _ 7 [.ref 57, .int a1, .int a2, .int a3, .null, .null, .null] [.int z57.1] (gKn n, gRf f g, z57.2.1, z57.2.2) _
    refine r_if_ne 10 rfl rfl (fun c58 => ?_) (fun c58 => ?_)
    · rw [if_pos c58] at hr
      refine r_const rfl (gcst 0) ?_
      refine r_istore [.ref 57, .int a1, .int a2, .int a3, .int (nI 0), .null, .null] rfl rfl (Nat.le_of_ble_eq_true rfl) rfl ?_
      refine r_const rfl (gcst 0) ?_
      refine r_istore [.ref 57, .int a1, .int a2, .int a3, .int (nI 0), .int (nI 0), .null] rfl rfl (Nat.le_of_ble_eq_true rfl) rfl ?_
      exact t_X8_share_14  hr hQ
    · rw [if_neg c58] at hr
      refine gforget (ls := [.null, .null, .null, .null, .null, .null, .null]) ⟨(Or.inr (Or.inr ⟨rfl, _, rfl⟩)), ⟨(Or.inr (Or.inl ⟨rfl, _, rfl⟩)), ⟨(Or.inr (Or.inl ⟨rfl, _, rfl⟩)), ⟨(Or.inr (Or.inl ⟨rfl, _, rfl⟩)), ⟨(Or.inl rfl), ⟨(Or.inl rfl), ⟨(Or.inl rfl), trivial⟩⟩⟩⟩⟩⟩⟩ ?_
      exact t_X8_share_8  hr hQ
def r_X8_gain_21   (v2 : Int32) (v4 : Int32) (v5 : Int32) (s0 : Int32) (I : Nat → Nat → Int32) (L : Nat → Nat → Int64) : Option gRs := ((r_X8_laySong I L (nI 0) (nI 1) v2 v4).bind (fun z11 => ((r_X8_harmonyOf z11.2.1 z11.2.2 v5 z11.1).bind (fun z12 => some ((z12.1 + s0), z12.2.1, z12.2.2)))))
set_option maxHeartbeats 4000000 in
set_option maxRecDepth 100000 in
theorem t_X8_gain_21 {n f g d : Nat} {Q : gP} {z : gRs}    {v2 : Int32} {v4 : Int32} {v5 : Int32} {s0 : Int32} {I : Nat → Nat → Int32} {L : Nat → Nat → Int64} (hr : r_X8_gain_21 v2 v4 v5 s0 I L = some z) (hQ : Q (some (.int z.1)) (gKn n, gRf f g, z.2.1, z.2.2)) : gW gM (d + 3) 0 0 k_X8_gain 21 [.ref 57, .null, .int v2, .null, .int v4, .int v5, .null] [.int s0] (gKn n, gRf f g, I, L) Q := by
  unfold r_X8_gain_21 at hr
  refine r_istore [.ref 57, .null, .int v2, .null, .int v4, .int v5, .int s0] rfl rfl (Nat.le_of_ble_eq_true rfl) rfl ?_
  refine r_aload rfl rfl ?_
  refine r_iload rfl rfl ?_
  refine r_aload rfl rfl ?_
  refine r_const rfl (gcst 0) ?_
  refine r_const rfl (gcst 1) ?_
  refine r_iload rfl rfl ?_
  refine r_iload rfl rfl ?_
  obtain ⟨z11, hz11, hr⟩ := gbnd hr
  refine r_invv (a := 57) [.int (nI 0), .int (nI 1), .int v2, .int v4] rfl rfl rfl rfl rfl (Nat.le_of_ble_eq_true rfl) ⟨rfl, rfl⟩ ?_
  refine s_X8_laySong  hz11 ?_
  show gW _ _ _ _ _ 30 [.ref 57, .null, .int v2, .null, .int v4, .int v5, .int s0] [.int z11.1, .int v5, .ref 57] (gKn n, gRf f g, z11.2.1, z11.2.2) _
  obtain ⟨z12, hz12, hr⟩ := gbnd hr
  refine r_invv (a := 57) [.int v5, .int z11.1] rfl rfl rfl rfl rfl (Nat.le_of_ble_eq_true rfl) ⟨rfl, rfl⟩ ?_
  refine s_X8_harmonyOf  hz12 ?_
  show gW _ _ _ _ _ 31 [.ref 57, .null, .int v2, .null, .int v4, .int v5, .int s0] [.int z12.1] (gKn n, gRf f g, z12.2.1, z12.2.2) _
  refine r_iload rfl rfl ?_
  refine r_iadd rfl ?_
  refine r_iret rfl ?_
  cases hr
  exact hQ
def r_X8_gain (I : Nat → Nat → Int32) (L : Nat → Nat → Int64) (a1 : Int32) (a2 : Int32) (a3 : Int32) (a4 : Int32) : Option gRs := (if ¬ a3 = a4 then ((r_X8_laySong I L (nI 0) (nI 0) a1 a3).bind (fun z14 => ((r_X8_loud z14.2.1 z14.2.2 (nI 0) z14.1).bind (fun z15 => (if ¬ z15.1 = z14.1 then (r_X8_gain_21 a2 a4 z14.1 (nI 0) z15.2.1 z15.2.2) else (r_X8_gain_21 a2 a4 z14.1 (nI 1) z15.2.1 z15.2.2)))))) else some ((nI 0), I, L))
set_option maxHeartbeats 4000000 in
set_option maxRecDepth 100000 in
theorem s_X8_gain {n f g d : Nat} {Q : gP} {I : Nat → Nat → Int32} {L : Nat → Nat → Int64} {a1 : Int32} {a2 : Int32} {a3 : Int32} {a4 : Int32} {z : gRs}  (hr : r_X8_gain I L a1 a2 a3 a4 = some z) (hQ : Q (some (.int z.1)) (gKn n, gRf f g, z.2.1, z.2.2)) : gR gM (d + 3) 168 [.ref 57, .int a1, .int a2, .int a3, .int a4] (gKn n, gRf f g, I, L) Q := by
  unfold r_X8_gain at hr
  show gW gM (d + 3) 0 0 k_X8_gain 0 [.ref 57, .int a1, .int a2, .int a3, .int a4, .null, .null] [] (gKn n, gRf f g, I, L) Q
  refine r_iload rfl rfl ?_
  refine r_iload rfl rfl ?_
  refine r_icmp_ne 5 rfl rfl (fun c13 => ?_) (fun c13 => ?_)
  · rw [if_pos c13] at hr
    refine r_aload rfl rfl ?_
    refine r_const rfl (gcst 0) ?_
    refine r_const rfl (gcst 0) ?_
    refine r_iload rfl rfl ?_
    refine r_iload rfl rfl ?_
    obtain ⟨z14, hz14, hr⟩ := gbnd hr
    refine r_invv (a := 57) [.int (nI 0), .int (nI 0), .int a1, .int a3] rfl rfl rfl rfl rfl (Nat.le_of_ble_eq_true rfl) ⟨rfl, rfl⟩ ?_
    refine s_X8_laySong  hz14 ?_
    show gW _ _ _ _ _ 11 [.ref 57, .int a1, .int a2, .int a3, .int a4, .null, .null] [.int z14.1] (gKn n, gRf f g, z14.2.1, z14.2.2) _
    refine r_istore [.ref 57, .int a1, .int a2, .int a3, .int a4, .int z14.1, .null] rfl rfl (Nat.le_of_ble_eq_true rfl) rfl ?_
    refine r_aload rfl rfl ?_
    refine r_const rfl (gcst 0) ?_
    refine r_iload rfl rfl ?_
    obtain ⟨z15, hz15, hr⟩ := gbnd hr
    refine r_invv (a := 57) [.int (nI 0), .int z14.1] rfl rfl rfl rfl rfl (Nat.le_of_ble_eq_true rfl) ⟨rfl, rfl⟩ ?_
    refine s_X8_loud  hz15 ?_
    show gW _ _ _ _ _ 16 [.ref 57, .int a1, .int a2, .int a3, .int a4, .int z14.1, .null] [.int z15.1] (gKn n, gRf f g, z15.2.1, z15.2.2) _
    refine r_iload rfl rfl ?_
    refine r_icmp_ne 20 rfl rfl (fun c16 => ?_) (fun c16 => ?_)
    · rw [if_pos c16] at hr
      refine r_const rfl (gcst 0) ?_
      refine gforget (ls := [.ref 57, .null, .int a2, .null, .int a4, .int z14.1, .null]) ⟨(Or.inl rfl), ⟨(Or.inr (Or.inl ⟨rfl, _, rfl⟩)), ⟨(Or.inl rfl), ⟨(Or.inr (Or.inl ⟨rfl, _, rfl⟩)), ⟨(Or.inl rfl), ⟨(Or.inl rfl), ⟨(Or.inl rfl), trivial⟩⟩⟩⟩⟩⟩⟩ ?_
      exact t_X8_gain_21  hr hQ
    · rw [if_neg c16] at hr
      refine r_const rfl (gcst 1) ?_
      refine r_goto 21 rfl rfl ?_
      refine gforget (ls := [.ref 57, .null, .int a2, .null, .int a4, .int z14.1, .null]) ⟨(Or.inl rfl), ⟨(Or.inr (Or.inl ⟨rfl, _, rfl⟩)), ⟨(Or.inl rfl), ⟨(Or.inr (Or.inl ⟨rfl, _, rfl⟩)), ⟨(Or.inl rfl), ⟨(Or.inl rfl), ⟨(Or.inl rfl), trivial⟩⟩⟩⟩⟩⟩⟩ ?_
      exact t_X8_gain_21  hr hQ
  · rw [if_neg c13] at hr
    refine r_const rfl (gcst 0) ?_
    refine r_iret rfl ?_
    cases hr
    exact hQ
def r_X8_isRest_38  (K4 : Int32 → Int32 → Int32 → Int32 → Int32 → Int32 → (Nat → Nat → Int32) → (Nat → Nat → Int64) → Option gRs) (v1 : Int32) (v2 : Int32) (v3 : Int32) (v4 : Int32) (v6 : Int32) (I : Nat → Nat → Int32) (L : Nat → Nat → Int64) : Option gRs := (K4 v1 v2 v3 v4 (nI 0) (v6 + (nI 1)) I L)
set_option maxHeartbeats 4000000 in
set_option maxRecDepth 100000 in
theorem t_X8_isRest_38 {n f g d : Nat} {Q : gP} {z : gRs}   {K4 : Int32 → Int32 → Int32 → Int32 → Int32 → Int32 → (Nat → Nat → Int32) → (Nat → Nat → Int64) → Option gRs} (hK4 : ∀ v1 v2 v3 v4 v5 v6 I L, K4 v1 v2 v3 v4 v5 v6 I L = some z → gW gM (d + 4) 0 0 k_X8_isRest 4 [.ref 57, .int v1, .int v2, .int v3, .int v4, .int v5, .int v6] [] (gKn n, gRf f g, I, L) Q) {v1 : Int32} {v2 : Int32} {v3 : Int32} {v4 : Int32} {v6 : Int32} {I : Nat → Nat → Int32} {L : Nat → Nat → Int64} (hr : r_X8_isRest_38 K4 v1 v2 v3 v4 v6 I L = some z) (hQ : Q (some (.int z.1)) (gKn n, gRf f g, z.2.1, z.2.2)) : gW gM (d + 4) 0 0 k_X8_isRest 38 [.ref 57, .int v1, .int v2, .int v3, .int v4, .null, .int v6] [] (gKn n, gRf f g, I, L) Q := by
  unfold r_X8_isRest_38 at hr
  refine r_const rfl (gcst 0) ?_
  refine r_istore [.ref 57, .int v1, .int v2, .int v3, .int v4, .int (nI 0), .int v6] rfl rfl (Nat.le_of_ble_eq_true rfl) rfl ?_
  refine r_iinc (y := (v6 + (nI 1))) [.ref 57, .int v1, .int v2, .int v3, .int v4, .int (nI 0), .int (v6 + (nI 1))] rfl rfl rfl (ginc _ 1) rfl ?_
  refine r_goto 4 rfl rfl ?_
  exact hK4 _ _ _ _ _ _ _ _ hr
def r_X8_isRest_4   : Nat → Int32 → Int32 → Int32 → Int32 → Int32 → Int32 → (Nat → Nat → Int32) → (Nat → Nat → Int64) → Option gRs
  | 0, _, _, _, _, _, _, _, _ => none
  | m + 1, v1, v2, v3, v4, v5, v6, I, L => (if (I 57 1) ≤ v6 then (if (v5 = 0 ∨ v5 = 1) then some (v5, I, L) else none) else (if v5 = 0 then (r_X8_isRest_38 (r_X8_isRest_4  m) v1 v2 v3 v4 v6 I L) else ((r_X8_gain I L v1 v2 v6 v4).bind (fun z22 => ((r_X8_gain z22.2.1 z22.2.2 v1 v2 v3 v4).bind (fun z23 => (if z23.1 < z22.1 then (r_X8_isRest_38 (r_X8_isRest_4  m) v1 v2 v3 v4 v6 z23.2.1 z23.2.2) else ((r_X8_gain z23.2.1 z23.2.2 v2 v1 v6 v3).bind (fun z25 => ((r_X8_gain z25.2.1 z25.2.2 v2 v1 v4 v3).bind (fun z26 => (if z26.1 < z25.1 then (r_X8_isRest_38 (r_X8_isRest_4  m) v1 v2 v3 v4 v6 z26.2.1 z26.2.2) else (r_X8_isRest_4  m v1 v2 v3 v4 (nI 1) (v6 + (nI 1)) z26.2.1 z26.2.2)))))))))))))
set_option maxHeartbeats 4000000 in
set_option maxRecDepth 100000 in
theorem t_X8_isRest_4 {n f g d : Nat} {Q : gP} {z : gRs}    : ∀ {m : Nat} {v1 : Int32} {v2 : Int32} {v3 : Int32} {v4 : Int32} {v5 : Int32} {v6 : Int32} {I : Nat → Nat → Int32} {L : Nat → Nat → Int64}, r_X8_isRest_4 m v1 v2 v3 v4 v5 v6 I L = some z → Q (some (.int z.1)) (gKn n, gRf f g, z.2.1, z.2.2) → gW gM (d + 4) 0 0 k_X8_isRest 4 [.ref 57, .int v1, .int v2, .int v3, .int v4, .int v5, .int v6] [] (gKn n, gRf f g, I, L) Q := by
  intro m
  induction m with
  | zero =>
    intro v1 v2 v3 v4 v5 v6 I L hr _
    cases hr
  | succ m ih =>
    intro v1 v2 v3 v4 v5 v6 I L hr hQ
    have hK4 : ∀ v1 v2 v3 v4 v5 v6 I L, r_X8_isRest_4 m v1 v2 v3 v4 v5 v6 I L = some z → gW gM (d + 4) 0 0 k_X8_isRest 4 [.ref 57, .int v1, .int v2, .int v3, .int v4, .int v5, .int v6] [] (gKn n, gRf f g, I, L) Q := fun v1 v2 v3 v4 v5 v6 I L hr => ih hr hQ
    unfold r_X8_isRest_4 at hr
    refine r_iload rfl rfl ?_
    refine r_aload rfl rfl ?_
    refine r_getI (c := 8) (k := 1) rfl rfl ⟨rfl, rfl⟩ ?_
    refine r_icmp_ge 42 rfl rfl (fun c19 => ?_) (fun c19 => ?_)
    · rw [if_pos c19] at hr
      refine r_iload rfl rfl ?_
      obtain ⟨b20, hr⟩ := gopt hr
      refine r_zret rfl b20 ?_
      cases hr
      exact hQ
    · rw [if_neg c19] at hr
      refine r_iload rfl rfl ?_
      refine r_if_eq 38 rfl rfl (fun c21 => ?_) (fun c21 => ?_)
      · rw [if_pos c21] at hr
        refine gforget (ls := [.ref 57, .int v1, .int v2, .int v3, .int v4, .null, .int v6]) ⟨(Or.inl rfl), ⟨(Or.inl rfl), ⟨(Or.inl rfl), ⟨(Or.inl rfl), ⟨(Or.inl rfl), ⟨(Or.inr (Or.inl ⟨rfl, _, rfl⟩)), ⟨(Or.inl rfl), trivial⟩⟩⟩⟩⟩⟩⟩ ?_
        exact t_X8_isRest_38 hK4 hr hQ
      · rw [if_neg c21] at hr
        refine r_aload rfl rfl ?_
        refine r_iload rfl rfl ?_
        refine r_iload rfl rfl ?_
        refine r_iload rfl rfl ?_
        refine r_iload rfl rfl ?_
        obtain ⟨z22, hz22, hr⟩ := gbnd hr
        refine r_invv (a := 57) [.int v1, .int v2, .int v6, .int v4] rfl rfl rfl rfl rfl (Nat.le_of_ble_eq_true rfl) ⟨rfl, rfl⟩ ?_
        refine s_X8_gain  hz22 ?_
        show gW _ _ _ _ _ 16 [.ref 57, .int v1, .int v2, .int v3, .int v4, .int v5, .int v6] [.int z22.1] (gKn n, gRf f g, z22.2.1, z22.2.2) _
        refine r_aload rfl rfl ?_
        refine r_iload rfl rfl ?_
        refine r_iload rfl rfl ?_
        refine r_iload rfl rfl ?_
        refine r_iload rfl rfl ?_
        obtain ⟨z23, hz23, hr⟩ := gbnd hr
        refine r_invv (a := 57) [.int v1, .int v2, .int v3, .int v4] rfl rfl rfl rfl rfl (Nat.le_of_ble_eq_true rfl) ⟨rfl, rfl⟩ ?_
        refine s_X8_gain  hz23 ?_
        show gW _ _ _ _ _ 22 [.ref 57, .int v1, .int v2, .int v3, .int v4, .int v5, .int v6] [.int z23.1, .int z22.1] (gKn n, gRf f g, z23.2.1, z23.2.2) _
        refine r_icmp_gt 38 rfl rfl (fun c24 => ?_) (fun c24 => ?_)
        · rw [if_pos c24] at hr
          refine gforget (ls := [.ref 57, .int v1, .int v2, .int v3, .int v4, .null, .int v6]) ⟨(Or.inl rfl), ⟨(Or.inl rfl), ⟨(Or.inl rfl), ⟨(Or.inl rfl), ⟨(Or.inl rfl), ⟨(Or.inr (Or.inl ⟨rfl, _, rfl⟩)), ⟨(Or.inl rfl), trivial⟩⟩⟩⟩⟩⟩⟩ ?_
          exact t_X8_isRest_38 hK4 hr hQ
        · rw [if_neg c24] at hr
          refine r_aload rfl rfl ?_
          refine r_iload rfl rfl ?_
          refine r_iload rfl rfl ?_
          refine r_iload rfl rfl ?_
          refine r_iload rfl rfl ?_
          obtain ⟨z25, hz25, hr⟩ := gbnd hr
          refine r_invv (a := 57) [.int v2, .int v1, .int v6, .int v3] rfl rfl rfl rfl rfl (Nat.le_of_ble_eq_true rfl) ⟨rfl, rfl⟩ ?_
          refine s_X8_gain  hz25 ?_
          show gW _ _ _ _ _ 29 [.ref 57, .int v1, .int v2, .int v3, .int v4, .int v5, .int v6] [.int z25.1] (gKn n, gRf f g, z25.2.1, z25.2.2) _
          refine r_aload rfl rfl ?_
          refine r_iload rfl rfl ?_
          refine r_iload rfl rfl ?_
          refine r_iload rfl rfl ?_
          refine r_iload rfl rfl ?_
          obtain ⟨z26, hz26, hr⟩ := gbnd hr
          refine r_invv (a := 57) [.int v2, .int v1, .int v4, .int v3] rfl rfl rfl rfl rfl (Nat.le_of_ble_eq_true rfl) ⟨rfl, rfl⟩ ?_
          refine s_X8_gain  hz26 ?_
          show gW _ _ _ _ _ 35 [.ref 57, .int v1, .int v2, .int v3, .int v4, .int v5, .int v6] [.int z26.1, .int z25.1] (gKn n, gRf f g, z26.2.1, z26.2.2) _
          refine r_icmp_gt 38 rfl rfl (fun c27 => ?_) (fun c27 => ?_)
          · rw [if_pos c27] at hr
            refine gforget (ls := [.ref 57, .int v1, .int v2, .int v3, .int v4, .null, .int v6]) ⟨(Or.inl rfl), ⟨(Or.inl rfl), ⟨(Or.inl rfl), ⟨(Or.inl rfl), ⟨(Or.inl rfl), ⟨(Or.inr (Or.inl ⟨rfl, _, rfl⟩)), ⟨(Or.inl rfl), trivial⟩⟩⟩⟩⟩⟩⟩ ?_
            exact t_X8_isRest_38 hK4 hr hQ
          · rw [if_neg c27] at hr
            refine r_const rfl (gcst 1) ?_
            refine r_goto 39 rfl rfl ?_
            refine r_istore [.ref 57, .int v1, .int v2, .int v3, .int v4, .int (nI 1), .int v6] rfl rfl (Nat.le_of_ble_eq_true rfl) rfl ?_
            refine r_iinc (y := (v6 + (nI 1))) [.ref 57, .int v1, .int v2, .int v3, .int v4, .int (nI 1), .int (v6 + (nI 1))] rfl rfl rfl (ginc _ 1) rfl ?_
            refine r_goto 4 rfl rfl ?_
            exact hK4 _ _ _ _ _ _ _ _ hr
def r_X8_isRest (I : Nat → Nat → Int32) (L : Nat → Nat → Int64) (a1 : Int32) (a2 : Int32) (a3 : Int32) (a4 : Int32) : Option gRs := (r_X8_isRest_4 100 a1 a2 a3 a4 (nI 1) (nI 0) I L)
set_option maxHeartbeats 4000000 in
set_option maxRecDepth 100000 in
theorem s_X8_isRest {n f g d : Nat} {Q : gP} {I : Nat → Nat → Int32} {L : Nat → Nat → Int64} {a1 : Int32} {a2 : Int32} {a3 : Int32} {a4 : Int32} {z : gRs}  (hr : r_X8_isRest I L a1 a2 a3 a4 = some z) (hQ : Q (some (.int z.1)) (gKn n, gRf f g, z.2.1, z.2.2)) : gR gM (d + 4) 169 [.ref 57, .int a1, .int a2, .int a3, .int a4] (gKn n, gRf f g, I, L) Q := by
  unfold r_X8_isRest at hr
  show gW gM (d + 4) 0 0 k_X8_isRest 0 [.ref 57, .int a1, .int a2, .int a3, .int a4, .null, .null] [] (gKn n, gRf f g, I, L) Q
  refine r_const rfl (gcst 1) ?_
  refine r_istore [.ref 57, .int a1, .int a2, .int a3, .int a4, .int (nI 1), .null] rfl rfl (Nat.le_of_ble_eq_true rfl) rfl ?_
  refine r_const rfl (gcst 0) ?_
  refine r_istore [.ref 57, .int a1, .int a2, .int a3, .int a4, .int (nI 1), .int (nI 0)] rfl rfl (Nat.le_of_ble_eq_true rfl) rfl ?_
  exact t_X8_isRest_4  hr hQ
def r_X8_rests_62  (K27 : Int32 → Int32 → Int32 → Int32 → Int32 → Int32 → (Nat → Nat → Int32) → (Nat → Nat → Int64) → Option gRs) (v1 : Int32) (v2 : Int32) (v3 : Int32) (v4 : Int32) (v6 : Int32) (s0 : Int32) (I : Nat → Nat → Int32) (L : Nat → Nat → Int64) : Option gRs := (K27 v1 v2 v3 (v4 + (nI 1)) s0 (v6 + (nI 1)) I L)
set_option maxHeartbeats 4000000 in
set_option maxRecDepth 100000 in
theorem t_X8_rests_62 {n f g d : Nat} {Q : gP} {z : gRs}   {K27 : Int32 → Int32 → Int32 → Int32 → Int32 → Int32 → (Nat → Nat → Int32) → (Nat → Nat → Int64) → Option gRs} (hK27 : ∀ v1 v2 v3 v4 v5 v6 I L, K27 v1 v2 v3 v4 v5 v6 I L = some z → gW gM (d + 5) 0 0 k_X8_rests 27 [.ref 57, .int v1, .int v2, .int v3, .int v4, .int v5, .int v6] [] (gKn n, gRf f g, I, L) Q) {v1 : Int32} {v2 : Int32} {v3 : Int32} {v4 : Int32} {v6 : Int32} {s0 : Int32} {I : Nat → Nat → Int32} {L : Nat → Nat → Int64} (hr : r_X8_rests_62 K27 v1 v2 v3 v4 v6 s0 I L = some z) (hQ : Q (some (.int z.1)) (gKn n, gRf f g, z.2.1, z.2.2)) : gW gM (d + 5) 0 0 k_X8_rests 62 [.ref 57, .int v1, .int v2, .int v3, .int v4, .null, .int v6] [.int s0] (gKn n, gRf f g, I, L) Q := by
  unfold r_X8_rests_62 at hr
  refine r_istore [.ref 57, .int v1, .int v2, .int v3, .int v4, .int s0, .int v6] rfl rfl (Nat.le_of_ble_eq_true rfl) rfl ?_
  refine r_iinc (y := (v4 + (nI 1))) [.ref 57, .int v1, .int v2, .int v3, .int (v4 + (nI 1)), .int s0, .int v6] rfl rfl rfl (ginc _ 1) rfl ?_
  refine r_iinc (y := (v6 + (nI 1))) [.ref 57, .int v1, .int v2, .int v3, .int (v4 + (nI 1)), .int s0, .int (v6 + (nI 1))] rfl rfl rfl (ginc _ 1) rfl ?_
  refine r_goto 27 rfl rfl ?_
  exact hK27 _ _ _ _ _ _ _ _ hr
def r_X8_rests_27   : Nat → Int32 → Int32 → Int32 → Int32 → Int32 → Int32 → (Nat → Nat → Int32) → (Nat → Nat → Int64) → Option gRs
  | 0, _, _, _, _, _, _, _, _ => none
  | m + 1, v1, v2, v3, v4, v5, v6, I, L => (if ((I 57 1) * (I 57 1)) ≤ v6 then some ((if ¬ v3 = 0 then v5 else v4), I, L) else (if ¬ (I 57 1) = 0 then (if ¬ (I 57 1) = 0 then ((r_X8_isRest I L v1 v2 (v6 / (I 57 1)) (grem v6 (I 57 1))).bind (fun z41 => (if z41.1 = 0 then (r_X8_rests_27  m v1 v2 v3 v4 v5 (v6 + (nI 1)) z41.2.1 z41.2.2) else (if ¬ v4 = 0 then (r_X8_rests_62 (r_X8_rests_27  m) v1 v2 v3 v4 v6 v5 z41.2.1 z41.2.2) else (if ¬ (z41.2.1 57 1) = 0 then (if ¬ (z41.2.1 57 1) = 0 then (r_X8_rests_62 (r_X8_rests_27  m) v1 v2 v3 v4 v6 (((nI 10) * (v6 / (z41.2.1 57 1))) + (grem v6 (z41.2.1 57 1))) z41.2.1 z41.2.2) else none) else none))))) else none) else none))
set_option maxHeartbeats 4000000 in
set_option maxRecDepth 100000 in
theorem t_X8_rests_27 {n f g d : Nat} {Q : gP} {z : gRs}    : ∀ {m : Nat} {v1 : Int32} {v2 : Int32} {v3 : Int32} {v4 : Int32} {v5 : Int32} {v6 : Int32} {I : Nat → Nat → Int32} {L : Nat → Nat → Int64}, r_X8_rests_27 m v1 v2 v3 v4 v5 v6 I L = some z → Q (some (.int z.1)) (gKn n, gRf f g, z.2.1, z.2.2) → gW gM (d + 5) 0 0 k_X8_rests 27 [.ref 57, .int v1, .int v2, .int v3, .int v4, .int v5, .int v6] [] (gKn n, gRf f g, I, L) Q := by
  intro m
  induction m with
  | zero =>
    intro v1 v2 v3 v4 v5 v6 I L hr _
    cases hr
  | succ m ih =>
    intro v1 v2 v3 v4 v5 v6 I L hr hQ
    have hK27 : ∀ v1 v2 v3 v4 v5 v6 I L, r_X8_rests_27 m v1 v2 v3 v4 v5 v6 I L = some z → gW gM (d + 5) 0 0 k_X8_rests 27 [.ref 57, .int v1, .int v2, .int v3, .int v4, .int v5, .int v6] [] (gKn n, gRf f g, I, L) Q := fun v1 v2 v3 v4 v5 v6 I L hr => ih hr hQ
    unfold r_X8_rests_27 at hr
    refine r_iload rfl rfl ?_
    refine r_aload rfl rfl ?_
    refine r_getI (c := 8) (k := 1) rfl rfl ⟨rfl, rfl⟩ ?_
    refine r_aload rfl rfl ?_
    refine r_getI (c := 8) (k := 1) rfl rfl ⟨rfl, rfl⟩ ?_
    refine r_imul rfl ?_
    refine r_icmp_ge 66 rfl rfl (fun c37 => ?_) (fun c37 => ?_)
    · rw [if_pos c37] at hr
      refine r_iload rfl rfl ?_
      have j46 : gW gM (d + 5) 0 0 k_X8_rests 71 [.ref 57, .int v1, .int v2, .int v3, .int v4, .int v5, .int v6] [.int (if ¬ v3 = 0 then v5 else v4)] (gKn n, gRf f g, I, L) Q := by
        refine r_iret rfl ?_
        cases hr
        exact hQ
      refine r_if_ne 70 rfl rfl (fun c38 => ?_) (fun c38 => ?_)
      · refine r_iload rfl rfl ?_
        first | contradiction | simpa only [if_pos c38] using j46
      · refine r_iload rfl rfl ?_
        refine r_goto 71 rfl rfl ?_
        first | contradiction | simpa only [if_neg c38] using j46
    · rw [if_neg c37] at hr
      refine r_aload rfl rfl ?_
      refine r_iload rfl rfl ?_
      refine r_iload rfl rfl ?_
      refine r_iload rfl rfl ?_
      refine r_aload rfl rfl ?_
      refine r_getI (c := 8) (k := 1) rfl rfl ⟨rfl, rfl⟩ ?_
      obtain ⟨b39, hr⟩ := gopt hr
      refine r_idiv rfl b39 ?_
      refine r_iload rfl rfl ?_
      refine r_aload rfl rfl ?_
      refine r_getI (c := 8) (k := 1) rfl rfl ⟨rfl, rfl⟩ ?_
      obtain ⟨b40, hr⟩ := gopt hr
      refine r_irem rfl b40 ?_
      obtain ⟨z41, hz41, hr⟩ := gbnd hr
      refine r_invv (a := 57) [.int v1, .int v2, .int (v6 / (I 57 1)), .int (grem v6 (I 57 1))] rfl rfl rfl rfl rfl (Nat.le_of_ble_eq_true rfl) ⟨rfl, rfl⟩ ?_
      refine s_X8_isRest  hz41 ?_
      show gW _ _ _ _ _ 46 [.ref 57, .int v1, .int v2, .int v3, .int v4, .int v5, .int v6] [.int z41.1] (gKn n, gRf f g, z41.2.1, z41.2.2) _
      refine r_if_eq 64 rfl rfl (fun c42 => ?_) (fun c42 => ?_)
      · rw [if_pos c42] at hr
        refine r_iinc (y := (v6 + (nI 1))) [.ref 57, .int v1, .int v2, .int v3, .int v4, .int v5, .int (v6 + (nI 1))] rfl rfl rfl (ginc _ 1) rfl ?_
        refine r_goto 27 rfl rfl ?_
        exact hK27 _ _ _ _ _ _ _ _ hr
      · rw [if_neg c42] at hr
        refine r_iload rfl rfl ?_
        refine r_if_ne 61 rfl rfl (fun c43 => ?_) (fun c43 => ?_)
        · rw [if_pos c43] at hr
          refine r_iload rfl rfl ?_
          refine gforget (ls := [.ref 57, .int v1, .int v2, .int v3, .int v4, .null, .int v6]) ⟨(Or.inl rfl), ⟨(Or.inl rfl), ⟨(Or.inl rfl), ⟨(Or.inl rfl), ⟨(Or.inl rfl), ⟨(Or.inr (Or.inl ⟨rfl, _, rfl⟩)), ⟨(Or.inl rfl), trivial⟩⟩⟩⟩⟩⟩⟩ ?_
          exact t_X8_rests_62 hK27 hr hQ
        · rw [if_neg c43] at hr
          refine r_const rfl (gcst 10) ?_
          refine r_iload rfl rfl ?_
          refine r_aload rfl rfl ?_
          refine r_getI (c := 8) (k := 1) rfl rfl ⟨rfl, rfl⟩ ?_
          obtain ⟨b44, hr⟩ := gopt hr
          refine r_idiv rfl b44 ?_
          refine r_imul rfl ?_
          refine r_iload rfl rfl ?_
          refine r_aload rfl rfl ?_
          refine r_getI (c := 8) (k := 1) rfl rfl ⟨rfl, rfl⟩ ?_
          obtain ⟨b45, hr⟩ := gopt hr
          refine r_irem rfl b45 ?_
          refine r_iadd rfl ?_
          refine r_goto 62 rfl rfl ?_
          refine gforget (ls := [.ref 57, .int v1, .int v2, .int v3, .int v4, .null, .int v6]) ⟨(Or.inl rfl), ⟨(Or.inl rfl), ⟨(Or.inl rfl), ⟨(Or.inl rfl), ⟨(Or.inl rfl), ⟨(Or.inr (Or.inl ⟨rfl, _, rfl⟩)), ⟨(Or.inl rfl), trivial⟩⟩⟩⟩⟩⟩⟩ ?_
          exact t_X8_rests_62 hK27 hr hQ
def r_X8_rests_19    (I : Nat → Nat → Int32) (L : Nat → Nat → Int64) : Option gRs := some ((-2 : Int32), I, L)
set_option maxHeartbeats 4000000 in
set_option maxRecDepth 100000 in
theorem t_X8_rests_19 {n f g d : Nat} {Q : gP} {z : gRs}     {I : Nat → Nat → Int32} {L : Nat → Nat → Int64} (hr : r_X8_rests_19 I L = some z) (hQ : Q (some (.int z.1)) (gKn n, gRf f g, z.2.1, z.2.2)) : gW gM (d + 5) 0 0 k_X8_rests 19 [.null, .null, .null, .null, .null, .null, .null] [] (gKn n, gRf f g, I, L) Q := by
  unfold r_X8_rests_19 at hr
  refine r_const rfl (v := -2) (by decide) ?_
  refine r_iret rfl ?_
  cases hr
  exact hQ
def r_X8_rests_8    (I : Nat → Nat → Int32) (L : Nat → Nat → Int64) : Option gRs := some ((-1 : Int32), I, L)
set_option maxHeartbeats 4000000 in
set_option maxRecDepth 100000 in
theorem t_X8_rests_8 {n f g d : Nat} {Q : gP} {z : gRs}     {I : Nat → Nat → Int32} {L : Nat → Nat → Int64} (hr : r_X8_rests_8 I L = some z) (hQ : Q (some (.int z.1)) (gKn n, gRf f g, z.2.1, z.2.2)) : gW gM (d + 5) 0 0 k_X8_rests 8 [.null, .null, .null, .null, .null, .null, .null] [] (gKn n, gRf f g, I, L) Q := by
  unfold r_X8_rests_8 at hr
  refine r_const rfl (v := -1) (by decide) ?_
  refine r_iret rfl ?_
  cases hr
  exact hQ
def r_X8_rests (I : Nat → Nat → Int32) (L : Nat → Nat → Int64) (a1 : Int32) (a2 : Int32) (a3 : Int32) : Option gRs := ((r_X8_isBeast I L a1).bind (fun z47 => (if z47.1 = 0 then (r_X8_rests_8 z47.2.1 z47.2.2) else ((r_X8_isBeast z47.2.1 z47.2.2 a2).bind (fun z49 => (if ¬ z49.1 = 0 then (if a1 = a2 then (r_X8_rests_19 z49.2.1 z49.2.2) else (if ¬ (f_X8_in z49.2.1 z49.2.2 (Int32.toInt64 a3) (lN 0) (lN 1)) = 0 then (r_X8_rests_27 100 a1 a2 a3 (nI 0) (-9 : Int32) (nI 0) z49.2.1 z49.2.2) else (r_X8_rests_19 z49.2.1 z49.2.2))) else (r_X8_rests_8 z49.2.1 z49.2.2)))))))
set_option maxHeartbeats 4000000 in
set_option maxRecDepth 100000 in
theorem s_X8_rests {n f g d : Nat} {Q : gP} {I : Nat → Nat → Int32} {L : Nat → Nat → Int64} {a1 : Int32} {a2 : Int32} {a3 : Int32} {z : gRs}  (hr : r_X8_rests I L a1 a2 a3 = some z) (hQ : Q (some (.int z.1)) (gKn n, gRf f g, z.2.1, z.2.2)) : gR gM (d + 5) 170 [.ref 57, .int a1, .int a2, .int a3] (gKn n, gRf f g, I, L) Q := by
  unfold r_X8_rests at hr
  show gW gM (d + 5) 0 0 k_X8_rests 0 [.ref 57, .int a1, .int a2, .int a3, .null, .null, .null] [] (gKn n, gRf f g, I, L) Q
  refine r_aload rfl rfl ?_
  refine r_iload rfl rfl ?_
  obtain ⟨z47, hz47, hr⟩ := gbnd hr
  refine r_invv (a := 57) [.int a1] rfl rfl rfl rfl rfl (Nat.le_of_ble_eq_true rfl) ⟨rfl, rfl⟩ ?_
  refine s_X8_isBeast  hz47 ?_
  show gW _ _ _ _ _ 3 [.ref 57, .int a1, .int a2, .int a3, .null, .null, .null] [.int z47.1] (gKn n, gRf f g, z47.2.1, z47.2.2) _
  refine r_if_eq 8 rfl rfl (fun c48 => ?_) (fun c48 => ?_)
  · rw [if_pos c48] at hr
    refine gforget (ls := [.null, .null, .null, .null, .null, .null, .null]) ⟨(Or.inr (Or.inr ⟨rfl, _, rfl⟩)), ⟨(Or.inr (Or.inl ⟨rfl, _, rfl⟩)), ⟨(Or.inr (Or.inl ⟨rfl, _, rfl⟩)), ⟨(Or.inr (Or.inl ⟨rfl, _, rfl⟩)), ⟨(Or.inl rfl), ⟨(Or.inl rfl), ⟨(Or.inl rfl), trivial⟩⟩⟩⟩⟩⟩⟩ ?_
    exact t_X8_rests_8  hr hQ
  · rw [if_neg c48] at hr
    refine r_aload rfl rfl ?_
    refine r_iload rfl rfl ?_
    obtain ⟨z49, hz49, hr⟩ := gbnd hr
    refine r_invv (a := 57) [.int a2] rfl rfl rfl rfl rfl (Nat.le_of_ble_eq_true rfl) ⟨rfl, rfl⟩ ?_
    refine s_X8_isBeast  hz49 ?_
    show gW _ _ _ _ _ 7 [.ref 57, .int a1, .int a2, .int a3, .null, .null, .null] [.int z49.1] (gKn n, gRf f g, z49.2.1, z49.2.2) _
    refine r_if_ne 10 rfl rfl (fun c50 => ?_) (fun c50 => ?_)
    · rw [if_pos c50] at hr
      refine r_iload rfl rfl ?_
      refine r_iload rfl rfl ?_
      refine r_icmp_eq 19 rfl rfl (fun c51 => ?_) (fun c51 => ?_)
      · rw [if_pos c51] at hr
        refine gforget (ls := [.null, .null, .null, .null, .null, .null, .null]) ⟨(Or.inr (Or.inr ⟨rfl, _, rfl⟩)), ⟨(Or.inr (Or.inl ⟨rfl, _, rfl⟩)), ⟨(Or.inr (Or.inl ⟨rfl, _, rfl⟩)), ⟨(Or.inr (Or.inl ⟨rfl, _, rfl⟩)), ⟨(Or.inl rfl), ⟨(Or.inl rfl), ⟨(Or.inl rfl), trivial⟩⟩⟩⟩⟩⟩⟩ ?_
        exact t_X8_rests_19  hr hQ
      · rw [if_neg c51] at hr
        refine r_iload rfl rfl ?_
        refine r_i2l rfl ?_
        refine r_lconst (v := lN 0) rfl rfl ?_
        refine r_lconst (v := lN 1) rfl rfl ?_
        refine r_invs [.long (Int32.toInt64 a3), .long (lN 0), .long (lN 1)] rfl rfl rfl rfl (Nat.le_of_ble_eq_true rfl) ⟨rfl, rfl⟩ ?_
        refine s_X8_in  ?_
        show gW _ _ _ _ _ 18 [.ref 57, .int a1, .int a2, .int a3, .null, .null, .null] [.int (f_X8_in z49.2.1 z49.2.2 (Int32.toInt64 a3) (lN 0) (lN 1))] (gKn n, gRf f g, z49.2.1, z49.2.2) _
        refine r_if_ne 21 rfl rfl (fun c52 => ?_) (fun c52 => ?_)
        · rw [if_pos c52] at hr
          refine r_const rfl (gcst 0) ?_
          refine r_istore [.ref 57, .int a1, .int a2, .int a3, .int (nI 0), .null, .null] rfl rfl (Nat.le_of_ble_eq_true rfl) rfl ?_
          refine r_const rfl (v := -9) (by decide) ?_
          refine r_istore [.ref 57, .int a1, .int a2, .int a3, .int (nI 0), .int (-9 : Int32), .null] rfl rfl (Nat.le_of_ble_eq_true rfl) rfl ?_
          refine r_const rfl (gcst 0) ?_
          refine r_istore [.ref 57, .int a1, .int a2, .int a3, .int (nI 0), .int (-9 : Int32), .int (nI 0)] rfl rfl (Nat.le_of_ble_eq_true rfl) rfl ?_
          exact t_X8_rests_27  hr hQ
        · rw [if_neg c52] at hr
          refine gforget (ls := [.null, .null, .null, .null, .null, .null, .null]) ⟨(Or.inr (Or.inr ⟨rfl, _, rfl⟩)), ⟨(Or.inr (Or.inl ⟨rfl, _, rfl⟩)), ⟨(Or.inr (Or.inl ⟨rfl, _, rfl⟩)), ⟨(Or.inr (Or.inl ⟨rfl, _, rfl⟩)), ⟨(Or.inl rfl), ⟨(Or.inl rfl), ⟨(Or.inl rfl), trivial⟩⟩⟩⟩⟩⟩⟩ ?_
          exact t_X8_rests_19  hr hQ
    · rw [if_neg c50] at hr
      refine gforget (ls := [.null, .null, .null, .null, .null, .null, .null]) ⟨(Or.inr (Or.inr ⟨rfl, _, rfl⟩)), ⟨(Or.inr (Or.inl ⟨rfl, _, rfl⟩)), ⟨(Or.inr (Or.inl ⟨rfl, _, rfl⟩)), ⟨(Or.inr (Or.inl ⟨rfl, _, rfl⟩)), ⟨(Or.inl rfl), ⟨(Or.inl rfl), ⟨(Or.inl rfl), trivial⟩⟩⟩⟩⟩⟩⟩ ?_
      exact t_X8_rests_8  hr hQ
def r_X8_drips_97   (s0 : Int32) (I : Nat → Nat → Int32) (L : Nat → Nat → Int64) : Option gRs := some (s0, I, L)
set_option maxHeartbeats 4000000 in
set_option maxRecDepth 100000 in
theorem t_X8_drips_97 {n f g d : Nat} {Q : gP} {z : gRs}    {s0 : Int32} {I : Nat → Nat → Int32} {L : Nat → Nat → Int64} (hr : r_X8_drips_97 s0 I L = some z) (hQ : Q (some (.int z.1)) (gKn n, gRf f g, z.2.1, z.2.2)) : gW gM (d + 3) 0 0 k_X8_drips 97 [.null, .null, .null, .null, .null, .null, .null, .null, .null, .null] [.int s0] (gKn n, gRf f g, I, L) Q := by
  unfold r_X8_drips_97 at hr
  refine r_iret rfl ?_
  cases hr
  exact hQ
def r_X8_drips_80  (K30 : Int32 → Int32 → Int32 → Int32 → Int32 → Int32 → Int32 → Int32 → (Nat → Nat → Int32) → (Nat → Nat → Int64) → Option gRs) (v1 : Int32) (v2 : Int32) (v3 : Int32) (v4 : Int32) (v5 : Int32) (v7 : Int32) (v8 : Int32) (s0 : Int32) (s1 : Int32) (I : Nat → Nat → Int32) (L : Nat → Nat → Int64) : Option gRs := (K30 v1 v2 v3 v4 v5 (s0 + s1) v7 (v8 + (nI 1)) I L)
set_option maxHeartbeats 4000000 in
set_option maxRecDepth 100000 in
theorem t_X8_drips_80 {n f g d : Nat} {Q : gP} {z : gRs}   {K30 : Int32 → Int32 → Int32 → Int32 → Int32 → Int32 → Int32 → Int32 → (Nat → Nat → Int32) → (Nat → Nat → Int64) → Option gRs} (hK30 : ∀ v1 v2 v3 v4 v5 v6 v7 v8 I L, K30 v1 v2 v3 v4 v5 v6 v7 v8 I L = some z → gW gM (d + 3) 0 0 k_X8_drips 30 [.ref 57, .int v1, .int v2, .int v3, .int v4, .int v5, .int v6, .int v7, .int v8, .null] [] (gKn n, gRf f g, I, L) Q) {v1 : Int32} {v2 : Int32} {v3 : Int32} {v4 : Int32} {v5 : Int32} {v7 : Int32} {v8 : Int32} {s0 : Int32} {s1 : Int32} {I : Nat → Nat → Int32} {L : Nat → Nat → Int64} (hr : r_X8_drips_80 K30 v1 v2 v3 v4 v5 v7 v8 s0 s1 I L = some z) (hQ : Q (some (.int z.1)) (gKn n, gRf f g, z.2.1, z.2.2)) : gW gM (d + 3) 0 0 k_X8_drips 80 [.ref 57, .int v1, .int v2, .int v3, .int v4, .int v5, .null, .int v7, .int v8, .null] [.int s1, .int s0] (gKn n, gRf f g, I, L) Q := by
  unfold r_X8_drips_80 at hr
  refine r_iadd rfl ?_
  refine r_istore [.ref 57, .int v1, .int v2, .int v3, .int v4, .int v5, .int (s0 + s1), .int v7, .int v8, .null] rfl rfl (Nat.le_of_ble_eq_true rfl) rfl ?_
  refine r_iinc (y := (v8 + (nI 1))) [.ref 57, .int v1, .int v2, .int v3, .int v4, .int v5, .int (s0 + s1), .int v7, .int (v8 + (nI 1)), .null] rfl rfl rfl (ginc _ 1) rfl ?_
  refine r_goto 30 rfl rfl ?_
  exact hK30 _ _ _ _ _ _ _ _ _ _ hr
def r_X8_drips_30   : Nat → Int32 → Int32 → Int32 → Int32 → Int32 → Int32 → Int32 → Int32 → (Nat → Nat → Int32) → (Nat → Nat → Int64) → Option gRs
  | 0, _, _, _, _, _, _, _, _, _, _ => none
  | m + 1, v1, v2, v3, v4, v5, v6, v7, v8, I, L => (if (gshl (nI 1) (I 57 0)) ≤ v8 then ((r_X8_common I L v6 v7).bind (fun z46 => (if v5 = 0 then (if ¬ z46.1 = 0 then (r_X8_drips_97 (v7 / z46.1) z46.2.1 z46.2.2) else none) else (if ¬ z46.1 = 0 then (r_X8_drips_97 (v6 / z46.1) z46.2.1 z46.2.2) else none)))) else ((r_X8_layTrial I L).bind (fun z50 => ((r_X8_ones (gu2 z50.2.1 63 (gx (nI 38)) ((z50.2.1 63 (gx (nI 38))) ||| v8)) z50.2.2 v8).bind (fun z51 => ((r_X8_power z51.2.1 z51.2.2 v4 z51.1).bind (fun z52 => ((r_X8_ones z52.2.1 z52.2.2 v8).bind (fun z53 => ((r_X8_power z53.2.1 z53.2.2 ((nI 10) - v4) ((z52.2.1 57 0) - z53.1)).bind (fun z54 => ((r_X8_laySong z54.2.1 z54.2.2 (nI 1) (nI 0) v1 v2).bind (fun z55 => ((r_X8_loud z55.2.1 z55.2.2 (nI 0) z55.1).bind (fun z56 => (if v3 < z56.1 then (r_X8_drips_80 (r_X8_drips_30  m) v1 v2 v3 v4 v5 (v7 + (z52.1 * z54.1)) v8 v6 (nI 0) z56.2.1 z56.2.2) else (r_X8_drips_80 (r_X8_drips_30  m) v1 v2 v3 v4 v5 (v7 + (z52.1 * z54.1)) v8 v6 (z52.1 * z54.1) z56.2.1 z56.2.2)))))))))))))))))
set_option maxHeartbeats 4000000 in
set_option maxRecDepth 100000 in
theorem t_X8_drips_30 {n f g d : Nat} {Q : gP} {z : gRs}    : ∀ {m : Nat} {v1 : Int32} {v2 : Int32} {v3 : Int32} {v4 : Int32} {v5 : Int32} {v6 : Int32} {v7 : Int32} {v8 : Int32} {I : Nat → Nat → Int32} {L : Nat → Nat → Int64}, r_X8_drips_30 m v1 v2 v3 v4 v5 v6 v7 v8 I L = some z → Q (some (.int z.1)) (gKn n, gRf f g, z.2.1, z.2.2) → gW gM (d + 3) 0 0 k_X8_drips 30 [.ref 57, .int v1, .int v2, .int v3, .int v4, .int v5, .int v6, .int v7, .int v8, .null] [] (gKn n, gRf f g, I, L) Q := by
  intro m
  induction m with
  | zero =>
    intro v1 v2 v3 v4 v5 v6 v7 v8 I L hr _
    cases hr
  | succ m ih =>
    intro v1 v2 v3 v4 v5 v6 v7 v8 I L hr hQ
    have hK30 : ∀ v1 v2 v3 v4 v5 v6 v7 v8 I L, r_X8_drips_30 m v1 v2 v3 v4 v5 v6 v7 v8 I L = some z → gW gM (d + 3) 0 0 k_X8_drips 30 [.ref 57, .int v1, .int v2, .int v3, .int v4, .int v5, .int v6, .int v7, .int v8, .null] [] (gKn n, gRf f g, I, L) Q := fun v1 v2 v3 v4 v5 v6 v7 v8 I L hr => ih hr hQ
    unfold r_X8_drips_30 at hr
    refine r_iload rfl rfl ?_
    refine r_const rfl (gcst 1) ?_
    refine r_aload rfl rfl ?_
    refine r_getI (c := 8) (k := 0) rfl rfl ⟨rfl, rfl⟩ ?_
    refine r_ishl rfl ?_
    refine r_icmp_ge 84 rfl rfl (fun c45 => ?_) (fun c45 => ?_)
    · rw [if_pos c45] at hr
      refine r_iload rfl rfl ?_
      refine r_iload rfl rfl ?_
      obtain ⟨z46, hz46, hr⟩ := gbnd hr
      refine r_invs [.int v6, .int v7] rfl rfl rfl rfl (Nat.le_of_ble_eq_true rfl) ⟨rfl, rfl⟩ ?_
      refine s_X8_common  hz46 ?_
      show gW _ _ _ _ _ 87 [.ref 57, .int v1, .int v2, .int v3, .int v4, .int v5, .int v6, .int v7, .int v8, .null] [.int z46.1] (gKn n, gRf f g, z46.2.1, z46.2.2) _
      refine r_istore [.ref 57, .int v1, .int v2, .int v3, .int v4, .int v5, .int v6, .int v7, .int z46.1, .null] rfl rfl (Nat.le_of_ble_eq_true rfl) rfl ?_
      refine r_iload rfl rfl ?_
      refine r_if_eq 94 rfl rfl (fun c47 => ?_) (fun c47 => ?_)
      · rw [if_pos c47] at hr
        refine r_iload rfl rfl ?_
        refine r_iload rfl rfl ?_
        obtain ⟨b48, hr⟩ := gopt hr
        refine r_idiv rfl b48 ?_
        refine gforget (ls := [.null, .null, .null, .null, .null, .null, .null, .null, .null, .null]) ⟨(Or.inr (Or.inr ⟨rfl, _, rfl⟩)), ⟨(Or.inr (Or.inl ⟨rfl, _, rfl⟩)), ⟨(Or.inr (Or.inl ⟨rfl, _, rfl⟩)), ⟨(Or.inr (Or.inl ⟨rfl, _, rfl⟩)), ⟨(Or.inr (Or.inl ⟨rfl, _, rfl⟩)), ⟨(Or.inr (Or.inl ⟨rfl, _, rfl⟩)), ⟨(Or.inr (Or.inl ⟨rfl, _, rfl⟩)), ⟨(Or.inr (Or.inl ⟨rfl, _, rfl⟩)), ⟨(Or.inr (Or.inl ⟨rfl, _, rfl⟩)), ⟨(Or.inl rfl), trivial⟩⟩⟩⟩⟩⟩⟩⟩⟩⟩ ?_
        exact t_X8_drips_97  hr hQ
      · rw [if_neg c47] at hr
        refine r_iload rfl rfl ?_
        refine r_iload rfl rfl ?_
        obtain ⟨b49, hr⟩ := gopt hr
        refine r_idiv rfl b49 ?_
        refine r_goto 97 rfl rfl ?_
        refine gforget (ls := [.null, .null, .null, .null, .null, .null, .null, .null, .null, .null]) ⟨(Or.inr (Or.inr ⟨rfl, _, rfl⟩)), ⟨(Or.inr (Or.inl ⟨rfl, _, rfl⟩)), ⟨(Or.inr (Or.inl ⟨rfl, _, rfl⟩)), ⟨(Or.inr (Or.inl ⟨rfl, _, rfl⟩)), ⟨(Or.inr (Or.inl ⟨rfl, _, rfl⟩)), ⟨(Or.inr (Or.inl ⟨rfl, _, rfl⟩)), ⟨(Or.inr (Or.inl ⟨rfl, _, rfl⟩)), ⟨(Or.inr (Or.inl ⟨rfl, _, rfl⟩)), ⟨(Or.inr (Or.inl ⟨rfl, _, rfl⟩)), ⟨(Or.inl rfl), trivial⟩⟩⟩⟩⟩⟩⟩⟩⟩⟩ ?_
        exact t_X8_drips_97  hr hQ
    · rw [if_neg c45] at hr
      refine r_aload rfl rfl ?_
      obtain ⟨z50, hz50, hr⟩ := gbnd hr
      refine r_invv (a := 57) [] rfl rfl rfl rfl rfl (Nat.le_of_ble_eq_true rfl) ⟨rfl, rfl⟩ ?_
      refine s_X8_layTrial  hz50 ?_
      show gW _ _ _ _ _ 38 [.ref 57, .int v1, .int v2, .int v3, .int v4, .int v5, .int v6, .int v7, .int v8, .null] [] (gKn n, gRf f g, z50.2.1, z50.2.2) _
      refine r_aload rfl rfl ?_
      refine r_getR (c := 8) (k := 9) (v := 63) rfl rfl ⟨rfl, rfl⟩ rfl ?_
      refine r_const rfl (gcst 38) ?_
      refine r_dup2 rfl rfl rfl ?_
      refine r_iaload (n := 54) rfl rfl (vp_in_nI (n := 38) (N := 54) (by decide) (by decide)) ?_
      refine r_iload rfl rfl ?_
      refine r_ior rfl ?_
      refine r_iastore (n := 54) rfl rfl (vp_in_nI (n := 38) (N := 54) (by decide) (by decide)) (by decide) ?_
      refine r_iload rfl rfl ?_
      refine r_iload rfl rfl ?_
      obtain ⟨z51, hz51, hr⟩ := gbnd hr
      refine r_invs [.int v8] rfl rfl rfl rfl (Nat.le_of_ble_eq_true rfl) ⟨rfl, rfl⟩ ?_
      refine s_X8_ones  hz51 ?_
      show gW _ _ _ _ _ 49 [.ref 57, .int v1, .int v2, .int v3, .int v4, .int v5, .int v6, .int v7, .int v8, .null] [.int z51.1, .int v4] (gKn n, gRf f g, z51.2.1, z51.2.2) _
      obtain ⟨z52, hz52, hr⟩ := gbnd hr
      refine r_invs [.int v4, .int z51.1] rfl rfl rfl rfl (Nat.le_of_ble_eq_true rfl) ⟨rfl, rfl⟩ ?_
      refine s_X8_power  hz52 ?_
      show gW _ _ _ _ _ 50 [.ref 57, .int v1, .int v2, .int v3, .int v4, .int v5, .int v6, .int v7, .int v8, .null] [.int z52.1] (gKn n, gRf f g, z52.2.1, z52.2.2) _
      refine r_const rfl (gcst 10) ?_
      refine r_iload rfl rfl ?_
      refine r_isub rfl ?_
      refine r_aload rfl rfl ?_
      refine r_getI (c := 8) (k := 0) rfl rfl ⟨rfl, rfl⟩ ?_
      refine r_iload rfl rfl ?_
      obtain ⟨z53, hz53, hr⟩ := gbnd hr
      refine r_invs [.int v8] rfl rfl rfl rfl (Nat.le_of_ble_eq_true rfl) ⟨rfl, rfl⟩ ?_
      refine s_X8_ones  hz53 ?_
      show gW _ _ _ _ _ 57 [.ref 57, .int v1, .int v2, .int v3, .int v4, .int v5, .int v6, .int v7, .int v8, .null] [.int z53.1, .int (z52.2.1 57 0), .int ((nI 10) - v4), .int z52.1] (gKn n, gRf f g, z53.2.1, z53.2.2) _
      refine r_isub rfl ?_
      obtain ⟨z54, hz54, hr⟩ := gbnd hr
      refine r_invs [.int ((nI 10) - v4), .int ((z52.2.1 57 0) - z53.1)] rfl rfl rfl rfl (Nat.le_of_ble_eq_true rfl) ⟨rfl, rfl⟩ ?_
      refine s_X8_power  hz54 ?_
      show gW _ _ _ _ _ 59 [.ref 57, .int v1, .int v2, .int v3, .int v4, .int v5, .int v6, .int v7, .int v8, .null] [.int z54.1, .int z52.1] (gKn n, gRf f g, z54.2.1, z54.2.2) _
      refine r_imul rfl ?_
      refine r_istore [.ref 57, .int v1, .int v2, .int v3, .int v4, .int v5, .int v6, .int v7, .int v8, .int (z52.1 * z54.1)] rfl rfl (Nat.le_of_ble_eq_true rfl) rfl ?_
      refine r_iload rfl rfl ?_
      refine r_iload rfl rfl ?_
      refine r_iadd rfl ?_
      refine r_istore [.ref 57, .int v1, .int v2, .int v3, .int v4, .int v5, .int v6, .int (v7 + (z52.1 * z54.1)), .int v8, .int (z52.1 * z54.1)] rfl rfl (Nat.le_of_ble_eq_true rfl) rfl ?_
      refine r_iload rfl rfl ?_
      refine r_aload rfl rfl ?_
      refine r_const rfl (gcst 0) ?_
      refine r_aload rfl rfl ?_
      refine r_const rfl (gcst 1) ?_
      refine r_const rfl (gcst 0) ?_
      refine r_iload rfl rfl ?_
      refine r_iload rfl rfl ?_
      obtain ⟨z55, hz55, hr⟩ := gbnd hr
      refine r_invv (a := 57) [.int (nI 1), .int (nI 0), .int v1, .int v2] rfl rfl rfl rfl rfl (Nat.le_of_ble_eq_true rfl) ⟨rfl, rfl⟩ ?_
      refine s_X8_laySong  hz55 ?_
      show gW _ _ _ _ _ 74 [.ref 57, .int v1, .int v2, .int v3, .int v4, .int v5, .int v6, .int (v7 + (z52.1 * z54.1)), .int v8, .int (z52.1 * z54.1)] [.int z55.1, .int (nI 0), .ref 57, .int v6] (gKn n, gRf f g, z55.2.1, z55.2.2) _
      obtain ⟨z56, hz56, hr⟩ := gbnd hr
      refine r_invv (a := 57) [.int (nI 0), .int z55.1] rfl rfl rfl rfl rfl (Nat.le_of_ble_eq_true rfl) ⟨rfl, rfl⟩ ?_
      refine s_X8_loud  hz56 ?_
      show gW _ _ _ _ _ 75 [.ref 57, .int v1, .int v2, .int v3, .int v4, .int v5, .int v6, .int (v7 + (z52.1 * z54.1)), .int v8, .int (z52.1 * z54.1)] [.int z56.1, .int v6] (gKn n, gRf f g, z56.2.1, z56.2.2) _
      refine r_iload rfl rfl ?_
      refine r_icmp_gt 79 rfl rfl (fun c57 => ?_) (fun c57 => ?_)
      · rw [if_pos c57] at hr
        refine r_const rfl (gcst 0) ?_
        refine gforget (ls := [.ref 57, .int v1, .int v2, .int v3, .int v4, .int v5, .null, .int (v7 + (z52.1 * z54.1)), .int v8, .null]) ⟨(Or.inl rfl), ⟨(Or.inl rfl), ⟨(Or.inl rfl), ⟨(Or.inl rfl), ⟨(Or.inl rfl), ⟨(Or.inl rfl), ⟨(Or.inr (Or.inl ⟨rfl, _, rfl⟩)), ⟨(Or.inl rfl), ⟨(Or.inl rfl), ⟨(Or.inr (Or.inl ⟨rfl, _, rfl⟩)), trivial⟩⟩⟩⟩⟩⟩⟩⟩⟩⟩ ?_
        exact t_X8_drips_80 hK30 hr hQ
      · rw [if_neg c57] at hr
        refine r_iload rfl rfl ?_
        refine r_goto 80 rfl rfl ?_
        refine gforget (ls := [.ref 57, .int v1, .int v2, .int v3, .int v4, .int v5, .null, .int (v7 + (z52.1 * z54.1)), .int v8, .null]) ⟨(Or.inl rfl), ⟨(Or.inl rfl), ⟨(Or.inl rfl), ⟨(Or.inl rfl), ⟨(Or.inl rfl), ⟨(Or.inl rfl), ⟨(Or.inr (Or.inl ⟨rfl, _, rfl⟩)), ⟨(Or.inl rfl), ⟨(Or.inl rfl), ⟨(Or.inr (Or.inl ⟨rfl, _, rfl⟩)), trivial⟩⟩⟩⟩⟩⟩⟩⟩⟩⟩ ?_
        exact t_X8_drips_80 hK30 hr hQ
def r_X8_drips_22    (I : Nat → Nat → Int32) (L : Nat → Nat → Int64) : Option gRs := some ((-2 : Int32), I, L)
set_option maxHeartbeats 4000000 in
set_option maxRecDepth 100000 in
theorem t_X8_drips_22 {n f g d : Nat} {Q : gP} {z : gRs}     {I : Nat → Nat → Int32} {L : Nat → Nat → Int64} (hr : r_X8_drips_22 I L = some z) (hQ : Q (some (.int z.1)) (gKn n, gRf f g, z.2.1, z.2.2)) : gW gM (d + 3) 0 0 k_X8_drips 22 [.null, .null, .null, .null, .null, .null, .null, .null, .null, .null] [] (gKn n, gRf f g, I, L) Q := by
  unfold r_X8_drips_22 at hr
  refine r_const rfl (v := -2) (by decide) ?_
  refine r_iret rfl ?_
  cases hr
  exact hQ
def r_X8_drips_8    (I : Nat → Nat → Int32) (L : Nat → Nat → Int64) : Option gRs := some ((-1 : Int32), I, L)
set_option maxHeartbeats 4000000 in
set_option maxRecDepth 100000 in
theorem t_X8_drips_8 {n f g d : Nat} {Q : gP} {z : gRs}     {I : Nat → Nat → Int32} {L : Nat → Nat → Int64} (hr : r_X8_drips_8 I L = some z) (hQ : Q (some (.int z.1)) (gKn n, gRf f g, z.2.1, z.2.2)) : gW gM (d + 3) 0 0 k_X8_drips 8 [.null, .null, .null, .null, .null, .null, .null, .null, .null, .null] [] (gKn n, gRf f g, I, L) Q := by
  unfold r_X8_drips_8 at hr
  refine r_const rfl (v := -1) (by decide) ?_
  refine r_iret rfl ?_
  cases hr
  exact hQ
def r_X8_drips (I : Nat → Nat → Int32) (L : Nat → Nat → Int64) (a1 : Int32) (a2 : Int32) (a3 : Int32) (a4 : Int32) (a5 : Int32) : Option gRs := ((r_X8_isBeast I L a1).bind (fun z58 => (if z58.1 = 0 then (r_X8_drips_8 z58.2.1 z58.2.2) else ((r_X8_isLane z58.2.1 z58.2.2 a2).bind (fun z60 => (if ¬ z60.1 = 0 then (if (f_X8_in z60.2.1 z60.2.2 (Int32.toInt64 a3) (lN 0) (lN 12)) = 0 then (r_X8_drips_22 z60.2.1 z60.2.2) else (if ¬ (f_X8_in z60.2.1 z60.2.2 (Int32.toInt64 a4) (lN 0) (lN 10)) = 0 then (r_X8_drips_30 100 a1 a2 a3 a4 a5 (nI 0) (nI 0) (nI 0) z60.2.1 z60.2.2) else (r_X8_drips_22 z60.2.1 z60.2.2))) else (r_X8_drips_8 z60.2.1 z60.2.2)))))))
set_option maxHeartbeats 4000000 in
set_option maxRecDepth 100000 in
theorem s_X8_drips {n f g d : Nat} {Q : gP} {I : Nat → Nat → Int32} {L : Nat → Nat → Int64} {a1 : Int32} {a2 : Int32} {a3 : Int32} {a4 : Int32} {a5 : Int32} {z : gRs}  (hr : r_X8_drips I L a1 a2 a3 a4 a5 = some z) (hQ : Q (some (.int z.1)) (gKn n, gRf f g, z.2.1, z.2.2)) : gR gM (d + 3) 171 [.ref 57, .int a1, .int a2, .int a3, .int a4, .int a5] (gKn n, gRf f g, I, L) Q := by
  unfold r_X8_drips at hr
  show gW gM (d + 3) 0 0 k_X8_drips 0 [.ref 57, .int a1, .int a2, .int a3, .int a4, .int a5, .null, .null, .null, .null] [] (gKn n, gRf f g, I, L) Q
  refine r_aload rfl rfl ?_
  refine r_iload rfl rfl ?_
  obtain ⟨z58, hz58, hr⟩ := gbnd hr
  refine r_invv (a := 57) [.int a1] rfl rfl rfl rfl rfl (Nat.le_of_ble_eq_true rfl) ⟨rfl, rfl⟩ ?_
  refine s_X8_isBeast  hz58 ?_
  show gW _ _ _ _ _ 3 [.ref 57, .int a1, .int a2, .int a3, .int a4, .int a5, .null, .null, .null, .null] [.int z58.1] (gKn n, gRf f g, z58.2.1, z58.2.2) _
  refine r_if_eq 8 rfl rfl (fun c59 => ?_) (fun c59 => ?_)
  · rw [if_pos c59] at hr
    refine gforget (ls := [.null, .null, .null, .null, .null, .null, .null, .null, .null, .null]) ⟨(Or.inr (Or.inr ⟨rfl, _, rfl⟩)), ⟨(Or.inr (Or.inl ⟨rfl, _, rfl⟩)), ⟨(Or.inr (Or.inl ⟨rfl, _, rfl⟩)), ⟨(Or.inr (Or.inl ⟨rfl, _, rfl⟩)), ⟨(Or.inr (Or.inl ⟨rfl, _, rfl⟩)), ⟨(Or.inr (Or.inl ⟨rfl, _, rfl⟩)), ⟨(Or.inl rfl), ⟨(Or.inl rfl), ⟨(Or.inl rfl), ⟨(Or.inl rfl), trivial⟩⟩⟩⟩⟩⟩⟩⟩⟩⟩ ?_
    exact t_X8_drips_8  hr hQ
  · rw [if_neg c59] at hr
    refine r_aload rfl rfl ?_
    refine r_iload rfl rfl ?_
    obtain ⟨z60, hz60, hr⟩ := gbnd hr
    refine r_invv (a := 57) [.int a2] rfl rfl rfl rfl rfl (Nat.le_of_ble_eq_true rfl) ⟨rfl, rfl⟩ ?_
    refine s_X8_isLane  hz60 ?_
    show gW _ _ _ _ _ 7 [.ref 57, .int a1, .int a2, .int a3, .int a4, .int a5, .null, .null, .null, .null] [.int z60.1] (gKn n, gRf f g, z60.2.1, z60.2.2) _
    refine r_if_ne 10 rfl rfl (fun c61 => ?_) (fun c61 => ?_)
    · rw [if_pos c61] at hr
      refine r_iload rfl rfl ?_
      refine r_i2l rfl ?_
      refine r_lconst (v := lN 0) rfl rfl ?_
      refine r_lconst (v := lN 12) rfl rfl ?_
      refine r_invs [.long (Int32.toInt64 a3), .long (lN 0), .long (lN 12)] rfl rfl rfl rfl (Nat.le_of_ble_eq_true rfl) ⟨rfl, rfl⟩ ?_
      refine s_X8_in  ?_
      show gW _ _ _ _ _ 15 [.ref 57, .int a1, .int a2, .int a3, .int a4, .int a5, .null, .null, .null, .null] [.int (f_X8_in z60.2.1 z60.2.2 (Int32.toInt64 a3) (lN 0) (lN 12))] (gKn n, gRf f g, z60.2.1, z60.2.2) _
      refine r_if_eq 22 rfl rfl (fun c62 => ?_) (fun c62 => ?_)
      · rw [if_pos c62] at hr
        refine gforget (ls := [.null, .null, .null, .null, .null, .null, .null, .null, .null, .null]) ⟨(Or.inr (Or.inr ⟨rfl, _, rfl⟩)), ⟨(Or.inr (Or.inl ⟨rfl, _, rfl⟩)), ⟨(Or.inr (Or.inl ⟨rfl, _, rfl⟩)), ⟨(Or.inr (Or.inl ⟨rfl, _, rfl⟩)), ⟨(Or.inr (Or.inl ⟨rfl, _, rfl⟩)), ⟨(Or.inr (Or.inl ⟨rfl, _, rfl⟩)), ⟨(Or.inl rfl), ⟨(Or.inl rfl), ⟨(Or.inl rfl), ⟨(Or.inl rfl), trivial⟩⟩⟩⟩⟩⟩⟩⟩⟩⟩ ?_
        exact t_X8_drips_22  hr hQ
      · rw [if_neg c62] at hr
        refine r_iload rfl rfl ?_
        refine r_i2l rfl ?_
        refine r_lconst (v := lN 0) rfl rfl ?_
        refine r_lconst (v := lN 10) rfl rfl ?_
        refine r_invs [.long (Int32.toInt64 a4), .long (lN 0), .long (lN 10)] rfl rfl rfl rfl (Nat.le_of_ble_eq_true rfl) ⟨rfl, rfl⟩ ?_
        refine s_X8_in  ?_
        show gW _ _ _ _ _ 21 [.ref 57, .int a1, .int a2, .int a3, .int a4, .int a5, .null, .null, .null, .null] [.int (f_X8_in z60.2.1 z60.2.2 (Int32.toInt64 a4) (lN 0) (lN 10))] (gKn n, gRf f g, z60.2.1, z60.2.2) _
        refine r_if_ne 24 rfl rfl (fun c63 => ?_) (fun c63 => ?_)
        · rw [if_pos c63] at hr
          refine r_const rfl (gcst 0) ?_
          refine r_istore [.ref 57, .int a1, .int a2, .int a3, .int a4, .int a5, .int (nI 0), .null, .null, .null] rfl rfl (Nat.le_of_ble_eq_true rfl) rfl ?_
          refine r_const rfl (gcst 0) ?_
          refine r_istore [.ref 57, .int a1, .int a2, .int a3, .int a4, .int a5, .int (nI 0), .int (nI 0), .null, .null] rfl rfl (Nat.le_of_ble_eq_true rfl) rfl ?_
          refine r_const rfl (gcst 0) ?_
          refine r_istore [.ref 57, .int a1, .int a2, .int a3, .int a4, .int a5, .int (nI 0), .int (nI 0), .int (nI 0), .null] rfl rfl (Nat.le_of_ble_eq_true rfl) rfl ?_
          exact t_X8_drips_30  hr hQ
        · rw [if_neg c63] at hr
          refine gforget (ls := [.null, .null, .null, .null, .null, .null, .null, .null, .null, .null]) ⟨(Or.inr (Or.inr ⟨rfl, _, rfl⟩)), ⟨(Or.inr (Or.inl ⟨rfl, _, rfl⟩)), ⟨(Or.inr (Or.inl ⟨rfl, _, rfl⟩)), ⟨(Or.inr (Or.inl ⟨rfl, _, rfl⟩)), ⟨(Or.inr (Or.inl ⟨rfl, _, rfl⟩)), ⟨(Or.inr (Or.inl ⟨rfl, _, rfl⟩)), ⟨(Or.inl rfl), ⟨(Or.inl rfl), ⟨(Or.inl rfl), ⟨(Or.inl rfl), trivial⟩⟩⟩⟩⟩⟩⟩⟩⟩⟩ ?_
          exact t_X8_drips_22  hr hQ
    · rw [if_neg c61] at hr
      refine gforget (ls := [.null, .null, .null, .null, .null, .null, .null, .null, .null, .null]) ⟨(Or.inr (Or.inr ⟨rfl, _, rfl⟩)), ⟨(Or.inr (Or.inl ⟨rfl, _, rfl⟩)), ⟨(Or.inr (Or.inl ⟨rfl, _, rfl⟩)), ⟨(Or.inr (Or.inl ⟨rfl, _, rfl⟩)), ⟨(Or.inr (Or.inl ⟨rfl, _, rfl⟩)), ⟨(Or.inr (Or.inl ⟨rfl, _, rfl⟩)), ⟨(Or.inl rfl), ⟨(Or.inl rfl), ⟨(Or.inl rfl), ⟨(Or.inl rfl), trivial⟩⟩⟩⟩⟩⟩⟩⟩⟩⟩ ?_
      exact t_X8_drips_8  hr hQ
def f_X8_seed (I : Nat → Nat → Int32) (L : Nat → Nat → Int64) (a1 : Int64) : Int64 := (L 57 33)
def l_X8_seed (I : Nat → Nat → Int32) (L : Nat → Nat → Int64) (a1 : Int64) : Nat → Nat → Int64 := (gu2 L 57 33 a1)
set_option maxHeartbeats 4000000 in
set_option maxRecDepth 100000 in
theorem s_X8_seed {n f g d : Nat} {Q : gP} {I : Nat → Nat → Int32} {L : Nat → Nat → Int64} {a1 : Int64}  (hQ : Q (some (.long (f_X8_seed I L a1))) (gKn n, gRf f g, I, l_X8_seed I L a1)) : gR gM (d + 0) 172 [.ref 57, .long a1] (gKn n, gRf f g, I, L) Q := by
  unfold f_X8_seed l_X8_seed at hQ
  show gW gM (d + 0) 0 0 k_X8_seed 0 [.ref 57, .long a1, .null, .null, .null] [] (gKn n, gRf f g, I, L) Q
  refine r_aload rfl rfl ?_
  refine r_getL (c := 8) (k := 33) rfl rfl ⟨rfl, rfl⟩ ?_
  refine r_lstore [.ref 57, .long a1, .null, .long (L 57 33), .null] rfl rfl (Nat.le_of_ble_eq_true rfl) rfl ?_
  refine r_aload rfl rfl ?_
  refine r_lload rfl rfl ?_
  refine r_putL (c := 8) (k := 33) rfl rfl ⟨rfl, rfl⟩ ?_
  refine r_lload rfl rfl ?_
  refine r_lret rfl ?_
  first | exact hQ | simpa only [if_true] using hQ
def r_X8_winters_87  (K14 : Int32 → Int32 → Int32 → (Nat → Nat → Int32) → (Nat → Nat → Int64) → Option gRs) (v1 : Int32) (v2 : Int32) (v3 : Int32) (I : Nat → Nat → Int32) (L : Nat → Nat → Int64) : Option gRs := (K14 v1 v2 (v3 + (nI 1)) I L)
set_option maxHeartbeats 4000000 in
set_option maxRecDepth 100000 in
theorem t_X8_winters_87 {n f g d : Nat} {Q : gP} {z : gRs}   {K14 : Int32 → Int32 → Int32 → (Nat → Nat → Int32) → (Nat → Nat → Int64) → Option gRs} (hK14 : ∀ v1 v2 v3 I L, K14 v1 v2 v3 I L = some z → gW gM (d + 4) 0 0 k_X8_winters 14 [.ref 57, .int v1, .int v2, .int v3, .null] [] (gKn n, gRf f g, I, L) Q) {v1 : Int32} {v2 : Int32} {v3 : Int32} {I : Nat → Nat → Int32} {L : Nat → Nat → Int64} (hr : r_X8_winters_87 K14 v1 v2 v3 I L = some z) (hQ : Q (some (.int z.1)) (gKn n, gRf f g, z.2.1, z.2.2)) : gW gM (d + 4) 0 0 k_X8_winters 87 [.ref 57, .int v1, .int v2, .int v3, .null] [] (gKn n, gRf f g, I, L) Q := by
  unfold r_X8_winters_87 at hr
  refine r_iinc (y := (v3 + (nI 1))) [.ref 57, .int v1, .int v2, .int (v3 + (nI 1)), .null] rfl rfl rfl (ginc _ 1) rfl ?_
  refine r_goto 14 rfl rfl ?_
  exact hK14 _ _ _ _ _ hr
def r_X8_winters_14   : Nat → Int32 → Int32 → Int32 → (Nat → Nat → Int32) → (Nat → Nat → Int64) → Option gRs
  | 0, _, _, _, _, _ => none
  | m + 1, v1, v2, v3, I, L => (if v1 ≤ v3 then some (v2, I, L) else (if ¬ (Int64.toInt32 (gremL (glushr ((gu2 L 57 33 (((L 57 33) * (lN 6364136223846793005)) + (lN 1442695040888963407))) 57 33) (nI 33)) (lN 21))) = (nI 20) then (if (Int64.toInt32 (gremL (glushr ((gu2 L 57 33 (((L 57 33) * (lN 6364136223846793005)) + (lN 1442695040888963407))) 57 33) (nI 33)) (lN 21))) ≤ (nI 14) then ((r_X8_canDrive I (gu2 L 57 33 (((L 57 33) * (lN 6364136223846793005)) + (lN 1442695040888963407))) (nI 1) ((Int64.toInt32 (gremL (glushr ((gu2 L 57 33 (((L 57 33) * (lN 6364136223846793005)) + (lN 1442695040888963407))) 57 33) (nI 33)) (lN 21))) / (nI 3)) (grem (Int64.toInt32 (gremL (glushr ((gu2 L 57 33 (((L 57 33) * (lN 6364136223846793005)) + (lN 1442695040888963407))) 57 33) (nI 33)) (lN 21))) (nI 3))).bind (fun z20 => (if z20.1 = 0 then (r_X8_winters_87 (r_X8_winters_14  m) v1 v2 v3 z20.2.1 z20.2.2) else ((r_X8_driveOn z20.2.1 z20.2.2 (nI 1) ((Int64.toInt32 (gremL (glushr ((gu2 L 57 33 (((L 57 33) * (lN 6364136223846793005)) + (lN 1442695040888963407))) 57 33) (nI 33)) (lN 21))) / (nI 3)) (grem (Int64.toInt32 (gremL (glushr ((gu2 L 57 33 (((L 57 33) * (lN 6364136223846793005)) + (lN 1442695040888963407))) 57 33) (nI 33)) (lN 21))) (nI 3))).bind (fun z22 => (r_X8_winters_87 (r_X8_winters_14  m) v1 (v2 + z22.1) v3 z22.2.1 z22.2.2)))))) else (r_X8_winters_87 (r_X8_winters_14  m) v1 v2 v3 (gu2 I 63 (gx (nI 39)) ((I 63 (gx (nI 39))) &&& ((gshl (nI 1) ((Int64.toInt32 (gremL (glushr ((gu2 L 57 33 (((L 57 33) * (lN 6364136223846793005)) + (lN 1442695040888963407))) 57 33) (nI 33)) (lN 21))) - (nI 15))) ^^^ (-1 : Int32)))) (gu2 L 57 33 (((L 57 33) * (lN 6364136223846793005)) + (lN 1442695040888963407))))) else (r_X8_winters_87 (r_X8_winters_14  m) v1 v2 v3 (gu2 I 63 (gx (nI 40)) ((nI 1) - (I 63 (gx (nI 40))))) (gu2 L 57 33 (((L 57 33) * (lN 6364136223846793005)) + (lN 1442695040888963407))))))
set_option maxHeartbeats 4000000 in
set_option maxRecDepth 100000 in
theorem t_X8_winters_14 {n f g d : Nat} {Q : gP} {z : gRs}    : ∀ {m : Nat} {v1 : Int32} {v2 : Int32} {v3 : Int32} {I : Nat → Nat → Int32} {L : Nat → Nat → Int64}, r_X8_winters_14 m v1 v2 v3 I L = some z → Q (some (.int z.1)) (gKn n, gRf f g, z.2.1, z.2.2) → gW gM (d + 4) 0 0 k_X8_winters 14 [.ref 57, .int v1, .int v2, .int v3, .null] [] (gKn n, gRf f g, I, L) Q := by
  intro m
  induction m with
  | zero =>
    intro v1 v2 v3 I L hr _
    cases hr
  | succ m ih =>
    intro v1 v2 v3 I L hr hQ
    have hK14 : ∀ v1 v2 v3 I L, r_X8_winters_14 m v1 v2 v3 I L = some z → gW gM (d + 4) 0 0 k_X8_winters 14 [.ref 57, .int v1, .int v2, .int v3, .null] [] (gKn n, gRf f g, I, L) Q := fun v1 v2 v3 I L hr => ih hr hQ
    unfold r_X8_winters_14 at hr
    refine r_iload rfl rfl ?_
    refine r_iload rfl rfl ?_
    refine r_icmp_ge 89 rfl rfl (fun c17 => ?_) (fun c17 => ?_)
    · rw [if_pos c17] at hr
      refine r_iload rfl rfl ?_
      refine r_iret rfl ?_
      cases hr
      exact hQ
    · rw [if_neg c17] at hr
      refine r_aload rfl rfl ?_
      refine r_aload rfl rfl ?_
      refine r_getL (c := 8) (k := 33) rfl rfl ⟨rfl, rfl⟩ ?_
      refine r_lconst (v := lN 6364136223846793005) rfl rfl ?_
      refine r_lmul rfl ?_
      refine r_lconst (v := lN 1442695040888963407) rfl rfl ?_
      refine r_ladd rfl ?_
      refine r_putL (c := 8) (k := 33) rfl rfl ⟨rfl, rfl⟩ ?_
      refine r_aload rfl rfl ?_
      refine r_getL (c := 8) (k := 33) rfl rfl ⟨rfl, rfl⟩ ?_
      refine r_const rfl (gcst 33) ?_
      refine r_lushr rfl ?_
      refine r_lconst (v := lN 21) rfl rfl ?_
      refine r_lrem rfl (by decide) ?_
      refine r_l2i rfl ?_
      refine r_istore [.ref 57, .int v1, .int v2, .int v3, .int (Int64.toInt32 (gremL (glushr ((gu2 L 57 33 (((L 57 33) * (lN 6364136223846793005)) + (lN 1442695040888963407))) 57 33) (nI 33)) (lN 21)))] rfl rfl (Nat.le_of_ble_eq_true rfl) rfl ?_
      refine r_iload rfl rfl ?_
      refine r_const rfl (gcst 20) ?_
      refine r_icmp_ne 47 rfl rfl (fun c18 => ?_) (fun c18 => ?_)
      · rw [if_pos c18] at hr
        refine r_iload rfl rfl ?_
        refine r_const rfl (gcst 14) ?_
        refine r_icmp_le 65 rfl rfl (fun c19 => ?_) (fun c19 => ?_)
        · rw [if_pos c19] at hr
          refine r_aload rfl rfl ?_
          refine r_const rfl (gcst 1) ?_
          refine r_iload rfl rfl ?_
          refine r_const rfl (gcst 3) ?_
          refine r_idiv rfl (nI_ne0 (n := 3) (by decide) (by decide)) ?_
          refine r_iload rfl rfl ?_
          refine r_const rfl (gcst 3) ?_
          refine r_irem rfl (nI_ne0 (n := 3) (by decide) (by decide)) ?_
          obtain ⟨z20, hz20, hr⟩ := gbnd hr
          refine r_invv (a := 57) [.int (nI 1), .int ((Int64.toInt32 (gremL (glushr ((gu2 L 57 33 (((L 57 33) * (lN 6364136223846793005)) + (lN 1442695040888963407))) 57 33) (nI 33)) (lN 21))) / (nI 3)), .int (grem (Int64.toInt32 (gremL (glushr ((gu2 L 57 33 (((L 57 33) * (lN 6364136223846793005)) + (lN 1442695040888963407))) 57 33) (nI 33)) (lN 21))) (nI 3))] rfl rfl rfl rfl rfl (Nat.le_of_ble_eq_true rfl) ⟨rfl, rfl⟩ ?_
          refine s_X8_canDrive  hz20 ?_
          show gW _ _ _ _ _ 74 [.ref 57, .int v1, .int v2, .int v3, .int (Int64.toInt32 (gremL (glushr ((gu2 L 57 33 (((L 57 33) * (lN 6364136223846793005)) + (lN 1442695040888963407))) 57 33) (nI 33)) (lN 21)))] [.int z20.1] (gKn n, gRf f g, z20.2.1, z20.2.2) _
          refine r_if_eq 87 rfl rfl (fun c21 => ?_) (fun c21 => ?_)
          · rw [if_pos c21] at hr
            refine gforget (ls := [.ref 57, .int v1, .int v2, .int v3, .null]) ⟨(Or.inl rfl), ⟨(Or.inl rfl), ⟨(Or.inl rfl), ⟨(Or.inl rfl), ⟨(Or.inr (Or.inl ⟨rfl, _, rfl⟩)), trivial⟩⟩⟩⟩⟩ ?_
            exact t_X8_winters_87 hK14 hr hQ
          · rw [if_neg c21] at hr
            refine r_iload rfl rfl ?_
            refine r_aload rfl rfl ?_
            refine r_const rfl (gcst 1) ?_
            refine r_iload rfl rfl ?_
            refine r_const rfl (gcst 3) ?_
            refine r_idiv rfl (nI_ne0 (n := 3) (by decide) (by decide)) ?_
            refine r_iload rfl rfl ?_
            refine r_const rfl (gcst 3) ?_
            refine r_irem rfl (nI_ne0 (n := 3) (by decide) (by decide)) ?_
            obtain ⟨z22, hz22, hr⟩ := gbnd hr
            refine r_invv (a := 57) [.int (nI 1), .int ((Int64.toInt32 (gremL (glushr ((gu2 L 57 33 (((L 57 33) * (lN 6364136223846793005)) + (lN 1442695040888963407))) 57 33) (nI 33)) (lN 21))) / (nI 3)), .int (grem (Int64.toInt32 (gremL (glushr ((gu2 L 57 33 (((L 57 33) * (lN 6364136223846793005)) + (lN 1442695040888963407))) 57 33) (nI 33)) (lN 21))) (nI 3))] rfl rfl rfl rfl rfl (Nat.le_of_ble_eq_true rfl) ⟨rfl, rfl⟩ ?_
            refine s_X8_driveOn  hz22 ?_
            show gW _ _ _ _ _ 85 [.ref 57, .int v1, .int v2, .int v3, .int (Int64.toInt32 (gremL (glushr ((gu2 L 57 33 (((L 57 33) * (lN 6364136223846793005)) + (lN 1442695040888963407))) 57 33) (nI 33)) (lN 21)))] [.int z22.1, .int v2] (gKn n, gRf f g, z22.2.1, z22.2.2) _
            refine r_iadd rfl ?_
            refine r_istore [.ref 57, .int v1, .int (v2 + z22.1), .int v3, .int (Int64.toInt32 (gremL (glushr ((gu2 L 57 33 (((L 57 33) * (lN 6364136223846793005)) + (lN 1442695040888963407))) 57 33) (nI 33)) (lN 21)))] rfl rfl (Nat.le_of_ble_eq_true rfl) rfl ?_
            refine gforget (ls := [.ref 57, .int v1, .int (v2 + z22.1), .int v3, .null]) ⟨(Or.inl rfl), ⟨(Or.inl rfl), ⟨(Or.inl rfl), ⟨(Or.inl rfl), ⟨(Or.inr (Or.inl ⟨rfl, _, rfl⟩)), trivial⟩⟩⟩⟩⟩ ?_
            exact t_X8_winters_87 hK14 hr hQ
        · rw [if_neg c19] at hr
          refine r_aload rfl rfl ?_
          refine r_getR (c := 8) (k := 9) (v := 63) rfl rfl ⟨rfl, rfl⟩ rfl ?_
          refine r_const rfl (gcst 39) ?_
          refine r_dup2 rfl rfl rfl ?_
          refine r_iaload (n := 54) rfl rfl (vp_in_nI (n := 39) (N := 54) (by decide) (by decide)) ?_
          refine r_const rfl (gcst 1) ?_
          refine r_iload rfl rfl ?_
          refine r_const rfl (gcst 15) ?_
          refine r_isub rfl ?_
          refine r_ishl rfl ?_
          refine r_const rfl (v := -1) (by decide) ?_
          refine r_ixor rfl ?_
          refine r_iand rfl ?_
          refine r_iastore (n := 54) rfl rfl (vp_in_nI (n := 39) (N := 54) (by decide) (by decide)) (by decide) ?_
          refine r_goto 87 rfl rfl ?_
          refine gforget (ls := [.ref 57, .int v1, .int v2, .int v3, .null]) ⟨(Or.inl rfl), ⟨(Or.inl rfl), ⟨(Or.inl rfl), ⟨(Or.inl rfl), ⟨(Or.inr (Or.inl ⟨rfl, _, rfl⟩)), trivial⟩⟩⟩⟩⟩ ?_
          exact t_X8_winters_87 hK14 hr hQ
      · rw [if_neg c18] at hr
        refine r_aload rfl rfl ?_
        refine r_getR (c := 8) (k := 9) (v := 63) rfl rfl ⟨rfl, rfl⟩ rfl ?_
        refine r_const rfl (gcst 40) ?_
        refine r_const rfl (gcst 1) ?_
        refine r_aload rfl rfl ?_
        refine r_getR (c := 8) (k := 9) (v := 63) rfl rfl ⟨rfl, rfl⟩ rfl ?_
        refine r_const rfl (gcst 40) ?_
        refine r_iaload (n := 54) rfl rfl (vp_in_nI (n := 40) (N := 54) (by decide) (by decide)) ?_
        refine r_isub rfl ?_
        refine r_iastore (n := 54) rfl rfl (vp_in_nI (n := 40) (N := 54) (by decide) (by decide)) (by decide) ?_
        refine r_goto 87 rfl rfl ?_
        refine gforget (ls := [.ref 57, .int v1, .int v2, .int v3, .null]) ⟨(Or.inl rfl), ⟨(Or.inl rfl), ⟨(Or.inl rfl), ⟨(Or.inl rfl), ⟨(Or.inr (Or.inl ⟨rfl, _, rfl⟩)), trivial⟩⟩⟩⟩⟩ ?_
        exact t_X8_winters_87 hK14 hr hQ
def r_X8_winters (I : Nat → Nat → Int32) (L : Nat → Nat → Int64) (a1 : Int32) : Option gRs := (if ¬ (f_X8_in I L (Int32.toInt64 a1) (lN 1) (lN 30)) = 0 then ((r_X8_layTrial I L).bind (fun z24 => (r_X8_winters_14 100 a1 (nI 0) (nI 0) z24.2.1 z24.2.2))) else some ((-2 : Int32), I, L))
set_option maxHeartbeats 4000000 in
set_option maxRecDepth 100000 in
theorem s_X8_winters {n f g d : Nat} {Q : gP} {I : Nat → Nat → Int32} {L : Nat → Nat → Int64} {a1 : Int32} {z : gRs}  (hr : r_X8_winters I L a1 = some z) (hQ : Q (some (.int z.1)) (gKn n, gRf f g, z.2.1, z.2.2)) : gR gM (d + 4) 173 [.ref 57, .int a1] (gKn n, gRf f g, I, L) Q := by
  unfold r_X8_winters at hr
  show gW gM (d + 4) 0 0 k_X8_winters 0 [.ref 57, .int a1, .null, .null, .null] [] (gKn n, gRf f g, I, L) Q
  refine r_iload rfl rfl ?_
  refine r_i2l rfl ?_
  refine r_lconst (v := lN 1) rfl rfl ?_
  refine r_lconst (v := lN 30) rfl rfl ?_
  refine r_invs [.long (Int32.toInt64 a1), .long (lN 1), .long (lN 30)] rfl rfl rfl rfl (Nat.le_of_ble_eq_true rfl) ⟨rfl, rfl⟩ ?_
  refine s_X8_in  ?_
  show gW _ _ _ _ _ 5 [.ref 57, .int a1, .null, .null, .null] [.int (f_X8_in I L (Int32.toInt64 a1) (lN 1) (lN 30))] (gKn n, gRf f g, I, L) _
  refine r_if_ne 8 rfl rfl (fun c23 => ?_) (fun c23 => ?_)
  · rw [if_pos c23] at hr
    refine r_aload rfl rfl ?_
    obtain ⟨z24, hz24, hr⟩ := gbnd hr
    refine r_invv (a := 57) [] rfl rfl rfl rfl rfl (Nat.le_of_ble_eq_true rfl) ⟨rfl, rfl⟩ ?_
    refine s_X8_layTrial  hz24 ?_
    show gW _ _ _ _ _ 10 [.ref 57, .int a1, .null, .null, .null] [] (gKn n, gRf f g, z24.2.1, z24.2.2) _
    refine r_const rfl (gcst 0) ?_
    refine r_istore [.ref 57, .int a1, .int (nI 0), .null, .null] rfl rfl (Nat.le_of_ble_eq_true rfl) rfl ?_
    refine r_const rfl (gcst 0) ?_
    refine r_istore [.ref 57, .int a1, .int (nI 0), .int (nI 0), .null] rfl rfl (Nat.le_of_ble_eq_true rfl) rfl ?_
    exact t_X8_winters_14  hr hQ
  · rw [if_neg c23] at hr
    refine r_const rfl (v := -2) (by decide) ?_
    refine r_iret rfl ?_
    cases hr
    exact hQ
def r_X8_keep_15   : Nat → Int32 → Int32 → (Nat → Nat → Int32) → (Nat → Nat → Int64) → Option gRs
  | 0, _, _, _, _ => none
  | m + 1, v1, v2, I, L => (if (nI 27) ≤ v2 then ((r_X8_ones I L (I 63 (gx (nI 12)))).bind (fun z8 => some (z8.1, z8.2.1, z8.2.2))) else (if gvp v2 54 = true then (if gvp (((nI 27) * v1) + v2) 54 = true then (r_X8_keep_15  m v1 (v2 + (nI 1)) (gu2 I 75 (gx (((nI 27) * v1) + v2)) (I 63 (gx v2))) L) else none) else none))
set_option maxHeartbeats 4000000 in
set_option maxRecDepth 100000 in
theorem t_X8_keep_15 {n f g d : Nat} {Q : gP} {z : gRs}    : ∀ {m : Nat} {v1 : Int32} {v2 : Int32} {I : Nat → Nat → Int32} {L : Nat → Nat → Int64}, r_X8_keep_15 m v1 v2 I L = some z → Q (some (.int z.1)) (gKn n, gRf f g, z.2.1, z.2.2) → gW gM (d + 1) 0 0 k_X8_keep 15 [.ref 57, .int v1, .int v2] [] (gKn n, gRf f g, I, L) Q := by
  intro m
  induction m with
  | zero =>
    intro v1 v2 I L hr _
    cases hr
  | succ m ih =>
    intro v1 v2 I L hr hQ
    have hK15 : ∀ v1 v2 I L, r_X8_keep_15 m v1 v2 I L = some z → gW gM (d + 1) 0 0 k_X8_keep 15 [.ref 57, .int v1, .int v2] [] (gKn n, gRf f g, I, L) Q := fun v1 v2 I L hr => ih hr hQ
    unfold r_X8_keep_15 at hr
    refine r_iload rfl rfl ?_
    refine r_const rfl (gcst 27) ?_
    refine r_icmp_ge 32 rfl rfl (fun c7 => ?_) (fun c7 => ?_)
    · rw [if_pos c7] at hr
      refine r_aload rfl rfl ?_
      refine r_getR (c := 8) (k := 9) (v := 63) rfl rfl ⟨rfl, rfl⟩ rfl ?_
      refine r_const rfl (gcst 12) ?_
      refine r_iaload (n := 54) rfl rfl (vp_in_nI (n := 12) (N := 54) (by decide) (by decide)) ?_
      obtain ⟨z8, hz8, hr⟩ := gbnd hr
      refine r_invs [.int (I 63 (gx (nI 12)))] rfl rfl rfl rfl (Nat.le_of_ble_eq_true rfl) ⟨rfl, rfl⟩ ?_
      refine s_X8_ones  hz8 ?_
      show gW _ _ _ _ _ 37 [.ref 57, .int v1, .int v2] [.int z8.1] (gKn n, gRf f g, z8.2.1, z8.2.2) _
      refine r_iret rfl ?_
      cases hr
      exact hQ
    · rw [if_neg c7] at hr
      refine r_aload rfl rfl ?_
      refine r_getR (c := 8) (k := 35) (v := 75) rfl rfl ⟨rfl, rfl⟩ rfl ?_
      refine r_const rfl (gcst 27) ?_
      refine r_iload rfl rfl ?_
      refine r_imul rfl ?_
      refine r_iload rfl rfl ?_
      refine r_iadd rfl ?_
      refine r_aload rfl rfl ?_
      refine r_getR (c := 8) (k := 9) (v := 63) rfl rfl ⟨rfl, rfl⟩ rfl ?_
      refine r_iload rfl rfl ?_
      obtain ⟨b9, hr⟩ := gopt hr
      refine r_iaload (n := 54) rfl rfl (gvp_in b9) ?_
      obtain ⟨b10, hr⟩ := gopt hr
      refine r_iastore (n := 54) rfl rfl (gvp_in b10) (by decide) ?_
      refine r_iinc (y := (v2 + (nI 1))) [.ref 57, .int v1, .int (v2 + (nI 1))] rfl rfl rfl (ginc _ 1) rfl ?_
      refine r_goto 15 rfl rfl ?_
      exact hK15 _ _ _ _ hr
def r_X8_keep (I : Nat → Nat → Int32) (L : Nat → Nat → Int64) (a1 : Int32) : Option gRs := (if ¬ (f_X8_in I L (Int32.toInt64 a1) (lN 0) (lN 1)) = 0 then (if gvp a1 2 = true then (r_X8_keep_15 100 a1 (nI 0) (gu2 I 74 (gx a1) (nI 1)) L) else none) else some ((-1 : Int32), I, L))
set_option maxHeartbeats 4000000 in
set_option maxRecDepth 100000 in
theorem s_X8_keep {n f g d : Nat} {Q : gP} {I : Nat → Nat → Int32} {L : Nat → Nat → Int64} {a1 : Int32} {z : gRs}  (hr : r_X8_keep I L a1 = some z) (hQ : Q (some (.int z.1)) (gKn n, gRf f g, z.2.1, z.2.2)) : gR gM (d + 1) 174 [.ref 57, .int a1] (gKn n, gRf f g, I, L) Q := by
  unfold r_X8_keep at hr
  show gW gM (d + 1) 0 0 k_X8_keep 0 [.ref 57, .int a1, .null] [] (gKn n, gRf f g, I, L) Q
  refine r_iload rfl rfl ?_
  refine r_i2l rfl ?_
  refine r_lconst (v := lN 0) rfl rfl ?_
  refine r_lconst (v := lN 1) rfl rfl ?_
  refine r_invs [.long (Int32.toInt64 a1), .long (lN 0), .long (lN 1)] rfl rfl rfl rfl (Nat.le_of_ble_eq_true rfl) ⟨rfl, rfl⟩ ?_
  refine s_X8_in  ?_
  show gW _ _ _ _ _ 5 [.ref 57, .int a1, .null] [.int (f_X8_in I L (Int32.toInt64 a1) (lN 0) (lN 1))] (gKn n, gRf f g, I, L) _
  refine r_if_ne 8 rfl rfl (fun c11 => ?_) (fun c11 => ?_)
  · rw [if_pos c11] at hr
    refine r_aload rfl rfl ?_
    refine r_getR (c := 8) (k := 34) (v := 74) rfl rfl ⟨rfl, rfl⟩ rfl ?_
    refine r_iload rfl rfl ?_
    refine r_const rfl (gcst 1) ?_
    obtain ⟨b12, hr⟩ := gopt hr
    refine r_bastore (n := 2) rfl rfl (gvp_in b12) (Or.inr rfl) ?_
    refine r_const rfl (gcst 0) ?_
    refine r_istore [.ref 57, .int a1, .int (nI 0)] rfl rfl (Nat.le_of_ble_eq_true rfl) rfl ?_
    exact t_X8_keep_15  hr hQ
  · rw [if_neg c11] at hr
    refine r_const rfl (v := -1) (by decide) ?_
    refine r_iret rfl ?_
    cases hr
    exact hQ
def r_X8_again_17   : Nat → Int32 → Int32 → (Nat → Nat → Int32) → (Nat → Nat → Int64) → Option gRs
  | 0, _, _, _, _ => none
  | m + 1, v1, v2, I, L => (if (nI 27) ≤ v2 then ((r_X8_ones (gu2 I 57 25 (nI 0)) L ((gu2 I 57 25 (nI 0)) 63 (gx (nI 12)))).bind (fun z9 => some (z9.1, z9.2.1, z9.2.2))) else (if gvp (((nI 27) * v1) + v2) 54 = true then (if gvp v2 54 = true then (r_X8_again_17  m v1 (v2 + (nI 1)) (gu2 I 63 (gx v2) (I 75 (gx (((nI 27) * v1) + v2)))) L) else none) else none))
set_option maxHeartbeats 4000000 in
set_option maxRecDepth 100000 in
theorem t_X8_again_17 {n f g d : Nat} {Q : gP} {z : gRs}    : ∀ {m : Nat} {v1 : Int32} {v2 : Int32} {I : Nat → Nat → Int32} {L : Nat → Nat → Int64}, r_X8_again_17 m v1 v2 I L = some z → Q (some (.int z.1)) (gKn n, gRf f g, z.2.1, z.2.2) → gW gM (d + 1) 0 0 k_X8_again 17 [.ref 57, .int v1, .int v2] [] (gKn n, gRf f g, I, L) Q := by
  intro m
  induction m with
  | zero =>
    intro v1 v2 I L hr _
    cases hr
  | succ m ih =>
    intro v1 v2 I L hr hQ
    have hK17 : ∀ v1 v2 I L, r_X8_again_17 m v1 v2 I L = some z → gW gM (d + 1) 0 0 k_X8_again 17 [.ref 57, .int v1, .int v2] [] (gKn n, gRf f g, I, L) Q := fun v1 v2 I L hr => ih hr hQ
    unfold r_X8_again_17 at hr
    refine r_iload rfl rfl ?_
    refine r_const rfl (gcst 27) ?_
    refine r_icmp_ge 34 rfl rfl (fun c8 => ?_) (fun c8 => ?_)
    · rw [if_pos c8] at hr
      refine r_aload rfl rfl ?_
      refine r_const rfl (gcst 0) ?_
      refine r_putI (c := 8) (k := 25) rfl rfl ⟨rfl, rfl⟩ ?_
      refine r_aload rfl rfl ?_
      refine r_getR (c := 8) (k := 9) (v := 63) rfl rfl ⟨rfl, rfl⟩ rfl ?_
      refine r_const rfl (gcst 12) ?_
      refine r_iaload (n := 54) rfl rfl (vp_in_nI (n := 12) (N := 54) (by decide) (by decide)) ?_
      obtain ⟨z9, hz9, hr⟩ := gbnd hr
      refine r_invs [.int ((gu2 I 57 25 (nI 0)) 63 (gx (nI 12)))] rfl rfl rfl rfl (Nat.le_of_ble_eq_true rfl) ⟨rfl, rfl⟩ ?_
      refine s_X8_ones  hz9 ?_
      show gW _ _ _ _ _ 42 [.ref 57, .int v1, .int v2] [.int z9.1] (gKn n, gRf f g, z9.2.1, z9.2.2) _
      refine r_iret rfl ?_
      cases hr
      exact hQ
    · rw [if_neg c8] at hr
      refine r_aload rfl rfl ?_
      refine r_getR (c := 8) (k := 9) (v := 63) rfl rfl ⟨rfl, rfl⟩ rfl ?_
      refine r_iload rfl rfl ?_
      refine r_aload rfl rfl ?_
      refine r_getR (c := 8) (k := 35) (v := 75) rfl rfl ⟨rfl, rfl⟩ rfl ?_
      refine r_const rfl (gcst 27) ?_
      refine r_iload rfl rfl ?_
      refine r_imul rfl ?_
      refine r_iload rfl rfl ?_
      refine r_iadd rfl ?_
      obtain ⟨b10, hr⟩ := gopt hr
      refine r_iaload (n := 54) rfl rfl (gvp_in b10) ?_
      obtain ⟨b11, hr⟩ := gopt hr
      refine r_iastore (n := 54) rfl rfl (gvp_in b11) (by decide) ?_
      refine r_iinc (y := (v2 + (nI 1))) [.ref 57, .int v1, .int (v2 + (nI 1))] rfl rfl rfl (ginc _ 1) rfl ?_
      refine r_goto 17 rfl rfl ?_
      exact hK17 _ _ _ _ hr
def r_X8_again (I : Nat → Nat → Int32) (L : Nat → Nat → Int64) (a1 : Int32) : Option gRs := (if ¬ (f_X8_in I L (Int32.toInt64 a1) (lN 0) (lN 1)) = 0 then (if gvp a1 2 = true then (if ¬ (I 74 (gx a1)) = 0 then (r_X8_again_17 100 a1 (nI 0) I L) else some ((-3 : Int32), I, L)) else none) else some ((-1 : Int32), I, L))
set_option maxHeartbeats 4000000 in
set_option maxRecDepth 100000 in
theorem s_X8_again {n f g d : Nat} {Q : gP} {I : Nat → Nat → Int32} {L : Nat → Nat → Int64} {a1 : Int32} {z : gRs}  (hr : r_X8_again I L a1 = some z) (hQ : Q (some (.int z.1)) (gKn n, gRf f g, z.2.1, z.2.2)) : gR gM (d + 1) 175 [.ref 57, .int a1] (gKn n, gRf f g, I, L) Q := by
  unfold r_X8_again at hr
  show gW gM (d + 1) 0 0 k_X8_again 0 [.ref 57, .int a1, .null] [] (gKn n, gRf f g, I, L) Q
  refine r_iload rfl rfl ?_
  refine r_i2l rfl ?_
  refine r_lconst (v := lN 0) rfl rfl ?_
  refine r_lconst (v := lN 1) rfl rfl ?_
  refine r_invs [.long (Int32.toInt64 a1), .long (lN 0), .long (lN 1)] rfl rfl rfl rfl (Nat.le_of_ble_eq_true rfl) ⟨rfl, rfl⟩ ?_
  refine s_X8_in  ?_
  show gW _ _ _ _ _ 5 [.ref 57, .int a1, .null] [.int (f_X8_in I L (Int32.toInt64 a1) (lN 0) (lN 1))] (gKn n, gRf f g, I, L) _
  refine r_if_ne 8 rfl rfl (fun c12 => ?_) (fun c12 => ?_)
  · rw [if_pos c12] at hr
    refine r_aload rfl rfl ?_
    refine r_getR (c := 8) (k := 34) (v := 74) rfl rfl ⟨rfl, rfl⟩ rfl ?_
    refine r_iload rfl rfl ?_
    obtain ⟨b13, hr⟩ := gopt hr
    refine r_baload (n := 2) rfl rfl (gvp_in b13) ?_
    refine r_if_ne 15 rfl rfl (fun c14 => ?_) (fun c14 => ?_)
    · rw [if_pos c14] at hr
      refine r_const rfl (gcst 0) ?_
      refine r_istore [.ref 57, .int a1, .int (nI 0)] rfl rfl (Nat.le_of_ble_eq_true rfl) rfl ?_
      exact t_X8_again_17  hr hQ
    · rw [if_neg c14] at hr
      refine r_const rfl (v := -3) (by decide) ?_
      refine r_iret rfl ?_
      cases hr
      exact hQ
  · rw [if_neg c12] at hr
    refine r_const rfl (v := -1) (by decide) ?_
    refine r_iret rfl ?_
    cases hr
    exact hQ
def f_X8_count (I : Nat → Nat → Int32) (L : Nat → Nat → Int64) (a1 : Int32) : Int32 := (if a1 = (nI 0) then (I 57 20) else (if a1 = (nI 1) then (I 57 0) else (if a1 = (nI 2) then (I 57 1) else (if a1 = (nI 3) then (I 57 2) else (if a1 = (nI 4) then (I 57 3) else (if a1 = (nI 5) then (I 63 (gx (nI 13))) else (if a1 = (nI 6) then (I 63 (gx (nI 14))) else (if a1 = (nI 7) then (I 63 (gx (nI 12))) else (if a1 = (nI 8) then (I 57 25) else (if a1 = (nI 9) then (I 57 29) else (-2 : Int32)))))))))))
set_option maxHeartbeats 4000000 in
set_option maxRecDepth 100000 in
theorem s_X8_count {n f g d : Nat} {Q : gP} {I : Nat → Nat → Int32} {L : Nat → Nat → Int64} {a1 : Int32}  (hQ : Q (some (.int (f_X8_count I L a1))) (gKn n, gRf f g, I, L)) : gR gM (d + 0) 176 [.ref 57, .int a1] (gKn n, gRf f g, I, L) Q := by
  unfold f_X8_count at hQ
  show gW gM (d + 0) 0 0 k_X8_count 0 [.ref 57, .int a1] [] (gKn n, gRf f g, I, L) Q
  refine r_iload rfl rfl ?_
  by_cases c1 : a1 = (nI 0)
  · try simp only [if_pos c1] at hQ
    refine r_tsw 2 rfl (by rw [c1]; decide +kernel) ?_
    refine r_aload rfl rfl ?_
    refine r_getI (c := 8) (k := 20) rfl rfl ⟨rfl, rfl⟩ ?_
    refine r_iret rfl ?_
    try simp only [Bool.false_eq_true, if_false] at hQ
    first | exact hQ | simpa only [if_pos c1] using hQ
  · try simp only [if_neg c1] at hQ
    by_cases c2 : a1 = (nI 1)
    · try simp only [if_pos c2] at hQ
      refine r_tsw 5 rfl (by rw [c2]; decide +kernel) ?_
      refine r_aload rfl rfl ?_
      refine r_getI (c := 8) (k := 0) rfl rfl ⟨rfl, rfl⟩ ?_
      refine r_iret rfl ?_
      try simp only [Bool.false_eq_true, if_false] at hQ
      first | exact hQ | simpa only [if_neg c1, if_pos c2] using hQ
    · try simp only [if_neg c2] at hQ
      by_cases c3 : a1 = (nI 2)
      · try simp only [if_pos c3] at hQ
        refine r_tsw 8 rfl (by rw [c3]; decide +kernel) ?_
        refine r_aload rfl rfl ?_
        refine r_getI (c := 8) (k := 1) rfl rfl ⟨rfl, rfl⟩ ?_
        refine r_iret rfl ?_
        try simp only [Bool.false_eq_true, if_false] at hQ
        first | exact hQ | simpa only [if_neg c1, if_neg c2, if_pos c3] using hQ
      · try simp only [if_neg c3] at hQ
        by_cases c4 : a1 = (nI 3)
        · try simp only [if_pos c4] at hQ
          refine r_tsw 11 rfl (by rw [c4]; decide +kernel) ?_
          refine r_aload rfl rfl ?_
          refine r_getI (c := 8) (k := 2) rfl rfl ⟨rfl, rfl⟩ ?_
          refine r_iret rfl ?_
          try simp only [Bool.false_eq_true, if_false] at hQ
          first | exact hQ | simpa only [if_neg c1, if_neg c2, if_neg c3, if_pos c4] using hQ
        · try simp only [if_neg c4] at hQ
          by_cases c5 : a1 = (nI 4)
          · try simp only [if_pos c5] at hQ
            refine r_tsw 14 rfl (by rw [c5]; decide +kernel) ?_
            refine r_aload rfl rfl ?_
            refine r_getI (c := 8) (k := 3) rfl rfl ⟨rfl, rfl⟩ ?_
            refine r_iret rfl ?_
            try simp only [Bool.false_eq_true, if_false] at hQ
            first | exact hQ | simpa only [if_neg c1, if_neg c2, if_neg c3, if_neg c4, if_pos c5] using hQ
          · try simp only [if_neg c5] at hQ
            by_cases c6 : a1 = (nI 5)
            · try simp only [if_pos c6] at hQ
              refine r_tsw 17 rfl (by rw [c6]; decide +kernel) ?_
              refine r_aload rfl rfl ?_
              refine r_getR (c := 8) (k := 9) (v := 63) rfl rfl ⟨rfl, rfl⟩ rfl ?_
              refine r_const rfl (gcst 13) ?_
              refine r_iaload (n := 54) rfl rfl (vp_in_nI (n := 13) (N := 54) (by decide) (by decide)) ?_
              refine r_iret rfl ?_
              try simp only [Bool.false_eq_true, if_false] at hQ
              first | exact hQ | simpa only [if_neg c1, if_neg c2, if_neg c3, if_neg c4, if_neg c5, if_pos c6] using hQ
            · try simp only [if_neg c6] at hQ
              by_cases c7 : a1 = (nI 6)
              · try simp only [if_pos c7] at hQ
                refine r_tsw 22 rfl (by rw [c7]; decide +kernel) ?_
                refine r_aload rfl rfl ?_
                refine r_getR (c := 8) (k := 9) (v := 63) rfl rfl ⟨rfl, rfl⟩ rfl ?_
                refine r_const rfl (gcst 14) ?_
                refine r_iaload (n := 54) rfl rfl (vp_in_nI (n := 14) (N := 54) (by decide) (by decide)) ?_
                refine r_iret rfl ?_
                try simp only [Bool.false_eq_true, if_false] at hQ
                first | exact hQ | simpa only [if_neg c1, if_neg c2, if_neg c3, if_neg c4, if_neg c5, if_neg c6, if_pos c7] using hQ
              · try simp only [if_neg c7] at hQ
                by_cases c8 : a1 = (nI 7)
                · try simp only [if_pos c8] at hQ
                  refine r_tsw 27 rfl (by rw [c8]; decide +kernel) ?_
                  refine r_aload rfl rfl ?_
                  refine r_getR (c := 8) (k := 9) (v := 63) rfl rfl ⟨rfl, rfl⟩ rfl ?_
                  refine r_const rfl (gcst 12) ?_
                  refine r_iaload (n := 54) rfl rfl (vp_in_nI (n := 12) (N := 54) (by decide) (by decide)) ?_
                  refine r_iret rfl ?_
                  try simp only [Bool.false_eq_true, if_false] at hQ
                  first | exact hQ | simpa only [if_neg c1, if_neg c2, if_neg c3, if_neg c4, if_neg c5, if_neg c6, if_neg c7, if_pos c8] using hQ
                · try simp only [if_neg c8] at hQ
                  by_cases c9 : a1 = (nI 8)
                  · try simp only [if_pos c9] at hQ
                    refine r_tsw 32 rfl (by rw [c9]; decide +kernel) ?_
                    refine r_aload rfl rfl ?_
                    refine r_getI (c := 8) (k := 25) rfl rfl ⟨rfl, rfl⟩ ?_
                    refine r_iret rfl ?_
                    try simp only [Bool.false_eq_true, if_false] at hQ
                    first | exact hQ | simpa only [if_neg c1, if_neg c2, if_neg c3, if_neg c4, if_neg c5, if_neg c6, if_neg c7, if_neg c8, if_pos c9] using hQ
                  · try simp only [if_neg c9] at hQ
                    by_cases c10 : a1 = (nI 9)
                    · try simp only [if_pos c10] at hQ
                      refine r_tsw 35 rfl (by rw [c10]; decide +kernel) ?_
                      refine r_aload rfl rfl ?_
                      refine r_getI (c := 8) (k := 29) rfl rfl ⟨rfl, rfl⟩ ?_
                      refine r_iret rfl ?_
                      try simp only [Bool.false_eq_true, if_false] at hQ
                      first | exact hQ | simpa only [if_neg c1, if_neg c2, if_neg c3, if_neg c4, if_neg c5, if_neg c6, if_neg c7, if_neg c8, if_neg c9, if_pos c10] using hQ
                    · try simp only [if_neg c10] at hQ
                      refine r_tsw 38 rfl (gtab_df rfl (fun z h1 h2 e => by
                          rcases (by omega : z = 0 ∨ z = 1 ∨ z = 2 ∨ z = 3 ∨ z = 4 ∨ z = 5 ∨ z = 6 ∨ z = 7 ∨ z = 8 ∨ z = 9) with rfl | rfl | rfl | rfl | rfl | rfl | rfl | rfl | rfl | rfl
                          · exact c1 (gI_of_toInt e)
                          · exact c2 (gI_of_toInt e)
                          · exact c3 (gI_of_toInt e)
                          · exact c4 (gI_of_toInt e)
                          · exact c5 (gI_of_toInt e)
                          · exact c6 (gI_of_toInt e)
                          · exact c7 (gI_of_toInt e)
                          · exact c8 (gI_of_toInt e)
                          · exact c9 (gI_of_toInt e)
                          · exact c10 (gI_of_toInt e))) ?_
                      refine r_const rfl (v := -2) (by decide) ?_
                      refine r_iret rfl ?_
                      try simp only [Bool.false_eq_true, if_false] at hQ
                      first | exact hQ | simpa only [if_neg c1, if_neg c2, if_neg c3, if_neg c4, if_neg c5, if_neg c6, if_neg c7, if_neg c8, if_neg c9, if_neg c10] using hQ
