/-! FUNCTIONS (dec.py, dec2.py) -/
def r_X7_greatestCommon_21   (v2 : Int32) (I : Nat → Nat → Int32) (L : Nat → Nat → Int64) : Option gRs := some (v2, I, L)
set_option maxHeartbeats 4000000 in
set_option maxRecDepth 100000 in
theorem t_X7_greatestCommon_21 {n f g d : Nat} {Q : gP} {z : gRs}    {v2 : Int32} {I : Nat → Nat → Int32} {L : Nat → Nat → Int64} (hr : r_X7_greatestCommon_21 v2 I L = some z) (hQ : Q (some (.int z.1)) (gKn n, gRf f g, z.2.1, z.2.2)) : gW gM (d + 0) 0 0 k_X7_greatestCommon 21 [.null, .null, .int v2, .null, .null, .null] [] (gKn n, gRf f g, I, L) Q := by
  unfold r_X7_greatestCommon_21 at hr
  refine r_iload rfl rfl ?_
  refine r_iret rfl ?_
  cases hr
  exact hQ
def r_X7_greatestCommon_6   : Nat → Int32 → Int32 → Int32 → (Nat → Nat → Int32) → (Nat → Nat → Int64) → Option gRs
  | 0, _, _, _, _, _ => none
  | m + 1, v2, v3, v4, I, L => (if (nI 64) ≤ v4 then (r_X7_greatestCommon_21 v2 I L) else (if v3 = 0 then (r_X7_greatestCommon_21 v2 I L) else (if ¬ v3 = 0 then (r_X7_greatestCommon_6  m v3 (grem v2 v3) (v4 + (nI 1)) I L) else none)))
set_option maxHeartbeats 4000000 in
set_option maxRecDepth 100000 in
theorem t_X7_greatestCommon_6 {n f g d : Nat} {Q : gP} {z : gRs}    : ∀ {m : Nat} {v2 : Int32} {v3 : Int32} {v4 : Int32} {I : Nat → Nat → Int32} {L : Nat → Nat → Int64}, r_X7_greatestCommon_6 m v2 v3 v4 I L = some z → Q (some (.int z.1)) (gKn n, gRf f g, z.2.1, z.2.2) → gW gM (d + 0) 0 0 k_X7_greatestCommon 6 [.null, .null, .int v2, .int v3, .int v4, .null] [] (gKn n, gRf f g, I, L) Q := by
  intro m
  induction m with
  | zero =>
    intro v2 v3 v4 I L hr _
    cases hr
  | succ m ih =>
    intro v2 v3 v4 I L hr hQ
    have hK6 : ∀ v2 v3 v4 I L, r_X7_greatestCommon_6 m v2 v3 v4 I L = some z → gW gM (d + 0) 0 0 k_X7_greatestCommon 6 [.null, .null, .int v2, .int v3, .int v4, .null] [] (gKn n, gRf f g, I, L) Q := fun v2 v3 v4 I L hr => ih hr hQ
    unfold r_X7_greatestCommon_6 at hr
    refine r_iload rfl rfl ?_
    refine r_const rfl (gcst 64) ?_
    refine r_icmp_ge 21 rfl rfl (fun c7 => ?_) (fun c7 => ?_)
    · rw [if_pos c7] at hr
      refine gforget (ls := [.null, .null, .int v2, .null, .null, .null]) ⟨(Or.inl rfl), ⟨(Or.inl rfl), ⟨(Or.inl rfl), ⟨(Or.inr (Or.inl ⟨rfl, _, rfl⟩)), ⟨(Or.inr (Or.inl ⟨rfl, _, rfl⟩)), ⟨(Or.inl rfl), trivial⟩⟩⟩⟩⟩⟩ ?_
      exact t_X7_greatestCommon_21  hr hQ
    · rw [if_neg c7] at hr
      refine r_iload rfl rfl ?_
      refine r_if_eq 21 rfl rfl (fun c8 => ?_) (fun c8 => ?_)
      · rw [if_pos c8] at hr
        refine gforget (ls := [.null, .null, .int v2, .null, .null, .null]) ⟨(Or.inl rfl), ⟨(Or.inl rfl), ⟨(Or.inl rfl), ⟨(Or.inr (Or.inl ⟨rfl, _, rfl⟩)), ⟨(Or.inr (Or.inl ⟨rfl, _, rfl⟩)), ⟨(Or.inl rfl), trivial⟩⟩⟩⟩⟩⟩ ?_
        exact t_X7_greatestCommon_21  hr hQ
      · rw [if_neg c8] at hr
        refine r_iload rfl rfl ?_
        refine r_iload rfl rfl ?_
        obtain ⟨b9, hr⟩ := gopt hr
        refine r_irem rfl b9 ?_
        refine r_istore [.null, .null, .int v2, .int v3, .int v4, .int (grem v2 v3)] rfl rfl (Nat.le_of_ble_eq_true rfl) rfl ?_
        refine r_iload rfl rfl ?_
        refine r_istore [.null, .null, .int v3, .int v3, .int v4, .int (grem v2 v3)] rfl rfl (Nat.le_of_ble_eq_true rfl) rfl ?_
        refine r_iload rfl rfl ?_
        refine r_istore [.null, .null, .int v3, .int (grem v2 v3), .int v4, .int (grem v2 v3)] rfl rfl (Nat.le_of_ble_eq_true rfl) rfl ?_
        refine r_iinc (y := (v4 + (nI 1))) [.null, .null, .int v3, .int (grem v2 v3), .int (v4 + (nI 1)), .int (grem v2 v3)] rfl rfl rfl (ginc _ 1) rfl ?_
        refine r_goto 6 rfl rfl ?_
        refine gforget (ls := [.null, .null, .int v3, .int (grem v2 v3), .int (v4 + (nI 1)), .null]) ⟨(Or.inl rfl), ⟨(Or.inl rfl), ⟨(Or.inl rfl), ⟨(Or.inl rfl), ⟨(Or.inl rfl), ⟨(Or.inr (Or.inl ⟨rfl, _, rfl⟩)), trivial⟩⟩⟩⟩⟩⟩ ?_
        exact hK6 _ _ _ _ _ hr
def r_X7_greatestCommon (I : Nat → Nat → Int32) (L : Nat → Nat → Int64) (a0 : Int32) (a1 : Int32) : Option gRs := (r_X7_greatestCommon_6 100 a0 a1 (nI 0) I L)
set_option maxHeartbeats 4000000 in
set_option maxRecDepth 100000 in
theorem s_X7_greatestCommon {n f g d : Nat} {Q : gP} {I : Nat → Nat → Int32} {L : Nat → Nat → Int64} {a0 : Int32} {a1 : Int32} {z : gRs}  (hr : r_X7_greatestCommon I L a0 a1 = some z) (hQ : Q (some (.int z.1)) (gKn n, gRf f g, z.2.1, z.2.2)) : gR gM (d + 0) 104 [.int a0, .int a1] (gKn n, gRf f g, I, L) Q := by
  unfold r_X7_greatestCommon at hr
  show gW gM (d + 0) 0 0 k_X7_greatestCommon 0 [.int a0, .int a1, .null, .null, .null, .null] [] (gKn n, gRf f g, I, L) Q
  refine r_iload rfl rfl ?_
  refine r_istore [.int a0, .int a1, .int a0, .null, .null, .null] rfl rfl (Nat.le_of_ble_eq_true rfl) rfl ?_
  refine r_iload rfl rfl ?_
  refine r_istore [.int a0, .int a1, .int a0, .int a1, .null, .null] rfl rfl (Nat.le_of_ble_eq_true rfl) rfl ?_
  refine r_const rfl (gcst 0) ?_
  refine r_istore [.int a0, .int a1, .int a0, .int a1, .int (nI 0), .null] rfl rfl (Nat.le_of_ble_eq_true rfl) rfl ?_
  refine gforget (ls := [.null, .null, .int a0, .int a1, .int (nI 0), .null]) ⟨(Or.inr (Or.inl ⟨rfl, _, rfl⟩)), ⟨(Or.inr (Or.inl ⟨rfl, _, rfl⟩)), ⟨(Or.inl rfl), ⟨(Or.inl rfl), ⟨(Or.inl rfl), ⟨(Or.inl rfl), trivial⟩⟩⟩⟩⟩⟩ ?_
  exact t_X7_greatestCommon_6  hr hQ
def r_X7_fraction_21   (s0 : Int32) (I : Nat → Nat → Int32) (L : Nat → Nat → Int64) : Option gRs := some (s0, I, L)
set_option maxHeartbeats 4000000 in
set_option maxRecDepth 100000 in
theorem t_X7_fraction_21 {n f g d : Nat} {Q : gP} {z : gRs}    {s0 : Int32} {I : Nat → Nat → Int32} {L : Nat → Nat → Int64} (hr : r_X7_fraction_21 s0 I L = some z) (hQ : Q (some (.int z.1)) (gKn n, gRf f g, z.2.1, z.2.2)) : gW gM (d + 1) 0 0 k_X7_fraction 21 [.null, .null, .null, .null] [.int s0] (gKn n, gRf f g, I, L) Q := by
  unfold r_X7_fraction_21 at hr
  refine r_iret rfl ?_
  cases hr
  exact hQ
def r_X7_fraction_11   (s0 : Int32) (I : Nat → Nat → Int32) (L : Nat → Nat → Int64) : Option gRs := some (s0, I, L)
set_option maxHeartbeats 4000000 in
set_option maxRecDepth 100000 in
theorem t_X7_fraction_11 {n f g d : Nat} {Q : gP} {z : gRs}    {s0 : Int32} {I : Nat → Nat → Int32} {L : Nat → Nat → Int64} (hr : r_X7_fraction_11 s0 I L = some z) (hQ : Q (some (.int z.1)) (gKn n, gRf f g, z.2.1, z.2.2)) : gW gM (d + 1) 0 0 k_X7_fraction 11 [.null, .null, .null, .null] [.int s0] (gKn n, gRf f g, I, L) Q := by
  unfold r_X7_fraction_11 at hr
  refine r_iret rfl ?_
  cases hr
  exact hQ
def r_X7_fraction (I : Nat → Nat → Int32) (L : Nat → Nat → Int64) (a0 : Int32) (a1 : Int32) (a2 : Int32) : Option gRs := ((r_X7_greatestCommon I L a0 a1).bind (fun z13 => (if ¬ z13.1 = 0 then (if a2 = 0 then (if ¬ z13.1 = 0 then (r_X7_fraction_21 (a1 / z13.1) z13.2.1 z13.2.2) else none) else (if ¬ z13.1 = 0 then (r_X7_fraction_21 (a0 / z13.1) z13.2.1 z13.2.2) else none)) else (if a2 = 0 then (r_X7_fraction_11 (nI 1) z13.2.1 z13.2.2) else (r_X7_fraction_11 (nI 0) z13.2.1 z13.2.2)))))
set_option maxHeartbeats 4000000 in
set_option maxRecDepth 100000 in
theorem s_X7_fraction {n f g d : Nat} {Q : gP} {I : Nat → Nat → Int32} {L : Nat → Nat → Int64} {a0 : Int32} {a1 : Int32} {a2 : Int32} {z : gRs}  (hr : r_X7_fraction I L a0 a1 a2 = some z) (hQ : Q (some (.int z.1)) (gKn n, gRf f g, z.2.1, z.2.2)) : gR gM (d + 1) 103 [.int a0, .int a1, .int a2] (gKn n, gRf f g, I, L) Q := by
  unfold r_X7_fraction at hr
  show gW gM (d + 1) 0 0 k_X7_fraction 0 [.int a0, .int a1, .int a2, .null] [] (gKn n, gRf f g, I, L) Q
  refine r_iload rfl rfl ?_
  refine r_iload rfl rfl ?_
  obtain ⟨z13, hz13, hr⟩ := gbnd hr
  refine r_invs [.int a0, .int a1] rfl rfl rfl rfl (Nat.le_of_ble_eq_true rfl) ⟨rfl, rfl⟩ ?_
  refine s_X7_greatestCommon  hz13 ?_
  show gW _ _ _ _ _ 3 [.int a0, .int a1, .int a2, .null] [.int z13.1] (gKn n, gRf f g, z13.2.1, z13.2.2) _
  refine r_istore [.int a0, .int a1, .int a2, .int z13.1] rfl rfl (Nat.le_of_ble_eq_true rfl) rfl ?_
  refine r_iload rfl rfl ?_
  refine r_if_ne 12 rfl rfl (fun c14 => ?_) (fun c14 => ?_)
  · rw [if_pos c14] at hr
    refine r_iload rfl rfl ?_
    refine r_if_eq 18 rfl rfl (fun c15 => ?_) (fun c15 => ?_)
    · rw [if_pos c15] at hr
      refine r_iload rfl rfl ?_
      refine r_iload rfl rfl ?_
      obtain ⟨b16, hr⟩ := gopt hr
      refine r_idiv rfl b16 ?_
      refine gforget (ls := [.null, .null, .null, .null]) ⟨(Or.inr (Or.inl ⟨rfl, _, rfl⟩)), ⟨(Or.inr (Or.inl ⟨rfl, _, rfl⟩)), ⟨(Or.inr (Or.inl ⟨rfl, _, rfl⟩)), ⟨(Or.inr (Or.inl ⟨rfl, _, rfl⟩)), trivial⟩⟩⟩⟩ ?_
      exact t_X7_fraction_21  hr hQ
    · rw [if_neg c15] at hr
      refine r_iload rfl rfl ?_
      refine r_iload rfl rfl ?_
      obtain ⟨b17, hr⟩ := gopt hr
      refine r_idiv rfl b17 ?_
      refine r_goto 21 rfl rfl ?_
      refine gforget (ls := [.null, .null, .null, .null]) ⟨(Or.inr (Or.inl ⟨rfl, _, rfl⟩)), ⟨(Or.inr (Or.inl ⟨rfl, _, rfl⟩)), ⟨(Or.inr (Or.inl ⟨rfl, _, rfl⟩)), ⟨(Or.inr (Or.inl ⟨rfl, _, rfl⟩)), trivial⟩⟩⟩⟩ ?_
      exact t_X7_fraction_21  hr hQ
  · rw [if_neg c14] at hr
    refine r_iload rfl rfl ?_
    refine r_if_eq 10 rfl rfl (fun c18 => ?_) (fun c18 => ?_)
    · rw [if_pos c18] at hr
      refine r_const rfl (gcst 1) ?_
      refine gforget (ls := [.null, .null, .null, .null]) ⟨(Or.inr (Or.inl ⟨rfl, _, rfl⟩)), ⟨(Or.inr (Or.inl ⟨rfl, _, rfl⟩)), ⟨(Or.inr (Or.inl ⟨rfl, _, rfl⟩)), ⟨(Or.inr (Or.inl ⟨rfl, _, rfl⟩)), trivial⟩⟩⟩⟩ ?_
      exact t_X7_fraction_11  hr hQ
    · rw [if_neg c18] at hr
      refine r_const rfl (gcst 0) ?_
      refine r_goto 11 rfl rfl ?_
      refine gforget (ls := [.null, .null, .null, .null]) ⟨(Or.inr (Or.inl ⟨rfl, _, rfl⟩)), ⟨(Or.inr (Or.inl ⟨rfl, _, rfl⟩)), ⟨(Or.inr (Or.inl ⟨rfl, _, rfl⟩)), ⟨(Or.inr (Or.inl ⟨rfl, _, rfl⟩)), trivial⟩⟩⟩⟩ ?_
      exact t_X7_fraction_11  hr hQ
def r_X7_share_51 (f : Nat) (g : Nat) (K29 : Int32 → Int32 → Int32 → Int32 → Int32 → (Nat → Nat → Int32) → (Nat → Nat → Int64) → Option gRs) (v2 : Int32) (v3 : Int32) (v4 : Int32) (v6 : Int32) (s0 : Int32) (s1 : Int32) (I : Nat → Nat → Int32) (L : Nat → Nat → Int64) : Option gRs := (K29 v2 v3 v4 (s0 + s1) (v6 + (nI 1)) I L)
set_option maxHeartbeats 4000000 in
set_option maxRecDepth 100000 in
theorem t_X7_share_51 {n f g d : Nat} {Q : gP} {z : gRs}  (hw : gfw f g)  {K29 : Int32 → Int32 → Int32 → Int32 → Int32 → (Nat → Nat → Int32) → (Nat → Nat → Int64) → Option gRs} (hK29 : ∀ v2 v3 v4 v5 v6 I L, K29 v2 v3 v4 v5 v6 I L = some z → gW gM (d + 4) 0 0 k_X7_share 29 [.ref 2, .null, .int v2, .int v3, .int v4, .int v5, .int v6, .null] [] (gKn n, gRf f g, I, L) Q) {v2 : Int32} {v3 : Int32} {v4 : Int32} {v6 : Int32} {s0 : Int32} {s1 : Int32} {I : Nat → Nat → Int32} {L : Nat → Nat → Int64} (hr : r_X7_share_51 f g K29 v2 v3 v4 v6 s0 s1 I L = some z) (hQ : Q (some (.int z.1)) (gKn n, gRf f g, z.2.1, z.2.2)) : gW gM (d + 4) 0 0 k_X7_share 51 [.ref 2, .null, .int v2, .int v3, .int v4, .null, .int v6, .null] [.int s1, .int s0] (gKn n, gRf f g, I, L) Q := by
  have hfe := hw.f
  have hfd := hw.g
  unfold r_X7_share_51 at hr
  refine r_iadd rfl ?_
  refine r_istore [.ref 2, .null, .int v2, .int v3, .int v4, .int (s0 + s1), .int v6, .null] rfl rfl (Nat.le_of_ble_eq_true rfl) rfl ?_
  refine r_iinc (y := (v6 + (nI 1))) [.ref 2, .null, .int v2, .int v3, .int v4, .int (s0 + s1), .int (v6 + (nI 1)), .null] rfl rfl rfl (ginc _ 1) rfl ?_
  refine r_goto 29 rfl rfl ?_
  exact hK29 _ _ _ _ _ _ _ hr
def r_X7_share_29 (f : Nat) (g : Nat)  : Nat → Int32 → Int32 → Int32 → Int32 → Int32 → (Nat → Nat → Int32) → (Nat → Nat → Int64) → Option gRs
  | 0, _, _, _, _, _, _, _ => none
  | m + 1, v2, v3, v4, v5, v6, I, L => (if (nI 12) ≤ v6 then ((r_X7_fraction I L v5 (nI 60) v3).bind (fun z26 => some (z26.1, z26.2.1, z26.2.2))) else (if ((gshr v4 v6) &&& (nI 1)) = 0 then (r_X7_share_29 f g m v2 v3 v4 v5 (v6 + (nI 1)) I L) else ((r_X7_singersOf f g I L v6 v2).bind (fun z28 => (if z28.1 ≤ 0 then (r_X7_share_51 f g (r_X7_share_29 f g m) v2 v3 v4 v6 v5 (nI 0) z28.2.1 z28.2.2) else (if ¬ z28.1 = 0 then (r_X7_share_51 f g (r_X7_share_29 f g m) v2 v3 v4 v6 v5 ((nI 60) / z28.1) z28.2.1 z28.2.2) else none))))))
set_option maxHeartbeats 4000000 in
set_option maxRecDepth 100000 in
theorem t_X7_share_29 {n f g d : Nat} {Q : gP} {z : gRs}  (hw : gfw f g)   : ∀ {m : Nat} {v2 : Int32} {v3 : Int32} {v4 : Int32} {v5 : Int32} {v6 : Int32} {I : Nat → Nat → Int32} {L : Nat → Nat → Int64}, r_X7_share_29 f g m v2 v3 v4 v5 v6 I L = some z → Q (some (.int z.1)) (gKn n, gRf f g, z.2.1, z.2.2) → gW gM (d + 4) 0 0 k_X7_share 29 [.ref 2, .null, .int v2, .int v3, .int v4, .int v5, .int v6, .null] [] (gKn n, gRf f g, I, L) Q := by
  intro m
  have hfe := hw.f
  have hfd := hw.g
  induction m with
  | zero =>
    intro v2 v3 v4 v5 v6 I L hr _
    cases hr
  | succ m ih =>
    intro v2 v3 v4 v5 v6 I L hr hQ
    have hK29 : ∀ v2 v3 v4 v5 v6 I L, r_X7_share_29 f g m v2 v3 v4 v5 v6 I L = some z → gW gM (d + 4) 0 0 k_X7_share 29 [.ref 2, .null, .int v2, .int v3, .int v4, .int v5, .int v6, .null] [] (gKn n, gRf f g, I, L) Q := fun v2 v3 v4 v5 v6 I L hr => ih hr hQ
    unfold r_X7_share_29 at hr
    refine r_iload rfl rfl ?_
    refine r_const rfl (gcst 12) ?_
    refine r_icmp_ge 55 rfl rfl (fun c25 => ?_) (fun c25 => ?_)
    · rw [if_pos c25] at hr
      refine r_iload rfl rfl ?_
      refine r_const rfl (gcst 60) ?_
      refine r_iload rfl rfl ?_
      obtain ⟨z26, hz26, hr⟩ := gbnd hr
      refine r_invs [.int v5, .int (nI 60), .int v3] rfl rfl rfl rfl (Nat.le_of_ble_eq_true rfl) ⟨rfl, rfl⟩ ?_
      refine s_X7_fraction  hz26 ?_
      show gW _ _ _ _ _ 59 [.ref 2, .null, .int v2, .int v3, .int v4, .int v5, .int v6, .null] [.int z26.1] (gKn n, gRf f g, z26.2.1, z26.2.2) _
      refine r_iret rfl ?_
      cases hr
      exact hQ
    · rw [if_neg c25] at hr
      refine r_iload rfl rfl ?_
      refine r_iload rfl rfl ?_
      refine r_ishr rfl ?_
      refine r_const rfl (gcst 1) ?_
      refine r_iand rfl ?_
      refine r_if_eq 53 rfl rfl (fun c27 => ?_) (fun c27 => ?_)
      · rw [if_pos c27] at hr
        refine r_iinc (y := (v6 + (nI 1))) [.ref 2, .null, .int v2, .int v3, .int v4, .int v5, .int (v6 + (nI 1)), .null] rfl rfl rfl (ginc _ 1) rfl ?_
        refine r_goto 29 rfl rfl ?_
        exact hK29 _ _ _ _ _ _ _ hr
      · rw [if_neg c27] at hr
        refine r_aload rfl rfl ?_
        refine r_iload rfl rfl ?_
        refine r_iload rfl rfl ?_
        obtain ⟨z28, hz28, hr⟩ := gbnd hr
        refine r_invv (a := 2) [.int v6, .int v2] rfl rfl rfl rfl rfl (Nat.le_of_ble_eq_true rfl) ⟨rfl, rfl⟩ ?_
        refine s_X7_singersOf hw  hz28 ?_
        show gW _ _ _ _ _ 42 [.ref 2, .null, .int v2, .int v3, .int v4, .int v5, .int v6, .null] [.int z28.1] (gKn n, gRf f g, z28.2.1, z28.2.2) _
        refine r_istore [.ref 2, .null, .int v2, .int v3, .int v4, .int v5, .int v6, .int z28.1] rfl rfl (Nat.le_of_ble_eq_true rfl) rfl ?_
        refine r_iload rfl rfl ?_
        refine r_iload rfl rfl ?_
        refine r_if_le 50 rfl rfl (fun c29 => ?_) (fun c29 => ?_)
        · rw [if_pos c29] at hr
          refine r_const rfl (gcst 0) ?_
          refine gforget (ls := [.ref 2, .null, .int v2, .int v3, .int v4, .null, .int v6, .null]) ⟨(Or.inl rfl), ⟨(Or.inl rfl), ⟨(Or.inl rfl), ⟨(Or.inl rfl), ⟨(Or.inl rfl), ⟨(Or.inr (Or.inl ⟨rfl, _, rfl⟩)), ⟨(Or.inl rfl), ⟨(Or.inr (Or.inl ⟨rfl, _, rfl⟩)), trivial⟩⟩⟩⟩⟩⟩⟩⟩ ?_
          exact t_X7_share_51 hw hK29 hr hQ
        · rw [if_neg c29] at hr
          refine r_const rfl (gcst 60) ?_
          refine r_iload rfl rfl ?_
          obtain ⟨b30, hr⟩ := gopt hr
          refine r_idiv rfl b30 ?_
          refine r_goto 51 rfl rfl ?_
          refine gforget (ls := [.ref 2, .null, .int v2, .int v3, .int v4, .null, .int v6, .null]) ⟨(Or.inl rfl), ⟨(Or.inl rfl), ⟨(Or.inl rfl), ⟨(Or.inl rfl), ⟨(Or.inl rfl), ⟨(Or.inr (Or.inl ⟨rfl, _, rfl⟩)), ⟨(Or.inl rfl), ⟨(Or.inr (Or.inl ⟨rfl, _, rfl⟩)), trivial⟩⟩⟩⟩⟩⟩⟩⟩ ?_
          exact t_X7_share_51 hw hK29 hr hQ
def r_X7_share_10 (f : Nat) (g : Nat)   (I : Nat → Nat → Int32) (L : Nat → Nat → Int64) : Option gRs := some ((-1 : Int32), I, L)
set_option maxHeartbeats 4000000 in
set_option maxRecDepth 100000 in
theorem t_X7_share_10 {n f g d : Nat} {Q : gP} {z : gRs}  (hw : gfw f g)    {I : Nat → Nat → Int32} {L : Nat → Nat → Int64} (hr : r_X7_share_10 f g I L = some z) (hQ : Q (some (.int z.1)) (gKn n, gRf f g, z.2.1, z.2.2)) : gW gM (d + 4) 0 0 k_X7_share 10 [.null, .null, .null, .null, .null, .null, .null, .null] [] (gKn n, gRf f g, I, L) Q := by
  have hfe := hw.f
  have hfd := hw.g
  unfold r_X7_share_10 at hr
  refine r_const rfl (v := -1) (by decide) ?_
  refine r_iret rfl ?_
  cases hr
  exact hQ
def r_X7_share (f g : Nat) (I : Nat → Nat → Int32) (L : Nat → Nat → Int64) (a1 : Int32) (a2 : Int32) (a3 : Int32) : Option gRs := (if (f_X1_isBeast I L f a1) = 0 then (r_X7_share_10 f g I L) else (if ¬ (f_X1_isLane I L f a2) = 0 then ((r_X1_sing I L f 18 a1 a2 53).bind (fun z33 => ((r_X6_toneBits z33.2.1 z33.2.2 53).bind (fun z34 => (r_X7_share_29 f g 100 a2 a3 z34.1 (nI 0) (nI 0) z34.2.1 z34.2.2))))) else (r_X7_share_10 f g I L)))
set_option maxHeartbeats 4000000 in
set_option maxRecDepth 100000 in
theorem s_X7_share {n f g d : Nat} {Q : gP} {I : Nat → Nat → Int32} {L : Nat → Nat → Int64} {a1 : Int32} {a2 : Int32} {a3 : Int32} {z : gRs} (hw : gfw f g)  (hr : r_X7_share f g I L a1 a2 a3 = some z) (hQ : Q (some (.int z.1)) (gKn n, gRf f g, z.2.1, z.2.2)) : gR gM (d + 4) 82 [.ref 2, .int a1, .int a2, .int a3] (gKn n, gRf f g, I, L) Q := by
  have hfe := hw.f
  have hfd := hw.g
  unfold r_X7_share at hr
  show gW gM (d + 4) 0 0 k_X7_share 0 [.ref 2, .int a1, .int a2, .int a3, .null, .null, .null, .null] [] (gKn n, gRf f g, I, L) Q
  refine r_aload rfl rfl ?_
  refine r_getR (c := 7) (k := 2) (v := f) rfl rfl ⟨rfl, rfl⟩ rfl ?_
  refine r_iload rfl rfl ?_
  refine r_invv (a := f) [.int a1] rfl rfl (shFen hfe) rfl rfl (Nat.le_of_ble_eq_true rfl) ⟨rfl, rfl⟩ ?_
  refine s_X1_isBeast hfe ?_
  show gW _ _ _ _ _ 4 [.ref 2, .int a1, .int a2, .int a3, .null, .null, .null, .null] [.int (f_X1_isBeast I L f a1)] (gKn n, gRf f g, I, L) _
  refine r_if_eq 10 rfl rfl (fun c31 => ?_) (fun c31 => ?_)
  · rw [if_pos c31] at hr
    refine gforget (ls := [.null, .null, .null, .null, .null, .null, .null, .null]) ⟨(Or.inr (Or.inr ⟨rfl, _, rfl⟩)), ⟨(Or.inr (Or.inl ⟨rfl, _, rfl⟩)), ⟨(Or.inr (Or.inl ⟨rfl, _, rfl⟩)), ⟨(Or.inr (Or.inl ⟨rfl, _, rfl⟩)), ⟨(Or.inl rfl), ⟨(Or.inl rfl), ⟨(Or.inl rfl), ⟨(Or.inl rfl), trivial⟩⟩⟩⟩⟩⟩⟩⟩ ?_
    exact t_X7_share_10 hw hr hQ
  · rw [if_neg c31] at hr
    refine r_aload rfl rfl ?_
    refine r_getR (c := 7) (k := 2) (v := f) rfl rfl ⟨rfl, rfl⟩ rfl ?_
    refine r_iload rfl rfl ?_
    refine r_invv (a := f) [.int a2] rfl rfl (shFen hfe) rfl rfl (Nat.le_of_ble_eq_true rfl) ⟨rfl, rfl⟩ ?_
    refine s_X1_isLane hfe ?_
    show gW _ _ _ _ _ 9 [.ref 2, .int a1, .int a2, .int a3, .null, .null, .null, .null] [.int (f_X1_isLane I L f a2)] (gKn n, gRf f g, I, L) _
    refine r_if_ne 12 rfl rfl (fun c32 => ?_) (fun c32 => ?_)
    · rw [if_pos c32] at hr
      refine r_aload rfl rfl ?_
      refine r_getR (c := 7) (k := 2) (v := f) rfl rfl ⟨rfl, rfl⟩ rfl ?_
      refine r_aload rfl rfl ?_
      refine r_getR (c := 7) (k := 4) (v := 18) rfl rfl ⟨rfl, rfl⟩ rfl ?_
      refine r_iload rfl rfl ?_
      refine r_iload rfl rfl ?_
      refine r_aload rfl rfl ?_
      refine r_getR (c := 7) (k := 12) (v := 53) rfl rfl ⟨rfl, rfl⟩ rfl ?_
      obtain ⟨z33, hz33, hr⟩ := gbnd hr
      refine r_invv (a := f) [.ref 18, .int a1, .int a2, .ref 53] rfl rfl (shFen hfe) rfl rfl (Nat.le_of_ble_eq_true rfl) ⟨rfl, rfl⟩ ?_
      refine s_X1_sing hfe rfl rfl hz33 ?_
      show gW _ _ _ _ _ 21 [.ref 2, .int a1, .int a2, .int a3, .null, .null, .null, .null] [] (gKn n, gRf f g, z33.2.1, z33.2.2) _
      refine r_aload rfl rfl ?_
      refine r_getR (c := 7) (k := 12) (v := 53) rfl rfl ⟨rfl, rfl⟩ rfl ?_
      obtain ⟨z34, hz34, hr⟩ := gbnd hr
      refine r_invv (a := 53) [] rfl rfl rfl rfl rfl (Nat.le_of_ble_eq_true rfl) ⟨rfl, rfl⟩ ?_
      refine s_X6_toneBits rfl hz34 ?_
      show gW _ _ _ _ _ 24 [.ref 2, .int a1, .int a2, .int a3, .null, .null, .null, .null] [.int z34.1] (gKn n, gRf f g, z34.2.1, z34.2.2) _
      refine r_istore [.ref 2, .int a1, .int a2, .int a3, .int z34.1, .null, .null, .null] rfl rfl (Nat.le_of_ble_eq_true rfl) rfl ?_
      refine r_const rfl (gcst 0) ?_
      refine r_istore [.ref 2, .int a1, .int a2, .int a3, .int z34.1, .int (nI 0), .null, .null] rfl rfl (Nat.le_of_ble_eq_true rfl) rfl ?_
      refine r_const rfl (gcst 0) ?_
      refine r_istore [.ref 2, .int a1, .int a2, .int a3, .int z34.1, .int (nI 0), .int (nI 0), .null] rfl rfl (Nat.le_of_ble_eq_true rfl) rfl ?_
      refine gforget (ls := [.ref 2, .null, .int a2, .int a3, .int z34.1, .int (nI 0), .int (nI 0), .null]) ⟨(Or.inl rfl), ⟨(Or.inr (Or.inl ⟨rfl, _, rfl⟩)), ⟨(Or.inl rfl), ⟨(Or.inl rfl), ⟨(Or.inl rfl), ⟨(Or.inl rfl), ⟨(Or.inl rfl), ⟨(Or.inl rfl), trivial⟩⟩⟩⟩⟩⟩⟩⟩ ?_
      exact t_X7_share_29 hw hr hQ
    · rw [if_neg c32] at hr
      refine gforget (ls := [.null, .null, .null, .null, .null, .null, .null, .null]) ⟨(Or.inr (Or.inr ⟨rfl, _, rfl⟩)), ⟨(Or.inr (Or.inl ⟨rfl, _, rfl⟩)), ⟨(Or.inr (Or.inl ⟨rfl, _, rfl⟩)), ⟨(Or.inr (Or.inl ⟨rfl, _, rfl⟩)), ⟨(Or.inl rfl), ⟨(Or.inl rfl), ⟨(Or.inl rfl), ⟨(Or.inl rfl), trivial⟩⟩⟩⟩⟩⟩⟩⟩ ?_
      exact t_X7_share_10 hw hr hQ
def r_X7_rests_82 (f : Nat) (g : Nat)  (s0 : Int32) (I : Nat → Nat → Int32) (L : Nat → Nat → Int64) : Option gRs := some (s0, I, L)
set_option maxHeartbeats 4000000 in
set_option maxRecDepth 100000 in
theorem t_X7_rests_82 {n f g d : Nat} {Q : gP} {z : gRs}  (hw : gfw f g)   {s0 : Int32} {I : Nat → Nat → Int32} {L : Nat → Nat → Int64} (hr : r_X7_rests_82 f g s0 I L = some z) (hQ : Q (some (.int z.1)) (gKn n, gRf f g, z.2.1, z.2.2)) : gW gM (d + 3) 0 0 k_X7_rests 82 [.null, .null, .null, .null, .null, .null] [.int s0] (gKn n, gRf f g, I, L) Q := by
  have hfe := hw.f
  have hfd := hw.g
  unfold r_X7_rests_82 at hr
  refine r_iret rfl ?_
  cases hr
  exact hQ
def r_X7_rests_40 (f : Nat) (g : Nat) (K24 : Int32 → Int32 → Int32 → Int32 → (Nat → Nat → Int32) → (Nat → Nat → Int64) → Option gRs) : Nat → Int32 → Int32 → Int32 → Int32 → Int32 → (Nat → Nat → Int32) → (Nat → Nat → Int64) → Option gRs
  | 0, _, _, _, _, _, _, _ => none
  | m + 1, v1, v2, v3, v4, v5, I, L => (if (I f 1) ≤ v5 then (K24 v1 v2 v3 (v4 + (nI 1)) I L) else ((r_X1_sing I L f 18 v2 v5 55).bind (fun z28 => ((r_X3_meet z28.2.1 z28.2.2 v4 53 v5 55).bind (fun z29 => (r_X7_rests_40 f g K24 m v1 v2 v3 v4 (v5 + (nI 1)) z29.2.1 z29.2.2))))))
set_option maxHeartbeats 4000000 in
set_option maxRecDepth 100000 in
theorem t_X7_rests_40 {n f g d : Nat} {Q : gP} {z : gRs}  (hw : gfw f g)  {K24 : Int32 → Int32 → Int32 → Int32 → (Nat → Nat → Int32) → (Nat → Nat → Int64) → Option gRs} (hK24 : ∀ v1 v2 v3 v4 I L, K24 v1 v2 v3 v4 I L = some z → gW gM (d + 3) 0 0 k_X7_rests 24 [.ref 2, .int v1, .int v2, .int v3, .int v4, .null] [] (gKn n, gRf f g, I, L) Q) : ∀ {m : Nat} {v1 : Int32} {v2 : Int32} {v3 : Int32} {v4 : Int32} {v5 : Int32} {I : Nat → Nat → Int32} {L : Nat → Nat → Int64}, r_X7_rests_40 f g K24 m v1 v2 v3 v4 v5 I L = some z → Q (some (.int z.1)) (gKn n, gRf f g, z.2.1, z.2.2) → gW gM (d + 3) 0 0 k_X7_rests 40 [.ref 2, .int v1, .int v2, .int v3, .int v4, .int v5] [] (gKn n, gRf f g, I, L) Q := by
  intro m
  have hfe := hw.f
  have hfd := hw.g
  induction m with
  | zero =>
    intro v1 v2 v3 v4 v5 I L hr _
    cases hr
  | succ m ih =>
    intro v1 v2 v3 v4 v5 I L hr hQ
    have hK40 : ∀ v1 v2 v3 v4 v5 I L, r_X7_rests_40 f g K24 m v1 v2 v3 v4 v5 I L = some z → gW gM (d + 3) 0 0 k_X7_rests 40 [.ref 2, .int v1, .int v2, .int v3, .int v4, .int v5] [] (gKn n, gRf f g, I, L) Q := fun v1 v2 v3 v4 v5 I L hr => ih hr hQ
    unfold r_X7_rests_40 at hr
    refine r_iload rfl rfl ?_
    refine r_aload rfl rfl ?_
    refine r_getR (c := 7) (k := 2) (v := f) rfl rfl ⟨rfl, rfl⟩ rfl ?_
    refine r_getI (c := 1) (k := 1) rfl (shFen hfe) ⟨rfl, rfl⟩ ?_
    refine r_icmp_ge 65 rfl rfl (fun c27 => ?_) (fun c27 => ?_)
    · rw [if_pos c27] at hr
      refine r_iinc (y := (v4 + (nI 1))) [.ref 2, .int v1, .int v2, .int v3, .int (v4 + (nI 1)), .int v5] rfl rfl rfl (ginc _ 1) rfl ?_
      refine r_goto 24 rfl rfl ?_
      refine gforget (ls := [.ref 2, .int v1, .int v2, .int v3, .int (v4 + (nI 1)), .null]) ⟨(Or.inl rfl), ⟨(Or.inl rfl), ⟨(Or.inl rfl), ⟨(Or.inl rfl), ⟨(Or.inl rfl), ⟨(Or.inr (Or.inl ⟨rfl, _, rfl⟩)), trivial⟩⟩⟩⟩⟩⟩ ?_
      exact hK24 _ _ _ _ _ _ hr
    · rw [if_neg c27] at hr
      refine r_aload rfl rfl ?_
      refine r_getR (c := 7) (k := 2) (v := f) rfl rfl ⟨rfl, rfl⟩ rfl ?_
      refine r_aload rfl rfl ?_
      refine r_getR (c := 7) (k := 4) (v := 18) rfl rfl ⟨rfl, rfl⟩ rfl ?_
      refine r_iload rfl rfl ?_
      refine r_iload rfl rfl ?_
      refine r_aload rfl rfl ?_
      refine r_getR (c := 7) (k := 13) (v := 55) rfl rfl ⟨rfl, rfl⟩ rfl ?_
      obtain ⟨z28, hz28, hr⟩ := gbnd hr
      refine r_invv (a := f) [.ref 18, .int v2, .int v5, .ref 55] rfl rfl (shFen hfe) rfl rfl (Nat.le_of_ble_eq_true rfl) ⟨rfl, rfl⟩ ?_
      refine s_X1_sing hfe rfl rfl hz28 ?_
      show gW _ _ _ _ _ 54 [.ref 2, .int v1, .int v2, .int v3, .int v4, .int v5] [] (gKn n, gRf f g, z28.2.1, z28.2.2) _
      refine r_aload rfl rfl ?_
      refine r_getR (c := 7) (k := 11) (v := 50) rfl rfl ⟨rfl, rfl⟩ rfl ?_
      refine r_iload rfl rfl ?_
      refine r_aload rfl rfl ?_
      refine r_getR (c := 7) (k := 12) (v := 53) rfl rfl ⟨rfl, rfl⟩ rfl ?_
      refine r_iload rfl rfl ?_
      refine r_aload rfl rfl ?_
      refine r_getR (c := 7) (k := 13) (v := 55) rfl rfl ⟨rfl, rfl⟩ rfl ?_
      obtain ⟨z29, hz29, hr⟩ := gbnd hr
      refine r_invv (a := 50) [.int v4, .ref 53, .int v5, .ref 55] rfl rfl rfl rfl rfl (Nat.le_of_ble_eq_true rfl) ⟨rfl, rfl⟩ ?_
      refine s_X3_meet rfl rfl hz29 ?_
      show gW _ _ _ _ _ 63 [.ref 2, .int v1, .int v2, .int v3, .int v4, .int v5] [] (gKn n, gRf f g, z29.2.1, z29.2.2) _
      refine r_iinc (y := (v5 + (nI 1))) [.ref 2, .int v1, .int v2, .int v3, .int v4, .int (v5 + (nI 1))] rfl rfl rfl (ginc _ 1) rfl ?_
      refine r_goto 40 rfl rfl ?_
      exact hK40 _ _ _ _ _ _ _ hr
def r_X7_rests_24 (f : Nat) (g : Nat)  : Nat → Int32 → Int32 → Int32 → Int32 → (Nat → Nat → Int32) → (Nat → Nat → Int64) → Option gRs
  | 0, _, _, _, _, _, _ => none
  | m + 1, v1, v2, v3, v4, I, L => (if (I f 1) ≤ v4 then ((r_X3_settle I L (I f 1)).bind (fun z31 => (if ¬ v3 = 0 then (r_X7_rests_82 f g (z31.2.1 50 3) z31.2.1 z31.2.2) else (r_X7_rests_82 f g (z31.2.1 50 2) z31.2.1 z31.2.2)))) else ((r_X1_sing I L f 18 v1 v4 53).bind (fun z33 => (r_X7_rests_40 f g (r_X7_rests_24 f g m) 100 v1 v2 v3 v4 (nI 0) z33.2.1 z33.2.2))))
set_option maxHeartbeats 4000000 in
set_option maxRecDepth 100000 in
theorem t_X7_rests_24 {n f g d : Nat} {Q : gP} {z : gRs}  (hw : gfw f g)   : ∀ {m : Nat} {v1 : Int32} {v2 : Int32} {v3 : Int32} {v4 : Int32} {I : Nat → Nat → Int32} {L : Nat → Nat → Int64}, r_X7_rests_24 f g m v1 v2 v3 v4 I L = some z → Q (some (.int z.1)) (gKn n, gRf f g, z.2.1, z.2.2) → gW gM (d + 3) 0 0 k_X7_rests 24 [.ref 2, .int v1, .int v2, .int v3, .int v4, .null] [] (gKn n, gRf f g, I, L) Q := by
  intro m
  have hfe := hw.f
  have hfd := hw.g
  induction m with
  | zero =>
    intro v1 v2 v3 v4 I L hr _
    cases hr
  | succ m ih =>
    intro v1 v2 v3 v4 I L hr hQ
    have hK24 : ∀ v1 v2 v3 v4 I L, r_X7_rests_24 f g m v1 v2 v3 v4 I L = some z → gW gM (d + 3) 0 0 k_X7_rests 24 [.ref 2, .int v1, .int v2, .int v3, .int v4, .null] [] (gKn n, gRf f g, I, L) Q := fun v1 v2 v3 v4 I L hr => ih hr hQ
    unfold r_X7_rests_24 at hr
    refine r_iload rfl rfl ?_
    refine r_aload rfl rfl ?_
    refine r_getR (c := 7) (k := 2) (v := f) rfl rfl ⟨rfl, rfl⟩ rfl ?_
    refine r_getI (c := 1) (k := 1) rfl (shFen hfe) ⟨rfl, rfl⟩ ?_
    refine r_icmp_ge 67 rfl rfl (fun c30 => ?_) (fun c30 => ?_)
    · rw [if_pos c30] at hr
      refine r_aload rfl rfl ?_
      refine r_getR (c := 7) (k := 11) (v := 50) rfl rfl ⟨rfl, rfl⟩ rfl ?_
      refine r_aload rfl rfl ?_
      refine r_getR (c := 7) (k := 2) (v := f) rfl rfl ⟨rfl, rfl⟩ rfl ?_
      refine r_getI (c := 1) (k := 1) rfl (shFen hfe) ⟨rfl, rfl⟩ ?_
      obtain ⟨z31, hz31, hr⟩ := gbnd hr
      refine r_invv (a := 50) [.int (I f 1)] rfl rfl rfl rfl rfl (Nat.le_of_ble_eq_true rfl) ⟨rfl, rfl⟩ ?_
      refine s_X3_settle  hz31 ?_
      show gW _ _ _ _ _ 73 [.ref 2, .int v1, .int v2, .int v3, .int v4, .null] [] (gKn n, gRf f g, z31.2.1, z31.2.2) _
      refine r_iload rfl rfl ?_
      refine r_if_ne 79 rfl rfl (fun c32 => ?_) (fun c32 => ?_)
      · rw [if_pos c32] at hr
        refine r_aload rfl rfl ?_
        refine r_getR (c := 7) (k := 11) (v := 50) rfl rfl ⟨rfl, rfl⟩ rfl ?_
        refine r_getI (c := 3) (k := 3) rfl rfl ⟨rfl, rfl⟩ ?_
        refine gforget (ls := [.null, .null, .null, .null, .null, .null]) ⟨(Or.inr (Or.inr ⟨rfl, _, rfl⟩)), ⟨(Or.inr (Or.inl ⟨rfl, _, rfl⟩)), ⟨(Or.inr (Or.inl ⟨rfl, _, rfl⟩)), ⟨(Or.inr (Or.inl ⟨rfl, _, rfl⟩)), ⟨(Or.inr (Or.inl ⟨rfl, _, rfl⟩)), ⟨(Or.inl rfl), trivial⟩⟩⟩⟩⟩⟩ ?_
        exact t_X7_rests_82 hw hr hQ
      · rw [if_neg c32] at hr
        refine r_aload rfl rfl ?_
        refine r_getR (c := 7) (k := 11) (v := 50) rfl rfl ⟨rfl, rfl⟩ rfl ?_
        refine r_getI (c := 3) (k := 2) rfl rfl ⟨rfl, rfl⟩ ?_
        refine r_goto 82 rfl rfl ?_
        refine gforget (ls := [.null, .null, .null, .null, .null, .null]) ⟨(Or.inr (Or.inr ⟨rfl, _, rfl⟩)), ⟨(Or.inr (Or.inl ⟨rfl, _, rfl⟩)), ⟨(Or.inr (Or.inl ⟨rfl, _, rfl⟩)), ⟨(Or.inr (Or.inl ⟨rfl, _, rfl⟩)), ⟨(Or.inr (Or.inl ⟨rfl, _, rfl⟩)), ⟨(Or.inl rfl), trivial⟩⟩⟩⟩⟩⟩ ?_
        exact t_X7_rests_82 hw hr hQ
    · rw [if_neg c30] at hr
      refine r_aload rfl rfl ?_
      refine r_getR (c := 7) (k := 2) (v := f) rfl rfl ⟨rfl, rfl⟩ rfl ?_
      refine r_aload rfl rfl ?_
      refine r_getR (c := 7) (k := 4) (v := 18) rfl rfl ⟨rfl, rfl⟩ rfl ?_
      refine r_iload rfl rfl ?_
      refine r_iload rfl rfl ?_
      refine r_aload rfl rfl ?_
      refine r_getR (c := 7) (k := 12) (v := 53) rfl rfl ⟨rfl, rfl⟩ rfl ?_
      obtain ⟨z33, hz33, hr⟩ := gbnd hr
      refine r_invv (a := f) [.ref 18, .int v1, .int v4, .ref 53] rfl rfl (shFen hfe) rfl rfl (Nat.le_of_ble_eq_true rfl) ⟨rfl, rfl⟩ ?_
      refine s_X1_sing hfe rfl rfl hz33 ?_
      show gW _ _ _ _ _ 38 [.ref 2, .int v1, .int v2, .int v3, .int v4, .null] [] (gKn n, gRf f g, z33.2.1, z33.2.2) _
      refine r_const rfl (gcst 0) ?_
      refine r_istore [.ref 2, .int v1, .int v2, .int v3, .int v4, .int (nI 0)] rfl rfl (Nat.le_of_ble_eq_true rfl) rfl ?_
      exact t_X7_rests_40 hw hK24 hr hQ
def r_X7_rests_20 (f : Nat) (g : Nat)   (I : Nat → Nat → Int32) (L : Nat → Nat → Int64) : Option gRs := some ((-2 : Int32), I, L)
set_option maxHeartbeats 4000000 in
set_option maxRecDepth 100000 in
theorem t_X7_rests_20 {n f g d : Nat} {Q : gP} {z : gRs}  (hw : gfw f g)    {I : Nat → Nat → Int32} {L : Nat → Nat → Int64} (hr : r_X7_rests_20 f g I L = some z) (hQ : Q (some (.int z.1)) (gKn n, gRf f g, z.2.1, z.2.2)) : gW gM (d + 3) 0 0 k_X7_rests 20 [.null, .null, .null, .null, .null, .null] [] (gKn n, gRf f g, I, L) Q := by
  have hfe := hw.f
  have hfd := hw.g
  unfold r_X7_rests_20 at hr
  refine r_const rfl (v := -2) (by decide) ?_
  refine r_iret rfl ?_
  cases hr
  exact hQ
def r_X7_rests_10 (f : Nat) (g : Nat)   (I : Nat → Nat → Int32) (L : Nat → Nat → Int64) : Option gRs := some ((-1 : Int32), I, L)
set_option maxHeartbeats 4000000 in
set_option maxRecDepth 100000 in
theorem t_X7_rests_10 {n f g d : Nat} {Q : gP} {z : gRs}  (hw : gfw f g)    {I : Nat → Nat → Int32} {L : Nat → Nat → Int64} (hr : r_X7_rests_10 f g I L = some z) (hQ : Q (some (.int z.1)) (gKn n, gRf f g, z.2.1, z.2.2)) : gW gM (d + 3) 0 0 k_X7_rests 10 [.null, .null, .null, .null, .null, .null] [] (gKn n, gRf f g, I, L) Q := by
  have hfe := hw.f
  have hfd := hw.g
  unfold r_X7_rests_10 at hr
  refine r_const rfl (v := -1) (by decide) ?_
  refine r_iret rfl ?_
  cases hr
  exact hQ
def r_X7_rests (f g : Nat) (I : Nat → Nat → Int32) (L : Nat → Nat → Int64) (a1 : Int32) (a2 : Int32) (a3 : Int32) : Option gRs := (if (f_X1_isBeast I L f a1) = 0 then (r_X7_rests_10 f g I L) else (if ¬ (f_X1_isBeast I L f a2) = 0 then (if a1 = a2 then (r_X7_rests_20 f g I L) else (if a3 < 0 then (r_X7_rests_20 f g I L) else (if a3 ≤ (nI 1) then (r_X7_rests_24 f g 100 a1 a2 a3 (nI 0) I L) else (r_X7_rests_20 f g I L)))) else (r_X7_rests_10 f g I L)))
set_option maxHeartbeats 4000000 in
set_option maxRecDepth 100000 in
theorem s_X7_rests {n f g d : Nat} {Q : gP} {I : Nat → Nat → Int32} {L : Nat → Nat → Int64} {a1 : Int32} {a2 : Int32} {a3 : Int32} {z : gRs} (hw : gfw f g)  (hr : r_X7_rests f g I L a1 a2 a3 = some z) (hQ : Q (some (.int z.1)) (gKn n, gRf f g, z.2.1, z.2.2)) : gR gM (d + 3) 83 [.ref 2, .int a1, .int a2, .int a3] (gKn n, gRf f g, I, L) Q := by
  have hfe := hw.f
  have hfd := hw.g
  unfold r_X7_rests at hr
  show gW gM (d + 3) 0 0 k_X7_rests 0 [.ref 2, .int a1, .int a2, .int a3, .null, .null] [] (gKn n, gRf f g, I, L) Q
  refine r_aload rfl rfl ?_
  refine r_getR (c := 7) (k := 2) (v := f) rfl rfl ⟨rfl, rfl⟩ rfl ?_
  refine r_iload rfl rfl ?_
  refine r_invv (a := f) [.int a1] rfl rfl (shFen hfe) rfl rfl (Nat.le_of_ble_eq_true rfl) ⟨rfl, rfl⟩ ?_
  refine s_X1_isBeast hfe ?_
  show gW _ _ _ _ _ 4 [.ref 2, .int a1, .int a2, .int a3, .null, .null] [.int (f_X1_isBeast I L f a1)] (gKn n, gRf f g, I, L) _
  refine r_if_eq 10 rfl rfl (fun c34 => ?_) (fun c34 => ?_)
  · rw [if_pos c34] at hr
    refine gforget (ls := [.null, .null, .null, .null, .null, .null]) ⟨(Or.inr (Or.inr ⟨rfl, _, rfl⟩)), ⟨(Or.inr (Or.inl ⟨rfl, _, rfl⟩)), ⟨(Or.inr (Or.inl ⟨rfl, _, rfl⟩)), ⟨(Or.inr (Or.inl ⟨rfl, _, rfl⟩)), ⟨(Or.inl rfl), ⟨(Or.inl rfl), trivial⟩⟩⟩⟩⟩⟩ ?_
    exact t_X7_rests_10 hw hr hQ
  · rw [if_neg c34] at hr
    refine r_aload rfl rfl ?_
    refine r_getR (c := 7) (k := 2) (v := f) rfl rfl ⟨rfl, rfl⟩ rfl ?_
    refine r_iload rfl rfl ?_
    refine r_invv (a := f) [.int a2] rfl rfl (shFen hfe) rfl rfl (Nat.le_of_ble_eq_true rfl) ⟨rfl, rfl⟩ ?_
    refine s_X1_isBeast hfe ?_
    show gW _ _ _ _ _ 9 [.ref 2, .int a1, .int a2, .int a3, .null, .null] [.int (f_X1_isBeast I L f a2)] (gKn n, gRf f g, I, L) _
    refine r_if_ne 12 rfl rfl (fun c35 => ?_) (fun c35 => ?_)
    · rw [if_pos c35] at hr
      refine r_iload rfl rfl ?_
      refine r_iload rfl rfl ?_
      refine r_icmp_eq 20 rfl rfl (fun c36 => ?_) (fun c36 => ?_)
      · rw [if_pos c36] at hr
        refine gforget (ls := [.null, .null, .null, .null, .null, .null]) ⟨(Or.inr (Or.inr ⟨rfl, _, rfl⟩)), ⟨(Or.inr (Or.inl ⟨rfl, _, rfl⟩)), ⟨(Or.inr (Or.inl ⟨rfl, _, rfl⟩)), ⟨(Or.inr (Or.inl ⟨rfl, _, rfl⟩)), ⟨(Or.inl rfl), ⟨(Or.inl rfl), trivial⟩⟩⟩⟩⟩⟩ ?_
        exact t_X7_rests_20 hw hr hQ
      · rw [if_neg c36] at hr
        refine r_iload rfl rfl ?_
        refine r_if_lt 20 rfl rfl (fun c37 => ?_) (fun c37 => ?_)
        · rw [if_pos c37] at hr
          refine gforget (ls := [.null, .null, .null, .null, .null, .null]) ⟨(Or.inr (Or.inr ⟨rfl, _, rfl⟩)), ⟨(Or.inr (Or.inl ⟨rfl, _, rfl⟩)), ⟨(Or.inr (Or.inl ⟨rfl, _, rfl⟩)), ⟨(Or.inr (Or.inl ⟨rfl, _, rfl⟩)), ⟨(Or.inl rfl), ⟨(Or.inl rfl), trivial⟩⟩⟩⟩⟩⟩ ?_
          exact t_X7_rests_20 hw hr hQ
        · rw [if_neg c37] at hr
          refine r_iload rfl rfl ?_
          refine r_const rfl (gcst 1) ?_
          refine r_icmp_le 22 rfl rfl (fun c38 => ?_) (fun c38 => ?_)
          · rw [if_pos c38] at hr
            refine r_const rfl (gcst 0) ?_
            refine r_istore [.ref 2, .int a1, .int a2, .int a3, .int (nI 0), .null] rfl rfl (Nat.le_of_ble_eq_true rfl) rfl ?_
            exact t_X7_rests_24 hw hr hQ
          · rw [if_neg c38] at hr
            refine gforget (ls := [.null, .null, .null, .null, .null, .null]) ⟨(Or.inr (Or.inr ⟨rfl, _, rfl⟩)), ⟨(Or.inr (Or.inl ⟨rfl, _, rfl⟩)), ⟨(Or.inr (Or.inl ⟨rfl, _, rfl⟩)), ⟨(Or.inr (Or.inl ⟨rfl, _, rfl⟩)), ⟨(Or.inl rfl), ⟨(Or.inl rfl), trivial⟩⟩⟩⟩⟩⟩ ?_
            exact t_X7_rests_20 hw hr hQ
    · rw [if_neg c35] at hr
      refine gforget (ls := [.null, .null, .null, .null, .null, .null]) ⟨(Or.inr (Or.inr ⟨rfl, _, rfl⟩)), ⟨(Or.inr (Or.inl ⟨rfl, _, rfl⟩)), ⟨(Or.inr (Or.inl ⟨rfl, _, rfl⟩)), ⟨(Or.inr (Or.inl ⟨rfl, _, rfl⟩)), ⟨(Or.inl rfl), ⟨(Or.inl rfl), trivial⟩⟩⟩⟩⟩⟩ ?_
      exact t_X7_rests_10 hw hr hQ
def r_X7_chanceOf_25  (K4 : Int32 → Int32 → Int32 → Int32 → Int32 → (Nat → Nat → Int32) → (Nat → Nat → Int64) → Option gRs) (v0 : Int32) (v1 : Int32) (v2 : Int32) (v4 : Int32) (s0 : Int32) (s1 : Int32) (I : Nat → Nat → Int32) (L : Nat → Nat → Int64) : Option gRs := (K4 v0 v1 v2 (s0 * s1) (v4 + (nI 1)) I L)
set_option maxHeartbeats 4000000 in
set_option maxRecDepth 100000 in
theorem t_X7_chanceOf_25 {n f g d : Nat} {Q : gP} {z : gRs}   {K4 : Int32 → Int32 → Int32 → Int32 → Int32 → (Nat → Nat → Int32) → (Nat → Nat → Int64) → Option gRs} (hK4 : ∀ v0 v1 v2 v3 v4 I L, K4 v0 v1 v2 v3 v4 I L = some z → gW gM (d + 0) 0 0 k_X7_chanceOf 4 [.int v0, .int v1, .int v2, .int v3, .int v4] [] (gKn n, gRf f g, I, L) Q) {v0 : Int32} {v1 : Int32} {v2 : Int32} {v4 : Int32} {s0 : Int32} {s1 : Int32} {I : Nat → Nat → Int32} {L : Nat → Nat → Int64} (hr : r_X7_chanceOf_25 K4 v0 v1 v2 v4 s0 s1 I L = some z) (hQ : Q (some (.int z.1)) (gKn n, gRf f g, z.2.1, z.2.2)) : gW gM (d + 0) 0 0 k_X7_chanceOf 25 [.int v0, .int v1, .int v2, .null, .int v4] [.int s1, .int s0] (gKn n, gRf f g, I, L) Q := by
  unfold r_X7_chanceOf_25 at hr
  refine r_imul rfl ?_
  refine r_istore [.int v0, .int v1, .int v2, .int (s0 * s1), .int v4] rfl rfl (Nat.le_of_ble_eq_true rfl) rfl ?_
  refine r_iinc (y := (v4 + (nI 1))) [.int v0, .int v1, .int v2, .int (s0 * s1), .int (v4 + (nI 1))] rfl rfl rfl (ginc _ 1) rfl ?_
  refine r_goto 4 rfl rfl ?_
  exact hK4 _ _ _ _ _ _ _ hr
def r_X7_chanceOf_4   : Nat → Int32 → Int32 → Int32 → Int32 → Int32 → (Nat → Nat → Int32) → (Nat → Nat → Int64) → Option gRs
  | 0, _, _, _, _, _, _, _ => none
  | m + 1, v0, v1, v2, v3, v4, I, L => (if (nI 5) ≤ v4 then some (v3, I, L) else (if ((gshr v1 v4) &&& (nI 1)) = 0 then (r_X7_chanceOf_4  m v0 v1 v2 v3 (v4 + (nI 1)) I L) else (if ((gshr v0 v4) &&& (nI 1)) = 0 then (r_X7_chanceOf_25 (r_X7_chanceOf_4  m) v0 v1 v2 v4 v3 ((nI 10) - v2) I L) else (r_X7_chanceOf_25 (r_X7_chanceOf_4  m) v0 v1 v2 v4 v3 v2 I L))))
set_option maxHeartbeats 4000000 in
set_option maxRecDepth 100000 in
theorem t_X7_chanceOf_4 {n f g d : Nat} {Q : gP} {z : gRs}    : ∀ {m : Nat} {v0 : Int32} {v1 : Int32} {v2 : Int32} {v3 : Int32} {v4 : Int32} {I : Nat → Nat → Int32} {L : Nat → Nat → Int64}, r_X7_chanceOf_4 m v0 v1 v2 v3 v4 I L = some z → Q (some (.int z.1)) (gKn n, gRf f g, z.2.1, z.2.2) → gW gM (d + 0) 0 0 k_X7_chanceOf 4 [.int v0, .int v1, .int v2, .int v3, .int v4] [] (gKn n, gRf f g, I, L) Q := by
  intro m
  induction m with
  | zero =>
    intro v0 v1 v2 v3 v4 I L hr _
    cases hr
  | succ m ih =>
    intro v0 v1 v2 v3 v4 I L hr hQ
    have hK4 : ∀ v0 v1 v2 v3 v4 I L, r_X7_chanceOf_4 m v0 v1 v2 v3 v4 I L = some z → gW gM (d + 0) 0 0 k_X7_chanceOf 4 [.int v0, .int v1, .int v2, .int v3, .int v4] [] (gKn n, gRf f g, I, L) Q := fun v0 v1 v2 v3 v4 I L hr => ih hr hQ
    unfold r_X7_chanceOf_4 at hr
    refine r_iload rfl rfl ?_
    refine r_const rfl (gcst 5) ?_
    refine r_icmp_ge 29 rfl rfl (fun c7 => ?_) (fun c7 => ?_)
    · rw [if_pos c7] at hr
      refine r_iload rfl rfl ?_
      refine r_iret rfl ?_
      cases hr
      exact hQ
    · rw [if_neg c7] at hr
      refine r_iload rfl rfl ?_
      refine r_iload rfl rfl ?_
      refine r_ishr rfl ?_
      refine r_const rfl (gcst 1) ?_
      refine r_iand rfl ?_
      refine r_if_eq 27 rfl rfl (fun c8 => ?_) (fun c8 => ?_)
      · rw [if_pos c8] at hr
        refine r_iinc (y := (v4 + (nI 1))) [.int v0, .int v1, .int v2, .int v3, .int (v4 + (nI 1))] rfl rfl rfl (ginc _ 1) rfl ?_
        refine r_goto 4 rfl rfl ?_
        exact hK4 _ _ _ _ _ _ _ hr
      · rw [if_neg c8] at hr
        refine r_iload rfl rfl ?_
        refine r_iload rfl rfl ?_
        refine r_iload rfl rfl ?_
        refine r_ishr rfl ?_
        refine r_const rfl (gcst 1) ?_
        refine r_iand rfl ?_
        refine r_if_eq 22 rfl rfl (fun c9 => ?_) (fun c9 => ?_)
        · rw [if_pos c9] at hr
          refine r_const rfl (gcst 10) ?_
          refine r_iload rfl rfl ?_
          refine r_isub rfl ?_
          refine gforget (ls := [.int v0, .int v1, .int v2, .null, .int v4]) ⟨(Or.inl rfl), ⟨(Or.inl rfl), ⟨(Or.inl rfl), ⟨(Or.inr (Or.inl ⟨rfl, _, rfl⟩)), ⟨(Or.inl rfl), trivial⟩⟩⟩⟩⟩ ?_
          exact t_X7_chanceOf_25 hK4 hr hQ
        · rw [if_neg c9] at hr
          refine r_iload rfl rfl ?_
          refine r_goto 25 rfl rfl ?_
          refine gforget (ls := [.int v0, .int v1, .int v2, .null, .int v4]) ⟨(Or.inl rfl), ⟨(Or.inl rfl), ⟨(Or.inl rfl), ⟨(Or.inr (Or.inl ⟨rfl, _, rfl⟩)), ⟨(Or.inl rfl), trivial⟩⟩⟩⟩⟩ ?_
          exact t_X7_chanceOf_25 hK4 hr hQ
def r_X7_chanceOf (I : Nat → Nat → Int32) (L : Nat → Nat → Int64) (a0 : Int32) (a1 : Int32) (a2 : Int32) : Option gRs := (r_X7_chanceOf_4 100 a0 a1 a2 (nI 1) (nI 0) I L)
set_option maxHeartbeats 4000000 in
set_option maxRecDepth 100000 in
theorem s_X7_chanceOf {n f g d : Nat} {Q : gP} {I : Nat → Nat → Int32} {L : Nat → Nat → Int64} {a0 : Int32} {a1 : Int32} {a2 : Int32} {z : gRs}  (hr : r_X7_chanceOf I L a0 a1 a2 = some z) (hQ : Q (some (.int z.1)) (gKn n, gRf f g, z.2.1, z.2.2)) : gR gM (d + 0) 100 [.int a0, .int a1, .int a2] (gKn n, gRf f g, I, L) Q := by
  unfold r_X7_chanceOf at hr
  show gW gM (d + 0) 0 0 k_X7_chanceOf 0 [.int a0, .int a1, .int a2, .null, .null] [] (gKn n, gRf f g, I, L) Q
  refine r_const rfl (gcst 1) ?_
  refine r_istore [.int a0, .int a1, .int a2, .int (nI 1), .null] rfl rfl (Nat.le_of_ble_eq_true rfl) rfl ?_
  refine r_const rfl (gcst 0) ?_
  refine r_istore [.int a0, .int a1, .int a2, .int (nI 1), .int (nI 0)] rfl rfl (Nat.le_of_ble_eq_true rfl) rfl ?_
  exact t_X7_chanceOf_4  hr hQ
def r_X7_tonesWhenOiled (f g : Nat) (I : Nat → Nat → Int32) (L : Nat → Nat → Int64) (a1 : Int32) (a2 : Int32) (a3 : Int32) : Option gRs := ((r_X1_sing (gu2 (i_X4_become I L 19 18) 19 3 (((i_X4_become I L 19 18) 19 3) ||| a3)) (l_X4_become I L 19 18) f 19 a1 a2 53).bind (fun z3 => ((r_X6_toneCount z3.2.1 z3.2.2 53).bind (fun z4 => some (z4.1, z4.2.1, z4.2.2)))))
set_option maxHeartbeats 4000000 in
set_option maxRecDepth 100000 in
theorem s_X7_tonesWhenOiled {n f g d : Nat} {Q : gP} {I : Nat → Nat → Int32} {L : Nat → Nat → Int64} {a1 : Int32} {a2 : Int32} {a3 : Int32} {z : gRs} (hw : gfw f g)  (hr : r_X7_tonesWhenOiled f g I L a1 a2 a3 = some z) (hQ : Q (some (.int z.1)) (gKn n, gRf f g, z.2.1, z.2.2)) : gR gM (d + 3) 101 [.ref 2, .int a1, .int a2, .int a3] (gKn n, gRf f g, I, L) Q := by
  have hfe := hw.f
  have hfd := hw.g
  unfold r_X7_tonesWhenOiled at hr
  show gW gM (d + 3) 0 0 k_X7_tonesWhenOiled 0 [.ref 2, .int a1, .int a2, .int a3] [] (gKn n, gRf f g, I, L) Q
  refine r_aload rfl rfl ?_
  refine r_getR (c := 7) (k := 5) (v := 19) rfl rfl ⟨rfl, rfl⟩ rfl ?_
  refine r_aload rfl rfl ?_
  refine r_getR (c := 7) (k := 4) (v := 18) rfl rfl ⟨rfl, rfl⟩ rfl ?_
  refine r_invv (a := 19) [.ref 18] rfl rfl rfl rfl rfl (Nat.le_of_ble_eq_true rfl) ⟨rfl, rfl⟩ ?_
  refine s_X4_become rfl rfl ?_
  show gW _ _ _ _ _ 5 [.ref 2, .int a1, .int a2, .int a3] [] (gKn n, gRf f g, (i_X4_become I L 19 18), (l_X4_become I L 19 18)) _
  refine r_aload rfl rfl ?_
  refine r_getR (c := 7) (k := 5) (v := 19) rfl rfl ⟨rfl, rfl⟩ rfl ?_
  refine r_dup rfl rfl ?_
  refine r_getI (c := 4) (k := 3) rfl rfl ⟨rfl, rfl⟩ ?_
  refine r_iload rfl rfl ?_
  refine r_ior rfl ?_
  refine r_putI (c := 4) (k := 3) rfl rfl ⟨rfl, rfl⟩ ?_
  refine r_aload rfl rfl ?_
  refine r_getR (c := 7) (k := 2) (v := f) rfl rfl ⟨rfl, rfl⟩ rfl ?_
  refine r_aload rfl rfl ?_
  refine r_getR (c := 7) (k := 5) (v := 19) rfl rfl ⟨rfl, rfl⟩ rfl ?_
  refine r_iload rfl rfl ?_
  refine r_iload rfl rfl ?_
  refine r_aload rfl rfl ?_
  refine r_getR (c := 7) (k := 12) (v := 53) rfl rfl ⟨rfl, rfl⟩ rfl ?_
  obtain ⟨z3, hz3, hr⟩ := gbnd hr
  refine r_invv (a := f) [.ref 19, .int a1, .int a2, .ref 53] rfl rfl (shFen hfe) rfl rfl (Nat.le_of_ble_eq_true rfl) ⟨rfl, rfl⟩ ?_
  refine s_X1_sing hfe rfl rfl hz3 ?_
  show gW _ _ _ _ _ 21 [.ref 2, .int a1, .int a2, .int a3] [] (gKn n, gRf f g, z3.2.1, z3.2.2) _
  refine r_aload rfl rfl ?_
  refine r_getR (c := 7) (k := 12) (v := 53) rfl rfl ⟨rfl, rfl⟩ rfl ?_
  obtain ⟨z4, hz4, hr⟩ := gbnd hr
  refine r_invv (a := 53) [] rfl rfl rfl rfl rfl (Nat.le_of_ble_eq_true rfl) ⟨rfl, rfl⟩ ?_
  refine s_X6_toneCount rfl hz4 ?_
  show gW _ _ _ _ _ 24 [.ref 2, .int a1, .int a2, .int a3] [.int z4.1] (gKn n, gRf f g, z4.2.1, z4.2.2) _
  refine r_iret rfl ?_
  cases hr
  exact hQ
def r_X7_drips_70 (f : Nat) (g : Nat) (K41 : Int32 → Int32 → Int32 → Int32 → Int32 → Int32 → Int32 → Int32 → Int32 → (Nat → Nat → Int32) → (Nat → Nat → Int64) → Option gRs) (v1 : Int32) (v2 : Int32) (v3 : Int32) (v4 : Int32) (v5 : Int32) (v6 : Int32) (v8 : Int32) (v9 : Int32) (s0 : Int32) (s1 : Int32) (I : Nat → Nat → Int32) (L : Nat → Nat → Int64) : Option gRs := (K41 v1 v2 v3 v4 v5 v6 (s0 + s1) v8 (v9 + (nI 1)) I L)
set_option maxHeartbeats 4000000 in
set_option maxRecDepth 100000 in
theorem t_X7_drips_70 {n f g d : Nat} {Q : gP} {z : gRs}  (hw : gfw f g)  {K41 : Int32 → Int32 → Int32 → Int32 → Int32 → Int32 → Int32 → Int32 → Int32 → (Nat → Nat → Int32) → (Nat → Nat → Int64) → Option gRs} (hK41 : ∀ v1 v2 v3 v4 v5 v6 v7 v8 v9 I L, K41 v1 v2 v3 v4 v5 v6 v7 v8 v9 I L = some z → gW gM (d + 4) 0 0 k_X7_drips 41 [.ref 2, .int v1, .int v2, .int v3, .int v4, .int v5, .int v6, .int v7, .int v8, .int v9, .null] [] (gKn n, gRf f g, I, L) Q) {v1 : Int32} {v2 : Int32} {v3 : Int32} {v4 : Int32} {v5 : Int32} {v6 : Int32} {v8 : Int32} {v9 : Int32} {s0 : Int32} {s1 : Int32} {I : Nat → Nat → Int32} {L : Nat → Nat → Int64} (hr : r_X7_drips_70 f g K41 v1 v2 v3 v4 v5 v6 v8 v9 s0 s1 I L = some z) (hQ : Q (some (.int z.1)) (gKn n, gRf f g, z.2.1, z.2.2)) : gW gM (d + 4) 0 0 k_X7_drips 70 [.ref 2, .int v1, .int v2, .int v3, .int v4, .int v5, .int v6, .null, .int v8, .int v9, .null] [.int s1, .int s0] (gKn n, gRf f g, I, L) Q := by
  have hfe := hw.f
  have hfd := hw.g
  unfold r_X7_drips_70 at hr
  refine r_iadd rfl ?_
  refine r_istore [.ref 2, .int v1, .int v2, .int v3, .int v4, .int v5, .int v6, .int (s0 + s1), .int v8, .int v9, .null] rfl rfl (Nat.le_of_ble_eq_true rfl) rfl ?_
  refine r_iinc (y := (v9 + (nI 1))) [.ref 2, .int v1, .int v2, .int v3, .int v4, .int v5, .int v6, .int (s0 + s1), .int v8, .int (v9 + (nI 1)), .null] rfl rfl rfl (ginc _ 1) rfl ?_
  refine r_goto 41 rfl rfl ?_
  exact hK41 _ _ _ _ _ _ _ _ _ _ _ hr
def r_X7_drips_41 (f : Nat) (g : Nat)  : Nat → Int32 → Int32 → Int32 → Int32 → Int32 → Int32 → Int32 → Int32 → Int32 → (Nat → Nat → Int32) → (Nat → Nat → Int64) → Option gRs
  | 0, _, _, _, _, _, _, _, _, _, _, _ => none
  | m + 1, v1, v2, v3, v4, v5, v6, v7, v8, v9, I, L => (if (nI 32) ≤ v9 then ((r_X7_fraction I L v7 v8 v5).bind (fun z35 => some (z35.1, z35.2.1, z35.2.2))) else (if ¬ (v9 &&& (v6 ^^^ (-1 : Int32))) = 0 then (r_X7_drips_41 f g m v1 v2 v3 v4 v5 v6 v7 v8 (v9 + (nI 1)) I L) else ((r_X7_chanceOf I L v9 v6 v4).bind (fun z37 => ((r_X7_tonesWhenOiled f g z37.2.1 z37.2.2 v1 v2 v9).bind (fun z38 => (if v3 < z38.1 then (r_X7_drips_70 f g (r_X7_drips_41 f g m) v1 v2 v3 v4 v5 v6 (v8 + z37.1) v9 v7 (nI 0) z38.2.1 z38.2.2) else (r_X7_drips_70 f g (r_X7_drips_41 f g m) v1 v2 v3 v4 v5 v6 (v8 + z37.1) v9 v7 z37.1 z38.2.1 z38.2.2))))))))
set_option maxHeartbeats 4000000 in
set_option maxRecDepth 100000 in
theorem t_X7_drips_41 {n f g d : Nat} {Q : gP} {z : gRs}  (hw : gfw f g)   : ∀ {m : Nat} {v1 : Int32} {v2 : Int32} {v3 : Int32} {v4 : Int32} {v5 : Int32} {v6 : Int32} {v7 : Int32} {v8 : Int32} {v9 : Int32} {I : Nat → Nat → Int32} {L : Nat → Nat → Int64}, r_X7_drips_41 f g m v1 v2 v3 v4 v5 v6 v7 v8 v9 I L = some z → Q (some (.int z.1)) (gKn n, gRf f g, z.2.1, z.2.2) → gW gM (d + 4) 0 0 k_X7_drips 41 [.ref 2, .int v1, .int v2, .int v3, .int v4, .int v5, .int v6, .int v7, .int v8, .int v9, .null] [] (gKn n, gRf f g, I, L) Q := by
  intro m
  have hfe := hw.f
  have hfd := hw.g
  induction m with
  | zero =>
    intro v1 v2 v3 v4 v5 v6 v7 v8 v9 I L hr _
    cases hr
  | succ m ih =>
    intro v1 v2 v3 v4 v5 v6 v7 v8 v9 I L hr hQ
    have hK41 : ∀ v1 v2 v3 v4 v5 v6 v7 v8 v9 I L, r_X7_drips_41 f g m v1 v2 v3 v4 v5 v6 v7 v8 v9 I L = some z → gW gM (d + 4) 0 0 k_X7_drips 41 [.ref 2, .int v1, .int v2, .int v3, .int v4, .int v5, .int v6, .int v7, .int v8, .int v9, .null] [] (gKn n, gRf f g, I, L) Q := fun v1 v2 v3 v4 v5 v6 v7 v8 v9 I L hr => ih hr hQ
    unfold r_X7_drips_41 at hr
    refine r_iload rfl rfl ?_
    refine r_const rfl (gcst 32) ?_
    refine r_icmp_ge 74 rfl rfl (fun c34 => ?_) (fun c34 => ?_)
    · rw [if_pos c34] at hr
      refine r_iload rfl rfl ?_
      refine r_iload rfl rfl ?_
      refine r_iload rfl rfl ?_
      obtain ⟨z35, hz35, hr⟩ := gbnd hr
      refine r_invs [.int v7, .int v8, .int v5] rfl rfl rfl rfl (Nat.le_of_ble_eq_true rfl) ⟨rfl, rfl⟩ ?_
      refine s_X7_fraction  hz35 ?_
      show gW _ _ _ _ _ 78 [.ref 2, .int v1, .int v2, .int v3, .int v4, .int v5, .int v6, .int v7, .int v8, .int v9, .null] [.int z35.1] (gKn n, gRf f g, z35.2.1, z35.2.2) _
      refine r_iret rfl ?_
      cases hr
      exact hQ
    · rw [if_neg c34] at hr
      refine r_iload rfl rfl ?_
      refine r_iload rfl rfl ?_
      refine r_const rfl (v := -1) (by decide) ?_
      refine r_ixor rfl ?_
      refine r_iand rfl ?_
      refine r_if_ne 72 rfl rfl (fun c36 => ?_) (fun c36 => ?_)
      · rw [if_pos c36] at hr
        refine r_iinc (y := (v9 + (nI 1))) [.ref 2, .int v1, .int v2, .int v3, .int v4, .int v5, .int v6, .int v7, .int v8, .int (v9 + (nI 1)), .null] rfl rfl rfl (ginc _ 1) rfl ?_
        refine r_goto 41 rfl rfl ?_
        exact hK41 _ _ _ _ _ _ _ _ _ _ _ hr
      · rw [if_neg c36] at hr
        refine r_iload rfl rfl ?_
        refine r_iload rfl rfl ?_
        refine r_iload rfl rfl ?_
        obtain ⟨z37, hz37, hr⟩ := gbnd hr
        refine r_invs [.int v9, .int v6, .int v4] rfl rfl rfl rfl (Nat.le_of_ble_eq_true rfl) ⟨rfl, rfl⟩ ?_
        refine s_X7_chanceOf  hz37 ?_
        show gW _ _ _ _ _ 54 [.ref 2, .int v1, .int v2, .int v3, .int v4, .int v5, .int v6, .int v7, .int v8, .int v9, .null] [.int z37.1] (gKn n, gRf f g, z37.2.1, z37.2.2) _
        refine r_istore [.ref 2, .int v1, .int v2, .int v3, .int v4, .int v5, .int v6, .int v7, .int v8, .int v9, .int z37.1] rfl rfl (Nat.le_of_ble_eq_true rfl) rfl ?_
        refine r_iload rfl rfl ?_
        refine r_iload rfl rfl ?_
        refine r_iadd rfl ?_
        refine r_istore [.ref 2, .int v1, .int v2, .int v3, .int v4, .int v5, .int v6, .int v7, .int (v8 + z37.1), .int v9, .int z37.1] rfl rfl (Nat.le_of_ble_eq_true rfl) rfl ?_
        refine r_iload rfl rfl ?_
        refine r_aload rfl rfl ?_
        refine r_iload rfl rfl ?_
        refine r_iload rfl rfl ?_
        refine r_iload rfl rfl ?_
        obtain ⟨z38, hz38, hr⟩ := gbnd hr
        refine r_invv (a := 2) [.int v1, .int v2, .int v9] rfl rfl rfl rfl rfl (Nat.le_of_ble_eq_true rfl) ⟨rfl, rfl⟩ ?_
        refine s_X7_tonesWhenOiled hw  hz38 ?_
        show gW _ _ _ _ _ 65 [.ref 2, .int v1, .int v2, .int v3, .int v4, .int v5, .int v6, .int v7, .int (v8 + z37.1), .int v9, .int z37.1] [.int z38.1, .int v7] (gKn n, gRf f g, z38.2.1, z38.2.2) _
        refine r_iload rfl rfl ?_
        refine r_icmp_gt 69 rfl rfl (fun c39 => ?_) (fun c39 => ?_)
        · rw [if_pos c39] at hr
          refine r_const rfl (gcst 0) ?_
          refine gforget (ls := [.ref 2, .int v1, .int v2, .int v3, .int v4, .int v5, .int v6, .null, .int (v8 + z37.1), .int v9, .null]) ⟨(Or.inl rfl), ⟨(Or.inl rfl), ⟨(Or.inl rfl), ⟨(Or.inl rfl), ⟨(Or.inl rfl), ⟨(Or.inl rfl), ⟨(Or.inl rfl), ⟨(Or.inr (Or.inl ⟨rfl, _, rfl⟩)), ⟨(Or.inl rfl), ⟨(Or.inl rfl), ⟨(Or.inr (Or.inl ⟨rfl, _, rfl⟩)), trivial⟩⟩⟩⟩⟩⟩⟩⟩⟩⟩⟩ ?_
          exact t_X7_drips_70 hw hK41 hr hQ
        · rw [if_neg c39] at hr
          refine r_iload rfl rfl ?_
          refine r_goto 70 rfl rfl ?_
          refine gforget (ls := [.ref 2, .int v1, .int v2, .int v3, .int v4, .int v5, .int v6, .null, .int (v8 + z37.1), .int v9, .null]) ⟨(Or.inl rfl), ⟨(Or.inl rfl), ⟨(Or.inl rfl), ⟨(Or.inl rfl), ⟨(Or.inl rfl), ⟨(Or.inl rfl), ⟨(Or.inl rfl), ⟨(Or.inr (Or.inl ⟨rfl, _, rfl⟩)), ⟨(Or.inl rfl), ⟨(Or.inl rfl), ⟨(Or.inr (Or.inl ⟨rfl, _, rfl⟩)), trivial⟩⟩⟩⟩⟩⟩⟩⟩⟩⟩⟩ ?_
          exact t_X7_drips_70 hw hK41 hr hQ
def r_X7_drips_22 (f : Nat) (g : Nat)   (I : Nat → Nat → Int32) (L : Nat → Nat → Int64) : Option gRs := some ((-2 : Int32), I, L)
set_option maxHeartbeats 4000000 in
set_option maxRecDepth 100000 in
theorem t_X7_drips_22 {n f g d : Nat} {Q : gP} {z : gRs}  (hw : gfw f g)    {I : Nat → Nat → Int32} {L : Nat → Nat → Int64} (hr : r_X7_drips_22 f g I L = some z) (hQ : Q (some (.int z.1)) (gKn n, gRf f g, z.2.1, z.2.2)) : gW gM (d + 4) 0 0 k_X7_drips 22 [.null, .null, .null, .null, .null, .null, .null, .null, .null, .null, .null] [] (gKn n, gRf f g, I, L) Q := by
  have hfe := hw.f
  have hfd := hw.g
  unfold r_X7_drips_22 at hr
  refine r_const rfl (v := -2) (by decide) ?_
  refine r_iret rfl ?_
  cases hr
  exact hQ
def r_X7_drips_10 (f : Nat) (g : Nat)   (I : Nat → Nat → Int32) (L : Nat → Nat → Int64) : Option gRs := some ((-1 : Int32), I, L)
set_option maxHeartbeats 4000000 in
set_option maxRecDepth 100000 in
theorem t_X7_drips_10 {n f g d : Nat} {Q : gP} {z : gRs}  (hw : gfw f g)    {I : Nat → Nat → Int32} {L : Nat → Nat → Int64} (hr : r_X7_drips_10 f g I L = some z) (hQ : Q (some (.int z.1)) (gKn n, gRf f g, z.2.1, z.2.2)) : gW gM (d + 4) 0 0 k_X7_drips 10 [.null, .null, .null, .null, .null, .null, .null, .null, .null, .null, .null] [] (gKn n, gRf f g, I, L) Q := by
  have hfe := hw.f
  have hfd := hw.g
  unfold r_X7_drips_10 at hr
  refine r_const rfl (v := -1) (by decide) ?_
  refine r_iret rfl ?_
  cases hr
  exact hQ
def r_X7_drips (f g : Nat) (I : Nat → Nat → Int32) (L : Nat → Nat → Int64) (a1 : Int32) (a2 : Int32) (a3 : Int32) (a4 : Int32) (a5 : Int32) : Option gRs := (if (f_X1_isBeast I L f a1) = 0 then (r_X7_drips_10 f g I L) else (if ¬ (f_X1_isLane I L f a2) = 0 then (if a3 < 0 then (r_X7_drips_22 f g I L) else (if (nI 12) < a3 then (r_X7_drips_22 f g I L) else (if a4 < 0 then (r_X7_drips_22 f g I L) else (if a4 ≤ (nI 10) then ((r_X1_gatesOf I L f a2).bind (fun z46 => (r_X7_drips_41 f g 100 a1 a2 a3 a4 a5 (z46.1 &&& ((z46.2.1 18 3) ^^^ (-1 : Int32))) (nI 0) (nI 0) (nI 0) z46.2.1 z46.2.2))) else (r_X7_drips_22 f g I L))))) else (r_X7_drips_10 f g I L)))
set_option maxHeartbeats 4000000 in
set_option maxRecDepth 100000 in
theorem s_X7_drips {n f g d : Nat} {Q : gP} {I : Nat → Nat → Int32} {L : Nat → Nat → Int64} {a1 : Int32} {a2 : Int32} {a3 : Int32} {a4 : Int32} {a5 : Int32} {z : gRs} (hw : gfw f g)  (hr : r_X7_drips f g I L a1 a2 a3 a4 a5 = some z) (hQ : Q (some (.int z.1)) (gKn n, gRf f g, z.2.1, z.2.2)) : gR gM (d + 4) 84 [.ref 2, .int a1, .int a2, .int a3, .int a4, .int a5] (gKn n, gRf f g, I, L) Q := by
  have hfe := hw.f
  have hfd := hw.g
  unfold r_X7_drips at hr
  show gW gM (d + 4) 0 0 k_X7_drips 0 [.ref 2, .int a1, .int a2, .int a3, .int a4, .int a5, .null, .null, .null, .null, .null] [] (gKn n, gRf f g, I, L) Q
  refine r_aload rfl rfl ?_
  refine r_getR (c := 7) (k := 2) (v := f) rfl rfl ⟨rfl, rfl⟩ rfl ?_
  refine r_iload rfl rfl ?_
  refine r_invv (a := f) [.int a1] rfl rfl (shFen hfe) rfl rfl (Nat.le_of_ble_eq_true rfl) ⟨rfl, rfl⟩ ?_
  refine s_X1_isBeast hfe ?_
  show gW _ _ _ _ _ 4 [.ref 2, .int a1, .int a2, .int a3, .int a4, .int a5, .null, .null, .null, .null, .null] [.int (f_X1_isBeast I L f a1)] (gKn n, gRf f g, I, L) _
  refine r_if_eq 10 rfl rfl (fun c40 => ?_) (fun c40 => ?_)
  · rw [if_pos c40] at hr
    refine gforget (ls := [.null, .null, .null, .null, .null, .null, .null, .null, .null, .null, .null]) ⟨(Or.inr (Or.inr ⟨rfl, _, rfl⟩)), ⟨(Or.inr (Or.inl ⟨rfl, _, rfl⟩)), ⟨(Or.inr (Or.inl ⟨rfl, _, rfl⟩)), ⟨(Or.inr (Or.inl ⟨rfl, _, rfl⟩)), ⟨(Or.inr (Or.inl ⟨rfl, _, rfl⟩)), ⟨(Or.inr (Or.inl ⟨rfl, _, rfl⟩)), ⟨(Or.inl rfl), ⟨(Or.inl rfl), ⟨(Or.inl rfl), ⟨(Or.inl rfl), ⟨(Or.inl rfl), trivial⟩⟩⟩⟩⟩⟩⟩⟩⟩⟩⟩ ?_
    exact t_X7_drips_10 hw hr hQ
  · rw [if_neg c40] at hr
    refine r_aload rfl rfl ?_
    refine r_getR (c := 7) (k := 2) (v := f) rfl rfl ⟨rfl, rfl⟩ rfl ?_
    refine r_iload rfl rfl ?_
    refine r_invv (a := f) [.int a2] rfl rfl (shFen hfe) rfl rfl (Nat.le_of_ble_eq_true rfl) ⟨rfl, rfl⟩ ?_
    refine s_X1_isLane hfe ?_
    show gW _ _ _ _ _ 9 [.ref 2, .int a1, .int a2, .int a3, .int a4, .int a5, .null, .null, .null, .null, .null] [.int (f_X1_isLane I L f a2)] (gKn n, gRf f g, I, L) _
    refine r_if_ne 12 rfl rfl (fun c41 => ?_) (fun c41 => ?_)
    · rw [if_pos c41] at hr
      refine r_iload rfl rfl ?_
      refine r_if_lt 22 rfl rfl (fun c42 => ?_) (fun c42 => ?_)
      · rw [if_pos c42] at hr
        refine gforget (ls := [.null, .null, .null, .null, .null, .null, .null, .null, .null, .null, .null]) ⟨(Or.inr (Or.inr ⟨rfl, _, rfl⟩)), ⟨(Or.inr (Or.inl ⟨rfl, _, rfl⟩)), ⟨(Or.inr (Or.inl ⟨rfl, _, rfl⟩)), ⟨(Or.inr (Or.inl ⟨rfl, _, rfl⟩)), ⟨(Or.inr (Or.inl ⟨rfl, _, rfl⟩)), ⟨(Or.inr (Or.inl ⟨rfl, _, rfl⟩)), ⟨(Or.inl rfl), ⟨(Or.inl rfl), ⟨(Or.inl rfl), ⟨(Or.inl rfl), ⟨(Or.inl rfl), trivial⟩⟩⟩⟩⟩⟩⟩⟩⟩⟩⟩ ?_
        exact t_X7_drips_22 hw hr hQ
      · rw [if_neg c42] at hr
        refine r_iload rfl rfl ?_
        refine r_const rfl (gcst 12) ?_
        refine r_icmp_gt 22 rfl rfl (fun c43 => ?_) (fun c43 => ?_)
        · rw [if_pos c43] at hr
          refine gforget (ls := [.null, .null, .null, .null, .null, .null, .null, .null, .null, .null, .null]) ⟨(Or.inr (Or.inr ⟨rfl, _, rfl⟩)), ⟨(Or.inr (Or.inl ⟨rfl, _, rfl⟩)), ⟨(Or.inr (Or.inl ⟨rfl, _, rfl⟩)), ⟨(Or.inr (Or.inl ⟨rfl, _, rfl⟩)), ⟨(Or.inr (Or.inl ⟨rfl, _, rfl⟩)), ⟨(Or.inr (Or.inl ⟨rfl, _, rfl⟩)), ⟨(Or.inl rfl), ⟨(Or.inl rfl), ⟨(Or.inl rfl), ⟨(Or.inl rfl), ⟨(Or.inl rfl), trivial⟩⟩⟩⟩⟩⟩⟩⟩⟩⟩⟩ ?_
          exact t_X7_drips_22 hw hr hQ
        · rw [if_neg c43] at hr
          refine r_iload rfl rfl ?_
          refine r_if_lt 22 rfl rfl (fun c44 => ?_) (fun c44 => ?_)
          · rw [if_pos c44] at hr
            refine gforget (ls := [.null, .null, .null, .null, .null, .null, .null, .null, .null, .null, .null]) ⟨(Or.inr (Or.inr ⟨rfl, _, rfl⟩)), ⟨(Or.inr (Or.inl ⟨rfl, _, rfl⟩)), ⟨(Or.inr (Or.inl ⟨rfl, _, rfl⟩)), ⟨(Or.inr (Or.inl ⟨rfl, _, rfl⟩)), ⟨(Or.inr (Or.inl ⟨rfl, _, rfl⟩)), ⟨(Or.inr (Or.inl ⟨rfl, _, rfl⟩)), ⟨(Or.inl rfl), ⟨(Or.inl rfl), ⟨(Or.inl rfl), ⟨(Or.inl rfl), ⟨(Or.inl rfl), trivial⟩⟩⟩⟩⟩⟩⟩⟩⟩⟩⟩ ?_
            exact t_X7_drips_22 hw hr hQ
          · rw [if_neg c44] at hr
            refine r_iload rfl rfl ?_
            refine r_const rfl (gcst 10) ?_
            refine r_icmp_le 24 rfl rfl (fun c45 => ?_) (fun c45 => ?_)
            · rw [if_pos c45] at hr
              refine r_aload rfl rfl ?_
              refine r_getR (c := 7) (k := 2) (v := f) rfl rfl ⟨rfl, rfl⟩ rfl ?_
              refine r_iload rfl rfl ?_
              obtain ⟨z46, hz46, hr⟩ := gbnd hr
              refine r_invv (a := f) [.int a2] rfl rfl (shFen hfe) rfl rfl (Nat.le_of_ble_eq_true rfl) ⟨rfl, rfl⟩ ?_
              refine s_X1_gatesOf hfe hz46 ?_
              show gW _ _ _ _ _ 28 [.ref 2, .int a1, .int a2, .int a3, .int a4, .int a5, .null, .null, .null, .null, .null] [.int z46.1] (gKn n, gRf f g, z46.2.1, z46.2.2) _
              refine r_aload rfl rfl ?_
              refine r_getR (c := 7) (k := 4) (v := 18) rfl rfl ⟨rfl, rfl⟩ rfl ?_
              refine r_getI (c := 4) (k := 3) rfl rfl ⟨rfl, rfl⟩ ?_
              refine r_const rfl (v := -1) (by decide) ?_
              refine r_ixor rfl ?_
              refine r_iand rfl ?_
              refine r_istore [.ref 2, .int a1, .int a2, .int a3, .int a4, .int a5, .int (z46.1 &&& ((z46.2.1 18 3) ^^^ (-1 : Int32))), .null, .null, .null, .null] rfl rfl (Nat.le_of_ble_eq_true rfl) rfl ?_
              refine r_const rfl (gcst 0) ?_
              refine r_istore [.ref 2, .int a1, .int a2, .int a3, .int a4, .int a5, .int (z46.1 &&& ((z46.2.1 18 3) ^^^ (-1 : Int32))), .int (nI 0), .null, .null, .null] rfl rfl (Nat.le_of_ble_eq_true rfl) rfl ?_
              refine r_const rfl (gcst 0) ?_
              refine r_istore [.ref 2, .int a1, .int a2, .int a3, .int a4, .int a5, .int (z46.1 &&& ((z46.2.1 18 3) ^^^ (-1 : Int32))), .int (nI 0), .int (nI 0), .null, .null] rfl rfl (Nat.le_of_ble_eq_true rfl) rfl ?_
              refine r_const rfl (gcst 0) ?_
              refine r_istore [.ref 2, .int a1, .int a2, .int a3, .int a4, .int a5, .int (z46.1 &&& ((z46.2.1 18 3) ^^^ (-1 : Int32))), .int (nI 0), .int (nI 0), .int (nI 0), .null] rfl rfl (Nat.le_of_ble_eq_true rfl) rfl ?_
              exact t_X7_drips_41 hw hr hQ
            · rw [if_neg c45] at hr
              refine gforget (ls := [.null, .null, .null, .null, .null, .null, .null, .null, .null, .null, .null]) ⟨(Or.inr (Or.inr ⟨rfl, _, rfl⟩)), ⟨(Or.inr (Or.inl ⟨rfl, _, rfl⟩)), ⟨(Or.inr (Or.inl ⟨rfl, _, rfl⟩)), ⟨(Or.inr (Or.inl ⟨rfl, _, rfl⟩)), ⟨(Or.inr (Or.inl ⟨rfl, _, rfl⟩)), ⟨(Or.inr (Or.inl ⟨rfl, _, rfl⟩)), ⟨(Or.inl rfl), ⟨(Or.inl rfl), ⟨(Or.inl rfl), ⟨(Or.inl rfl), ⟨(Or.inl rfl), trivial⟩⟩⟩⟩⟩⟩⟩⟩⟩⟩⟩ ?_
              exact t_X7_drips_22 hw hr hQ
    · rw [if_neg c41] at hr
      refine gforget (ls := [.null, .null, .null, .null, .null, .null, .null, .null, .null, .null, .null]) ⟨(Or.inr (Or.inr ⟨rfl, _, rfl⟩)), ⟨(Or.inr (Or.inl ⟨rfl, _, rfl⟩)), ⟨(Or.inr (Or.inl ⟨rfl, _, rfl⟩)), ⟨(Or.inr (Or.inl ⟨rfl, _, rfl⟩)), ⟨(Or.inr (Or.inl ⟨rfl, _, rfl⟩)), ⟨(Or.inr (Or.inl ⟨rfl, _, rfl⟩)), ⟨(Or.inl rfl), ⟨(Or.inl rfl), ⟨(Or.inl rfl), ⟨(Or.inl rfl), ⟨(Or.inl rfl), trivial⟩⟩⟩⟩⟩⟩⟩⟩⟩⟩⟩ ?_
      exact t_X7_drips_10 hw hr hQ
def f_X7_seed (f g : Nat) (I : Nat → Nat → Int32) (L : Nat → Nat → Int64) (a1 : Int64) : Int64 := (L 2 14)
def l_X7_seed (f g : Nat) (I : Nat → Nat → Int32) (L : Nat → Nat → Int64) (a1 : Int64) : Nat → Nat → Int64 := (gu2 L 2 14 a1)
set_option maxHeartbeats 4000000 in
set_option maxRecDepth 100000 in
theorem s_X7_seed {n f g d : Nat} {Q : gP} {I : Nat → Nat → Int32} {L : Nat → Nat → Int64} {a1 : Int64} (hw : gfw f g)  (hQ : Q (some (.long (f_X7_seed f g I L a1))) (gKn n, gRf f g, I, l_X7_seed f g I L a1)) : gR gM (d + 0) 85 [.ref 2, .long a1] (gKn n, gRf f g, I, L) Q := by
  unfold f_X7_seed l_X7_seed at hQ
  show gW gM (d + 0) 0 0 k_X7_seed 0 [.ref 2, .long a1, .null, .null, .null] [] (gKn n, gRf f g, I, L) Q
  refine r_aload rfl rfl ?_
  refine r_getL (c := 7) (k := 14) rfl rfl ⟨rfl, rfl⟩ ?_
  refine r_lstore [.ref 2, .long a1, .null, .long (L 2 14), .null] rfl rfl (Nat.le_of_ble_eq_true rfl) rfl ?_
  refine r_aload rfl rfl ?_
  refine r_lload rfl rfl ?_
  refine r_putL (c := 7) (k := 14) rfl rfl ⟨rfl, rfl⟩ ?_
  refine r_lload rfl rfl ?_
  refine r_lret rfl ?_
  first | exact hQ | simpa only [if_true] using hQ
def r_X7_doChance_35 (f : Nat) (g : Nat) (a1 : Nat)   (I : Nat → Nat → Int32) (L : Nat → Nat → Int64) : Option gRs := some ((nI 0), I, L)
set_option maxHeartbeats 4000000 in
set_option maxRecDepth 100000 in
theorem t_X7_doChance_35 {n f g d : Nat} {Q : gP} {z : gRs} {a1 : Nat} (hw : gfw f g) (h1 : gmo a1 = true)   {I : Nat → Nat → Int32} {L : Nat → Nat → Int64} (hr : r_X7_doChance_35 f g a1 I L = some z) (hQ : Q (some (.int z.1)) (gKn n, gRf f g, z.2.1, z.2.2)) : gW gM (d + 5) 0 0 k_X7_doChance 35 [.null, .null, .null] [] (gKn n, gRf f g, I, L) Q := by
  have hfe := hw.f
  have hfd := hw.g
  unfold r_X7_doChance_35 at hr
  refine r_const rfl (gcst 0) ?_
  refine r_iret rfl ?_
  cases hr
  exact hQ
def r_X7_doChance (f g : Nat) (I : Nat → Nat → Int32) (L : Nat → Nat → Int64) (a1 : Nat) (a2 : Int32) : Option gRs := (if ¬ a2 = (nI 20) then (if a2 < (nI 15) then ((r_X7_goesHome f g I L a1 (a2 / (nI 3)) (grem a2 (nI 3))).bind (fun z13 => (if z13.1 = 0 then (r_X7_doChance_35 f g a1 z13.2.1 z13.2.2) else ((r_X6_toneCount z13.2.1 z13.2.2 53).bind (fun z15 => some (z15.1, z15.2.1, z15.2.2)))))) else (r_X7_doChance_35 f g a1 (i_X7_turnsOut f g I L a1 (a2 - (nI 15))) L)) else (r_X7_doChance_35 f g a1 (gu2 I a1 5 ((I a1 5) ^^^ (nI 1))) L))
set_option maxHeartbeats 4000000 in
set_option maxRecDepth 100000 in
theorem s_X7_doChance {n f g d : Nat} {Q : gP} {I : Nat → Nat → Int32} {L : Nat → Nat → Int64} {a1 : Nat} {a2 : Int32} {z : gRs} (hw : gfw f g) (h1 : gmo a1 = true) (hr : r_X7_doChance f g I L a1 a2 = some z) (hQ : Q (some (.int z.1)) (gKn n, gRf f g, z.2.1, z.2.2)) : gR gM (d + 5) 102 [.ref 2, .ref a1, .int a2] (gKn n, gRf f g, I, L) Q := by
  have hfe := hw.f
  have hfd := hw.g
  unfold r_X7_doChance at hr
  show gW gM (d + 5) 0 0 k_X7_doChance 0 [.ref 2, .ref a1, .int a2] [] (gKn n, gRf f g, I, L) Q
  refine r_iload rfl rfl ?_
  refine r_const rfl (gcst 20) ?_
  refine r_icmp_ne 10 rfl rfl (fun c11 => ?_) (fun c11 => ?_)
  · rw [if_pos c11] at hr
    refine r_iload rfl rfl ?_
    refine r_const rfl (gcst 15) ?_
    refine r_icmp_lt 21 rfl rfl (fun c12 => ?_) (fun c12 => ?_)
    · rw [if_pos c12] at hr
      refine r_aload rfl rfl ?_
      refine r_aload rfl rfl ?_
      refine r_iload rfl rfl ?_
      refine r_const rfl (gcst 3) ?_
      refine r_idiv rfl (nI_ne0 (n := 3) (by decide) (by decide)) ?_
      refine r_iload rfl rfl ?_
      refine r_const rfl (gcst 3) ?_
      refine r_irem rfl (nI_ne0 (n := 3) (by decide) (by decide)) ?_
      obtain ⟨z13, hz13, hr⟩ := gbnd hr
      refine r_invv (a := 2) [.ref a1, .int (a2 / (nI 3)), .int (grem a2 (nI 3))] rfl rfl rfl rfl rfl (Nat.le_of_ble_eq_true rfl) ⟨rfl, rfl⟩ ?_
      refine s_X7_goesHome hw h1 hz13 ?_
      show gW _ _ _ _ _ 30 [.ref 2, .ref a1, .int a2] [.int z13.1] (gKn n, gRf f g, z13.2.1, z13.2.2) _
      refine r_if_eq 35 rfl rfl (fun c14 => ?_) (fun c14 => ?_)
      · rw [if_pos c14] at hr
        refine gforget (ls := [.null, .null, .null]) ⟨(Or.inr (Or.inr ⟨rfl, _, rfl⟩)), ⟨(Or.inr (Or.inr ⟨rfl, _, rfl⟩)), ⟨(Or.inr (Or.inl ⟨rfl, _, rfl⟩)), trivial⟩⟩⟩ ?_
        exact t_X7_doChance_35 hw h1 hr hQ
      · rw [if_neg c14] at hr
        refine r_aload rfl rfl ?_
        refine r_getR (c := 7) (k := 12) (v := 53) rfl rfl ⟨rfl, rfl⟩ rfl ?_
        obtain ⟨z15, hz15, hr⟩ := gbnd hr
        refine r_invv (a := 53) [] rfl rfl rfl rfl rfl (Nat.le_of_ble_eq_true rfl) ⟨rfl, rfl⟩ ?_
        refine s_X6_toneCount rfl hz15 ?_
        show gW _ _ _ _ _ 34 [.ref 2, .ref a1, .int a2] [.int z15.1] (gKn n, gRf f g, z15.2.1, z15.2.2) _
        refine r_iret rfl ?_
        cases hr
        exact hQ
    · rw [if_neg c12] at hr
      refine r_aload rfl rfl ?_
      refine r_aload rfl rfl ?_
      refine r_iload rfl rfl ?_
      refine r_const rfl (gcst 15) ?_
      refine r_isub rfl ?_
      refine r_invv (a := 2) [.ref a1, .int (a2 - (nI 15))] rfl rfl rfl rfl rfl (Nat.le_of_ble_eq_true rfl) ⟨rfl, rfl⟩ ?_
      refine s_X7_turnsOut hw h1 ?_
      show gW _ _ _ _ _ 19 [.ref 2, .ref a1, .int a2] [.int (f_X7_turnsOut f g I L a1 (a2 - (nI 15)))] (gKn n, gRf f g, (i_X7_turnsOut f g I L a1 (a2 - (nI 15))), L) _
      refine r_pop rfl rfl ?_
      refine r_goto 35 rfl rfl ?_
      refine gforget (ls := [.null, .null, .null]) ⟨(Or.inr (Or.inr ⟨rfl, _, rfl⟩)), ⟨(Or.inr (Or.inr ⟨rfl, _, rfl⟩)), ⟨(Or.inr (Or.inl ⟨rfl, _, rfl⟩)), trivial⟩⟩⟩ ?_
      exact t_X7_doChance_35 hw h1 hr hQ
  · rw [if_neg c11] at hr
    refine r_aload rfl rfl ?_
    refine r_dup rfl rfl ?_
    refine r_getI (c := 4) (k := 5) rfl (shMom h1) ⟨rfl, rfl⟩ ?_
    refine r_const rfl (gcst 1) ?_
    refine r_ixor rfl ?_
    refine r_putI (c := 4) (k := 5) rfl (shMom h1) ⟨rfl, rfl⟩ ?_
    refine r_goto 35 rfl rfl ?_
    refine gforget (ls := [.null, .null, .null]) ⟨(Or.inr (Or.inr ⟨rfl, _, rfl⟩)), ⟨(Or.inr (Or.inr ⟨rfl, _, rfl⟩)), ⟨(Or.inr (Or.inl ⟨rfl, _, rfl⟩)), trivial⟩⟩⟩ ?_
    exact t_X7_doChance_35 hw h1 hr hQ
def r_X7_winters_17 (f : Nat) (g : Nat)  : Nat → Int32 → Int32 → Int32 → (Nat → Nat → Int32) → (Nat → Nat → Int64) → Option gRs
  | 0, _, _, _, _, _ => none
  | m + 1, v1, v2, v3, I, L => (if v1 ≤ v3 then some (v2, I, L) else ((r_X7_doChance f g I (gu2 L 2 14 (((L 2 14) * (lN 6364136223846793005)) + (lN 1442695040888963407))) 19 (Int64.toInt32 (gremL (glushr ((gu2 L 2 14 (((L 2 14) * (lN 6364136223846793005)) + (lN 1442695040888963407))) 2 14) (nI 33)) (lN 21)))).bind (fun z8 => (r_X7_winters_17 f g m v1 (v2 + z8.1) (v3 + (nI 1)) z8.2.1 z8.2.2))))
set_option maxHeartbeats 4000000 in
set_option maxRecDepth 100000 in
theorem t_X7_winters_17 {n f g d : Nat} {Q : gP} {z : gRs}  (hw : gfw f g)   : ∀ {m : Nat} {v1 : Int32} {v2 : Int32} {v3 : Int32} {I : Nat → Nat → Int32} {L : Nat → Nat → Int64}, r_X7_winters_17 f g m v1 v2 v3 I L = some z → Q (some (.int z.1)) (gKn n, gRf f g, z.2.1, z.2.2) → gW gM (d + 6) 0 0 k_X7_winters 17 [.ref 2, .int v1, .int v2, .int v3] [] (gKn n, gRf f g, I, L) Q := by
  intro m
  have hfe := hw.f
  have hfd := hw.g
  induction m with
  | zero =>
    intro v1 v2 v3 I L hr _
    cases hr
  | succ m ih =>
    intro v1 v2 v3 I L hr hQ
    have hK17 : ∀ v1 v2 v3 I L, r_X7_winters_17 f g m v1 v2 v3 I L = some z → gW gM (d + 6) 0 0 k_X7_winters 17 [.ref 2, .int v1, .int v2, .int v3] [] (gKn n, gRf f g, I, L) Q := fun v1 v2 v3 I L hr => ih hr hQ
    unfold r_X7_winters_17 at hr
    refine r_iload rfl rfl ?_
    refine r_iload rfl rfl ?_
    refine r_icmp_ge 44 rfl rfl (fun c7 => ?_) (fun c7 => ?_)
    · rw [if_pos c7] at hr
      refine r_iload rfl rfl ?_
      refine r_iret rfl ?_
      cases hr
      exact hQ
    · rw [if_neg c7] at hr
      refine r_aload rfl rfl ?_
      refine r_aload rfl rfl ?_
      refine r_getL (c := 7) (k := 14) rfl rfl ⟨rfl, rfl⟩ ?_
      refine r_lconst (v := lN 6364136223846793005) rfl rfl ?_
      refine r_lmul rfl ?_
      refine r_lconst (v := lN 1442695040888963407) rfl rfl ?_
      refine r_ladd rfl ?_
      refine r_putL (c := 7) (k := 14) rfl rfl ⟨rfl, rfl⟩ ?_
      refine r_iload rfl rfl ?_
      refine r_aload rfl rfl ?_
      refine r_aload rfl rfl ?_
      refine r_getR (c := 7) (k := 5) (v := 19) rfl rfl ⟨rfl, rfl⟩ rfl ?_
      refine r_aload rfl rfl ?_
      refine r_getL (c := 7) (k := 14) rfl rfl ⟨rfl, rfl⟩ ?_
      refine r_const rfl (gcst 33) ?_
      refine r_lushr rfl ?_
      refine r_lconst (v := lN 21) rfl rfl ?_
      refine r_lrem rfl (by decide) ?_
      refine r_l2i rfl ?_
      obtain ⟨z8, hz8, hr⟩ := gbnd hr
      refine r_invv (a := 2) [.ref 19, .int (Int64.toInt32 (gremL (glushr ((gu2 L 2 14 (((L 2 14) * (lN 6364136223846793005)) + (lN 1442695040888963407))) 2 14) (nI 33)) (lN 21)))] rfl rfl rfl rfl rfl (Nat.le_of_ble_eq_true rfl) ⟨rfl, rfl⟩ ?_
      refine s_X7_doChance hw rfl hz8 ?_
      show gW _ _ _ _ _ 40 [.ref 2, .int v1, .int v2, .int v3] [.int z8.1, .int v2] (gKn n, gRf f g, z8.2.1, z8.2.2) _
      refine r_iadd rfl ?_
      refine r_istore [.ref 2, .int v1, .int (v2 + z8.1), .int v3] rfl rfl (Nat.le_of_ble_eq_true rfl) rfl ?_
      refine r_iinc (y := (v3 + (nI 1))) [.ref 2, .int v1, .int (v2 + z8.1), .int (v3 + (nI 1))] rfl rfl rfl (ginc _ 1) rfl ?_
      refine r_goto 17 rfl rfl ?_
      exact hK17 _ _ _ _ _ hr
def r_X7_winters_6 (f : Nat) (g : Nat)   (I : Nat → Nat → Int32) (L : Nat → Nat → Int64) : Option gRs := some ((-2 : Int32), I, L)
set_option maxHeartbeats 4000000 in
set_option maxRecDepth 100000 in
theorem t_X7_winters_6 {n f g d : Nat} {Q : gP} {z : gRs}  (hw : gfw f g)    {I : Nat → Nat → Int32} {L : Nat → Nat → Int64} (hr : r_X7_winters_6 f g I L = some z) (hQ : Q (some (.int z.1)) (gKn n, gRf f g, z.2.1, z.2.2)) : gW gM (d + 6) 0 0 k_X7_winters 6 [.null, .null, .null, .null] [] (gKn n, gRf f g, I, L) Q := by
  have hfe := hw.f
  have hfd := hw.g
  unfold r_X7_winters_6 at hr
  refine r_const rfl (v := -2) (by decide) ?_
  refine r_iret rfl ?_
  cases hr
  exact hQ
def r_X7_winters (f g : Nat) (I : Nat → Nat → Int32) (L : Nat → Nat → Int64) (a1 : Int32) : Option gRs := (if a1 < (nI 1) then (r_X7_winters_6 f g I L) else (if a1 ≤ (nI 30) then (r_X7_winters_17 f g 100 a1 (nI 0) (nI 0) (i_X4_become I L 19 18) (l_X4_become I L 19 18)) else (r_X7_winters_6 f g I L)))
set_option maxHeartbeats 4000000 in
set_option maxRecDepth 100000 in
theorem s_X7_winters {n f g d : Nat} {Q : gP} {I : Nat → Nat → Int32} {L : Nat → Nat → Int64} {a1 : Int32} {z : gRs} (hw : gfw f g)  (hr : r_X7_winters f g I L a1 = some z) (hQ : Q (some (.int z.1)) (gKn n, gRf f g, z.2.1, z.2.2)) : gR gM (d + 6) 86 [.ref 2, .int a1] (gKn n, gRf f g, I, L) Q := by
  have hfe := hw.f
  have hfd := hw.g
  unfold r_X7_winters at hr
  show gW gM (d + 6) 0 0 k_X7_winters 0 [.ref 2, .int a1, .null, .null] [] (gKn n, gRf f g, I, L) Q
  refine r_iload rfl rfl ?_
  refine r_const rfl (gcst 1) ?_
  refine r_icmp_lt 6 rfl rfl (fun c9 => ?_) (fun c9 => ?_)
  · rw [if_pos c9] at hr
    refine gforget (ls := [.null, .null, .null, .null]) ⟨(Or.inr (Or.inr ⟨rfl, _, rfl⟩)), ⟨(Or.inr (Or.inl ⟨rfl, _, rfl⟩)), ⟨(Or.inl rfl), ⟨(Or.inl rfl), trivial⟩⟩⟩⟩ ?_
    exact t_X7_winters_6 hw hr hQ
  · rw [if_neg c9] at hr
    refine r_iload rfl rfl ?_
    refine r_const rfl (gcst 30) ?_
    refine r_icmp_le 8 rfl rfl (fun c10 => ?_) (fun c10 => ?_)
    · rw [if_pos c10] at hr
      refine r_aload rfl rfl ?_
      refine r_getR (c := 7) (k := 5) (v := 19) rfl rfl ⟨rfl, rfl⟩ rfl ?_
      refine r_aload rfl rfl ?_
      refine r_getR (c := 7) (k := 4) (v := 18) rfl rfl ⟨rfl, rfl⟩ rfl ?_
      refine r_invv (a := 19) [.ref 18] rfl rfl rfl rfl rfl (Nat.le_of_ble_eq_true rfl) ⟨rfl, rfl⟩ ?_
      refine s_X4_become rfl rfl ?_
      show gW _ _ _ _ _ 13 [.ref 2, .int a1, .null, .null] [] (gKn n, gRf f g, (i_X4_become I L 19 18), (l_X4_become I L 19 18)) _
      refine r_const rfl (gcst 0) ?_
      refine r_istore [.ref 2, .int a1, .int (nI 0), .null] rfl rfl (Nat.le_of_ble_eq_true rfl) rfl ?_
      refine r_const rfl (gcst 0) ?_
      refine r_istore [.ref 2, .int a1, .int (nI 0), .int (nI 0)] rfl rfl (Nat.le_of_ble_eq_true rfl) rfl ?_
      exact t_X7_winters_17 hw hr hQ
    · rw [if_neg c10] at hr
      refine gforget (ls := [.null, .null, .null, .null]) ⟨(Or.inr (Or.inr ⟨rfl, _, rfl⟩)), ⟨(Or.inr (Or.inl ⟨rfl, _, rfl⟩)), ⟨(Or.inl rfl), ⟨(Or.inl rfl), trivial⟩⟩⟩⟩ ?_
      exact t_X7_winters_6 hw hr hQ
def f_X7_isSlot (I : Nat → Nat → Int32) (L : Nat → Nat → Int64) (a0 : Int32) : Int32 := (if a0 < 0 then (nI 0) else (if (nI 2) ≤ a0 then (nI 0) else (nI 1)))
set_option maxHeartbeats 4000000 in
set_option maxRecDepth 100000 in
theorem s_X7_isSlot {n f g d : Nat} {Q : gP} {I : Nat → Nat → Int32} {L : Nat → Nat → Int64} {a0 : Int32}  (hQ : Q (some (.int (f_X7_isSlot I L a0))) (gKn n, gRf f g, I, L)) : gR gM (d + 0) 90 [.int a0] (gKn n, gRf f g, I, L) Q := by
  unfold f_X7_isSlot at hQ
  show gW gM (d + 0) 0 0 k_X7_isSlot 0 [.int a0] [] (gKn n, gRf f g, I, L) Q
  refine r_iload rfl rfl ?_
  have j3 : gW gM (d + 0) 0 0 k_X7_isSlot 8 [.int a0] [.int (if a0 < 0 then (nI 0) else (if (nI 2) ≤ a0 then (nI 0) else (nI 1)))] (gKn n, gRf f g, I, L) Q := by
    refine r_zret rfl (by split <;> (try split) <;> (try split) <;> decide) ?_
    first | exact hQ | simpa only [if_true] using hQ
  refine r_if_lt 7 rfl rfl (fun c1 => ?_) (fun c1 => ?_)
  · try simp only [if_pos c1] at hQ
    refine r_const rfl (gcst 0) ?_
    simpa only [if_pos c1] using j3
  · try simp only [if_neg c1] at hQ
    refine r_iload rfl rfl ?_
    refine r_const rfl (gcst 2) ?_
    refine r_icmp_ge 7 rfl rfl (fun c2 => ?_) (fun c2 => ?_)
    · try simp only [if_pos c2] at hQ
      refine r_const rfl (gcst 0) ?_
      simpa only [if_neg c1, if_pos c2] using j3
    · try simp only [if_neg c2] at hQ
      refine r_const rfl (gcst 1) ?_
      refine r_goto 8 rfl rfl ?_
      simpa only [if_neg c1, if_neg c2] using j3
def r_X7_keep (f g : Nat) (I : Nat → Nat → Int32) (L : Nat → Nat → Int64) (a1 : Int32) : Option gRs := (if ¬ (f_X7_isSlot I L a1) = 0 then (if gvp a1 2 = true then (if gvp a1 2 = true then some ((f_X4_homeCount (gu2 (i_X4_become I L (37 + gx a1) 18) 39 (gx a1) (nI 1)) (l_X4_become I L (37 + gx a1) 18) 18), (gu2 (i_X4_become I L (37 + gx a1) 18) 39 (gx a1) (nI 1)), (l_X4_become I L (37 + gx a1) 18)) else none) else none) else some ((-1 : Int32), I, L))
set_option maxHeartbeats 4000000 in
set_option maxRecDepth 100000 in
theorem s_X7_keep {n f g d : Nat} {Q : gP} {I : Nat → Nat → Int32} {L : Nat → Nat → Int64} {a1 : Int32} {z : gRs} (hw : gfw f g)  (hr : r_X7_keep f g I L a1 = some z) (hQ : Q (some (.int z.1)) (gKn n, gRf f g, z.2.1, z.2.2)) : gR gM (d + 2) 87 [.ref 2, .int a1] (gKn n, gRf f g, I, L) Q := by
  have hfe := hw.f
  have hfd := hw.g
  unfold r_X7_keep at hr
  show gW gM (d + 2) 0 0 k_X7_keep 0 [.ref 2, .int a1] [] (gKn n, gRf f g, I, L) Q
  refine r_iload rfl rfl ?_
  refine r_invs [.int a1] rfl rfl rfl rfl (Nat.le_of_ble_eq_true rfl) ⟨rfl, rfl⟩ ?_
  refine s_X7_isSlot  ?_
  show gW _ _ _ _ _ 2 [.ref 2, .int a1] [.int (f_X7_isSlot I L a1)] (gKn n, gRf f g, I, L) _
  refine r_if_ne 5 rfl rfl (fun c4 => ?_) (fun c4 => ?_)
  · rw [if_pos c4] at hr
    refine r_aload rfl rfl ?_
    refine r_getR (c := 7) (k := 7) (v := 36) rfl rfl ⟨rfl, rfl⟩ rfl ?_
    refine r_iload rfl rfl ?_
    obtain ⟨b5, hr⟩ := gopt hr
    refine r_aaload (n := 2) (v := (37 + gx a1)) rfl rfl (gvp_in b5) (rfKept (gvp_in b5)) ?_
    refine r_aload rfl rfl ?_
    refine r_getR (c := 7) (k := 4) (v := 18) rfl rfl ⟨rfl, rfl⟩ rfl ?_
    refine r_invv (a := (37 + gx a1)) [.ref 18] rfl rfl (shMom (moKept (gvp_in b5))) rfl rfl (Nat.le_of_ble_eq_true rfl) ⟨rfl, rfl⟩ ?_
    refine s_X4_become (moKept (gvp_in b5)) rfl ?_
    show gW _ _ _ _ _ 12 [.ref 2, .int a1] [] (gKn n, gRf f g, (i_X4_become I L (37 + gx a1) 18), (l_X4_become I L (37 + gx a1) 18)) _
    refine r_aload rfl rfl ?_
    refine r_getR (c := 7) (k := 8) (v := 39) rfl rfl ⟨rfl, rfl⟩ rfl ?_
    refine r_iload rfl rfl ?_
    refine r_const rfl (gcst 1) ?_
    obtain ⟨b6, hr⟩ := gopt hr
    refine r_bastore (n := 2) rfl rfl (gvp_in b6) (Or.inr rfl) ?_
    refine r_aload rfl rfl ?_
    refine r_getR (c := 7) (k := 4) (v := 18) rfl rfl ⟨rfl, rfl⟩ rfl ?_
    refine r_invv (a := 18) [] rfl rfl rfl rfl rfl (Nat.le_of_ble_eq_true rfl) ⟨rfl, rfl⟩ ?_
    refine s_X4_homeCount rfl ?_
    show gW _ _ _ _ _ 20 [.ref 2, .int a1] [.int (f_X4_homeCount (gu2 (i_X4_become I L (37 + gx a1) 18) 39 (gx a1) (nI 1)) (l_X4_become I L (37 + gx a1) 18) 18)] (gKn n, gRf f g, (gu2 (i_X4_become I L (37 + gx a1) 18) 39 (gx a1) (nI 1)), (l_X4_become I L (37 + gx a1) 18)) _
    refine r_iret rfl ?_
    cases hr
    exact hQ
  · rw [if_neg c4] at hr
    refine r_const rfl (v := -1) (by decide) ?_
    refine r_iret rfl ?_
    cases hr
    exact hQ
def r_X7_again (f g : Nat) (I : Nat → Nat → Int32) (L : Nat → Nat → Int64) (a1 : Int32) : Option gRs := (if ¬ (f_X7_isSlot I L a1) = 0 then (if gvp a1 2 = true then (if ¬ (I 39 (gx a1)) = 0 then (if gvp a1 2 = true then some ((f_X4_homeCount (i_X0_forgetAll (i_X4_become I L 18 (37 + gx a1)) (l_X4_become I L 18 (37 + gx a1))) (l_X4_become I L 18 (37 + gx a1)) 18), (i_X0_forgetAll (i_X4_become I L 18 (37 + gx a1)) (l_X4_become I L 18 (37 + gx a1))), (l_X4_become I L 18 (37 + gx a1))) else none) else some ((-3 : Int32), I, L)) else none) else some ((-1 : Int32), I, L))
set_option maxHeartbeats 4000000 in
set_option maxRecDepth 100000 in
theorem s_X7_again {n f g d : Nat} {Q : gP} {I : Nat → Nat → Int32} {L : Nat → Nat → Int64} {a1 : Int32} {z : gRs} (hw : gfw f g)  (hr : r_X7_again f g I L a1 = some z) (hQ : Q (some (.int z.1)) (gKn n, gRf f g, z.2.1, z.2.2)) : gR gM (d + 2) 88 [.ref 2, .int a1] (gKn n, gRf f g, I, L) Q := by
  have hfe := hw.f
  have hfd := hw.g
  unfold r_X7_again at hr
  show gW gM (d + 2) 0 0 k_X7_again 0 [.ref 2, .int a1] [] (gKn n, gRf f g, I, L) Q
  refine r_iload rfl rfl ?_
  refine r_invs [.int a1] rfl rfl rfl rfl (Nat.le_of_ble_eq_true rfl) ⟨rfl, rfl⟩ ?_
  refine s_X7_isSlot  ?_
  show gW _ _ _ _ _ 2 [.ref 2, .int a1] [.int (f_X7_isSlot I L a1)] (gKn n, gRf f g, I, L) _
  refine r_if_ne 5 rfl rfl (fun c5 => ?_) (fun c5 => ?_)
  · rw [if_pos c5] at hr
    refine r_aload rfl rfl ?_
    refine r_getR (c := 7) (k := 8) (v := 39) rfl rfl ⟨rfl, rfl⟩ rfl ?_
    refine r_iload rfl rfl ?_
    obtain ⟨b6, hr⟩ := gopt hr
    refine r_baload (n := 2) rfl rfl (gvp_in b6) ?_
    refine r_if_ne 12 rfl rfl (fun c7 => ?_) (fun c7 => ?_)
    · rw [if_pos c7] at hr
      refine r_aload rfl rfl ?_
      refine r_getR (c := 7) (k := 4) (v := 18) rfl rfl ⟨rfl, rfl⟩ rfl ?_
      refine r_aload rfl rfl ?_
      refine r_getR (c := 7) (k := 7) (v := 36) rfl rfl ⟨rfl, rfl⟩ rfl ?_
      refine r_iload rfl rfl ?_
      obtain ⟨b8, hr⟩ := gopt hr
      refine r_aaload (n := 2) (v := (37 + gx a1)) rfl rfl (gvp_in b8) (rfKept (gvp_in b8)) ?_
      refine r_invv (a := 18) [.ref (37 + gx a1)] rfl rfl rfl rfl rfl (Nat.le_of_ble_eq_true rfl) ⟨rfl, rfl⟩ ?_
      refine s_X4_become rfl (moKept (gvp_in b8)) ?_
      show gW _ _ _ _ _ 19 [.ref 2, .int a1] [] (gKn n, gRf f g, (i_X4_become I L 18 (37 + gx a1)), (l_X4_become I L 18 (37 + gx a1))) _
      refine r_aload rfl rfl ?_
      refine r_getR (c := 7) (k := 6) (v := 20) rfl rfl ⟨rfl, rfl⟩ rfl ?_
      refine r_invv (a := 20) [] rfl rfl rfl rfl rfl (Nat.le_of_ble_eq_true rfl) ⟨rfl, rfl⟩ ?_
      refine s_X0_forgetAll  ?_
      show gW _ _ _ _ _ 22 [.ref 2, .int a1] [] (gKn n, gRf f g, (i_X0_forgetAll (i_X4_become I L 18 (37 + gx a1)) (l_X4_become I L 18 (37 + gx a1))), (l_X4_become I L 18 (37 + gx a1))) _
      refine r_aload rfl rfl ?_
      refine r_getR (c := 7) (k := 4) (v := 18) rfl rfl ⟨rfl, rfl⟩ rfl ?_
      refine r_invv (a := 18) [] rfl rfl rfl rfl rfl (Nat.le_of_ble_eq_true rfl) ⟨rfl, rfl⟩ ?_
      refine s_X4_homeCount rfl ?_
      show gW _ _ _ _ _ 25 [.ref 2, .int a1] [.int (f_X4_homeCount (i_X0_forgetAll (i_X4_become I L 18 (37 + gx a1)) (l_X4_become I L 18 (37 + gx a1))) (l_X4_become I L 18 (37 + gx a1)) 18)] (gKn n, gRf f g, (i_X0_forgetAll (i_X4_become I L 18 (37 + gx a1)) (l_X4_become I L 18 (37 + gx a1))), (l_X4_become I L 18 (37 + gx a1))) _
      refine r_iret rfl ?_
      cases hr
      exact hQ
    · rw [if_neg c7] at hr
      refine r_const rfl (v := -3) (by decide) ?_
      refine r_iret rfl ?_
      cases hr
      exact hQ
  · rw [if_neg c5] at hr
    refine r_const rfl (v := -1) (by decide) ?_
    refine r_iret rfl ?_
    cases hr
    exact hQ
def f_X7_count (f g : Nat) (I : Nat → Nat → Int32) (L : Nat → Nat → Int64) (a1 : Int32) : Int32 := (if a1 = (nI 0) then (I 2 1) else (if a1 = (nI 1) then (I f 0) else (if a1 = (nI 2) then (I f 1) else (if a1 = (nI 3) then (I f 2) else (if a1 = (nI 4) then (I f 3) else (if a1 = (nI 5) then (I 18 5) else (if a1 = (nI 6) then (I 18 7) else (if a1 = (nI 7) then (I 18 4) else (if a1 = (nI 8) then (I 20 2) else (if a1 = (nI 9) then (I 40 3) else (-2 : Int32)))))))))))
set_option maxHeartbeats 4000000 in
set_option maxRecDepth 100000 in
theorem s_X7_count {n f g d : Nat} {Q : gP} {I : Nat → Nat → Int32} {L : Nat → Nat → Int64} {a1 : Int32} (hw : gfw f g)  (hQ : Q (some (.int (f_X7_count f g I L a1))) (gKn n, gRf f g, I, L)) : gR gM (d + 0) 89 [.ref 2, .int a1] (gKn n, gRf f g, I, L) Q := by
  have hfe := hw.f
  have hfd := hw.g
  unfold f_X7_count at hQ
  show gW gM (d + 0) 0 0 k_X7_count 0 [.ref 2, .int a1] [] (gKn n, gRf f g, I, L) Q
  refine r_iload rfl rfl ?_
  by_cases c1 : a1 = (nI 0)
  · try simp only [if_pos c1] at hQ
    refine r_tsw 2 rfl (by rw [c1]; decide +kernel) ?_
    refine r_aload rfl rfl ?_
    refine r_getI (c := 7) (k := 1) rfl rfl ⟨rfl, rfl⟩ ?_
    refine r_iret rfl ?_
    try simp only [Bool.false_eq_true, if_false] at hQ
    first | exact hQ | simpa only [if_pos c1] using hQ
  · try simp only [if_neg c1] at hQ
    by_cases c2 : a1 = (nI 1)
    · try simp only [if_pos c2] at hQ
      refine r_tsw 5 rfl (by rw [c2]; decide +kernel) ?_
      refine r_aload rfl rfl ?_
      refine r_getR (c := 7) (k := 2) (v := f) rfl rfl ⟨rfl, rfl⟩ rfl ?_
      refine r_getI (c := 1) (k := 0) rfl (shFen hfe) ⟨rfl, rfl⟩ ?_
      refine r_iret rfl ?_
      try simp only [Bool.false_eq_true, if_false] at hQ
      first | exact hQ | simpa only [if_neg c1, if_pos c2] using hQ
    · try simp only [if_neg c2] at hQ
      by_cases c3 : a1 = (nI 2)
      · try simp only [if_pos c3] at hQ
        refine r_tsw 9 rfl (by rw [c3]; decide +kernel) ?_
        refine r_aload rfl rfl ?_
        refine r_getR (c := 7) (k := 2) (v := f) rfl rfl ⟨rfl, rfl⟩ rfl ?_
        refine r_getI (c := 1) (k := 1) rfl (shFen hfe) ⟨rfl, rfl⟩ ?_
        refine r_iret rfl ?_
        try simp only [Bool.false_eq_true, if_false] at hQ
        first | exact hQ | simpa only [if_neg c1, if_neg c2, if_pos c3] using hQ
      · try simp only [if_neg c3] at hQ
        by_cases c4 : a1 = (nI 3)
        · try simp only [if_pos c4] at hQ
          refine r_tsw 13 rfl (by rw [c4]; decide +kernel) ?_
          refine r_aload rfl rfl ?_
          refine r_getR (c := 7) (k := 2) (v := f) rfl rfl ⟨rfl, rfl⟩ rfl ?_
          refine r_getI (c := 1) (k := 2) rfl (shFen hfe) ⟨rfl, rfl⟩ ?_
          refine r_iret rfl ?_
          try simp only [Bool.false_eq_true, if_false] at hQ
          first | exact hQ | simpa only [if_neg c1, if_neg c2, if_neg c3, if_pos c4] using hQ
        · try simp only [if_neg c4] at hQ
          by_cases c5 : a1 = (nI 4)
          · try simp only [if_pos c5] at hQ
            refine r_tsw 17 rfl (by rw [c5]; decide +kernel) ?_
            refine r_aload rfl rfl ?_
            refine r_getR (c := 7) (k := 2) (v := f) rfl rfl ⟨rfl, rfl⟩ rfl ?_
            refine r_getI (c := 1) (k := 3) rfl (shFen hfe) ⟨rfl, rfl⟩ ?_
            refine r_iret rfl ?_
            try simp only [Bool.false_eq_true, if_false] at hQ
            first | exact hQ | simpa only [if_neg c1, if_neg c2, if_neg c3, if_neg c4, if_pos c5] using hQ
          · try simp only [if_neg c5] at hQ
            by_cases c6 : a1 = (nI 5)
            · try simp only [if_pos c6] at hQ
              refine r_tsw 21 rfl (by rw [c6]; decide +kernel) ?_
              refine r_aload rfl rfl ?_
              refine r_getR (c := 7) (k := 4) (v := 18) rfl rfl ⟨rfl, rfl⟩ rfl ?_
              refine r_getI (c := 4) (k := 5) rfl rfl ⟨rfl, rfl⟩ ?_
              refine r_iret rfl ?_
              try simp only [Bool.false_eq_true, if_false] at hQ
              first | exact hQ | simpa only [if_neg c1, if_neg c2, if_neg c3, if_neg c4, if_neg c5, if_pos c6] using hQ
            · try simp only [if_neg c6] at hQ
              by_cases c7 : a1 = (nI 6)
              · try simp only [if_pos c7] at hQ
                refine r_tsw 25 rfl (by rw [c7]; decide +kernel) ?_
                refine r_aload rfl rfl ?_
                refine r_getR (c := 7) (k := 4) (v := 18) rfl rfl ⟨rfl, rfl⟩ rfl ?_
                refine r_getI (c := 4) (k := 7) rfl rfl ⟨rfl, rfl⟩ ?_
                refine r_iret rfl ?_
                try simp only [Bool.false_eq_true, if_false] at hQ
                first | exact hQ | simpa only [if_neg c1, if_neg c2, if_neg c3, if_neg c4, if_neg c5, if_neg c6, if_pos c7] using hQ
              · try simp only [if_neg c7] at hQ
                by_cases c8 : a1 = (nI 7)
                · try simp only [if_pos c8] at hQ
                  refine r_tsw 29 rfl (by rw [c8]; decide +kernel) ?_
                  refine r_aload rfl rfl ?_
                  refine r_getR (c := 7) (k := 4) (v := 18) rfl rfl ⟨rfl, rfl⟩ rfl ?_
                  refine r_getI (c := 4) (k := 4) rfl rfl ⟨rfl, rfl⟩ ?_
                  refine r_iret rfl ?_
                  try simp only [Bool.false_eq_true, if_false] at hQ
                  first | exact hQ | simpa only [if_neg c1, if_neg c2, if_neg c3, if_neg c4, if_neg c5, if_neg c6, if_neg c7, if_pos c8] using hQ
                · try simp only [if_neg c8] at hQ
                  by_cases c9 : a1 = (nI 8)
                  · try simp only [if_pos c9] at hQ
                    refine r_tsw 33 rfl (by rw [c9]; decide +kernel) ?_
                    refine r_aload rfl rfl ?_
                    refine r_getR (c := 7) (k := 6) (v := 20) rfl rfl ⟨rfl, rfl⟩ rfl ?_
                    refine r_getI (c := 0) (k := 2) rfl rfl ⟨rfl, rfl⟩ ?_
                    refine r_iret rfl ?_
                    try simp only [Bool.false_eq_true, if_false] at hQ
                    first | exact hQ | simpa only [if_neg c1, if_neg c2, if_neg c3, if_neg c4, if_neg c5, if_neg c6, if_neg c7, if_neg c8, if_pos c9] using hQ
                  · try simp only [if_neg c9] at hQ
                    by_cases c10 : a1 = (nI 9)
                    · try simp only [if_pos c10] at hQ
                      refine r_tsw 37 rfl (by rw [c10]; decide +kernel) ?_
                      refine r_aload rfl rfl ?_
                      refine r_getR (c := 7) (k := 9) (v := 40) rfl rfl ⟨rfl, rfl⟩ rfl ?_
                      refine r_getI (c := 2) (k := 3) rfl rfl ⟨rfl, rfl⟩ ?_
                      refine r_iret rfl ?_
                      try simp only [Bool.false_eq_true, if_false] at hQ
                      first | exact hQ | simpa only [if_neg c1, if_neg c2, if_neg c3, if_neg c4, if_neg c5, if_neg c6, if_neg c7, if_neg c8, if_neg c9, if_pos c10] using hQ
                    · try simp only [if_neg c10] at hQ
                      refine r_tsw 41 rfl (gtab_df rfl (fun z h1 h2 e => by
                          rcases (by omega : z = 0 ∨ z = 1 ∨ z = 2 ∨ z = 3 ∨ z = 4 ∨ z = 5 ∨ z = 6 ∨ z = 7 ∨ z = 8 ∨ z = 9) with rfl | rfl | rfl | rfl | rfl | rfl | rfl | rfl | rfl | rfl
                          · exact c1 (gI_of_toInt e)
                          · exact c2 (gI_of_toInt e)
                          · exact c3 (gI_of_toInt e)
                          · exact c4 (gI_of_toInt e)
                          · exact c5 (gI_of_toInt e)
                          · exact c6 (gI_of_toInt e)
                          · exact c7 (gI_of_toInt e)
                          · exact c8 (gI_of_toInt e)
                          · exact c9 (gI_of_toInt e)
                          · exact c10 (gI_of_toInt e))) ?_
                      refine r_const rfl (v := -2) (by decide) ?_
                      refine r_iret rfl ?_
                      try simp only [Bool.false_eq_true, if_false] at hQ
                      first | exact hQ | simpa only [if_neg c1, if_neg c2, if_neg c3, if_neg c4, if_neg c5, if_neg c6, if_neg c7, if_neg c8, if_neg c9, if_neg c10] using hQ
def f_X8_in (I : Nat → Nat → Int32) (L : Nat → Nat → Int64) (a0 : Int64) (a1 : Int64) (a2 : Int64) : Int32 := (if (lg_cmp a0 a1) < 0 then (nI 0) else (if 0 < (lg_cmp a0 a2) then (nI 0) else (nI 1)))
set_option maxHeartbeats 4000000 in
set_option maxRecDepth 100000 in
theorem s_X8_in {n f g d : Nat} {Q : gP} {I : Nat → Nat → Int32} {L : Nat → Nat → Int64} {a0 : Int64} {a1 : Int64} {a2 : Int64}  (hQ : Q (some (.int (f_X8_in I L a0 a1 a2))) (gKn n, gRf f g, I, L)) : gR gM (d + 0) 106 [.long a0, .long a1, .long a2] (gKn n, gRf f g, I, L) Q := by
  unfold f_X8_in at hQ
  show gW gM (d + 0) 0 0 k_X8_in 0 [.long a0, .null, .long a1, .null, .long a2, .null] [] (gKn n, gRf f g, I, L) Q
  refine r_lload rfl rfl ?_
  refine r_lload rfl rfl ?_
  refine r_lcmp rfl ?_
  have j3 : gW gM (d + 0) 0 0 k_X8_in 11 [.long a0, .null, .long a1, .null, .long a2, .null] [.int (if (lg_cmp a0 a1) < 0 then (nI 0) else (if 0 < (lg_cmp a0 a2) then (nI 0) else (nI 1)))] (gKn n, gRf f g, I, L) Q := by
    refine r_zret rfl (by split <;> (try split) <;> (try split) <;> decide) ?_
    first | exact hQ | simpa only [if_true] using hQ
  refine r_if_lt 10 rfl rfl (fun c1 => ?_) (fun c1 => ?_)
  · try simp only [if_pos c1] at hQ
    refine r_const rfl (gcst 0) ?_
    simpa only [if_pos c1] using j3
  · try simp only [if_neg c1] at hQ
    refine r_lload rfl rfl ?_
    refine r_lload rfl rfl ?_
    refine r_lcmp rfl ?_
    refine r_if_gt 10 rfl rfl (fun c2 => ?_) (fun c2 => ?_)
    · try simp only [if_pos c2] at hQ
      refine r_const rfl (gcst 0) ?_
      simpa only [if_neg c1, if_pos c2] using j3
    · try simp only [if_neg c2] at hQ
      refine r_const rfl (gcst 1) ?_
      refine r_goto 11 rfl rfl ?_
      simpa only [if_neg c1, if_neg c2] using j3
def f_X8_bit (I : Nat → Nat → Int32) (L : Nat → Nat → Int64) (a0 : Int32) (a1 : Int32) : Int32 := (if ¬ ((gshr a0 a1) &&& (nI 1)) = (nI 1) then (nI 0) else (nI 1))
set_option maxHeartbeats 4000000 in
set_option maxRecDepth 100000 in
theorem s_X8_bit {n f g d : Nat} {Q : gP} {I : Nat → Nat → Int32} {L : Nat → Nat → Int64} {a0 : Int32} {a1 : Int32}  (hQ : Q (some (.int (f_X8_bit I L a0 a1))) (gKn n, gRf f g, I, L)) : gR gM (d + 0) 107 [.int a0, .int a1] (gKn n, gRf f g, I, L) Q := by
  unfold f_X8_bit at hQ
  show gW gM (d + 0) 0 0 k_X8_bit 0 [.int a0, .int a1] [] (gKn n, gRf f g, I, L) Q
  refine r_iload rfl rfl ?_
  refine r_iload rfl rfl ?_
  refine r_ishr rfl ?_
  refine r_const rfl (gcst 1) ?_
  refine r_iand rfl ?_
  refine r_const rfl (gcst 1) ?_
  have j2 : gW gM (d + 0) 0 0 k_X8_bit 10 [.int a0, .int a1] [.int (if ¬ ((gshr a0 a1) &&& (nI 1)) = (nI 1) then (nI 0) else (nI 1))] (gKn n, gRf f g, I, L) Q := by
    refine r_zret rfl (by split <;> (try split) <;> (try split) <;> decide) ?_
    first | exact hQ | simpa only [if_true] using hQ
  refine r_icmp_ne 9 rfl rfl (fun c1 => ?_) (fun c1 => ?_)
  · try simp only [if_pos c1] at hQ
    refine r_const rfl (gcst 0) ?_
    simpa only [if_pos c1] using j2
  · try simp only [if_neg c1] at hQ
    refine r_const rfl (gcst 1) ?_
    refine r_goto 10 rfl rfl ?_
    simpa only [if_neg c1] using j2
def r_X8_ones_4   : Nat → Int32 → Int32 → Int32 → (Nat → Nat → Int32) → (Nat → Nat → Int64) → Option gRs
  | 0, _, _, _, _, _ => none
  | m + 1, v0, v1, v2, I, L => (if (nI 13) ≤ v2 then some (v1, I, L) else (r_X8_ones_4  m v0 (v1 + ((gshr v0 v2) &&& (nI 1))) (v2 + (nI 1)) I L))
set_option maxHeartbeats 4000000 in
set_option maxRecDepth 100000 in
theorem t_X8_ones_4 {n f g d : Nat} {Q : gP} {z : gRs}    : ∀ {m : Nat} {v0 : Int32} {v1 : Int32} {v2 : Int32} {I : Nat → Nat → Int32} {L : Nat → Nat → Int64}, r_X8_ones_4 m v0 v1 v2 I L = some z → Q (some (.int z.1)) (gKn n, gRf f g, z.2.1, z.2.2) → gW gM (d + 0) 0 0 k_X8_ones 4 [.int v0, .int v1, .int v2] [] (gKn n, gRf f g, I, L) Q := by
  intro m
  induction m with
  | zero =>
    intro v0 v1 v2 I L hr _
    cases hr
  | succ m ih =>
    intro v0 v1 v2 I L hr hQ
    have hK4 : ∀ v0 v1 v2 I L, r_X8_ones_4 m v0 v1 v2 I L = some z → gW gM (d + 0) 0 0 k_X8_ones 4 [.int v0, .int v1, .int v2] [] (gKn n, gRf f g, I, L) Q := fun v0 v1 v2 I L hr => ih hr hQ
    unfold r_X8_ones_4 at hr
    refine r_iload rfl rfl ?_
    refine r_const rfl (gcst 13) ?_
    refine r_icmp_ge 17 rfl rfl (fun c2 => ?_) (fun c2 => ?_)
    · rw [if_pos c2] at hr
      refine r_iload rfl rfl ?_
      refine r_iret rfl ?_
      cases hr
      exact hQ
    · rw [if_neg c2] at hr
      refine r_iload rfl rfl ?_
      refine r_iload rfl rfl ?_
      refine r_iload rfl rfl ?_
      refine r_ishr rfl ?_
      refine r_const rfl (gcst 1) ?_
      refine r_iand rfl ?_
      refine r_iadd rfl ?_
      refine r_istore [.int v0, .int (v1 + ((gshr v0 v2) &&& (nI 1))), .int v2] rfl rfl (Nat.le_of_ble_eq_true rfl) rfl ?_
      refine r_iinc (y := (v2 + (nI 1))) [.int v0, .int (v1 + ((gshr v0 v2) &&& (nI 1))), .int (v2 + (nI 1))] rfl rfl rfl (ginc _ 1) rfl ?_
      refine r_goto 4 rfl rfl ?_
      exact hK4 _ _ _ _ _ hr
def r_X8_ones (I : Nat → Nat → Int32) (L : Nat → Nat → Int64) (a0 : Int32) : Option gRs := (r_X8_ones_4 100 a0 (nI 0) (nI 0) I L)
set_option maxHeartbeats 4000000 in
set_option maxRecDepth 100000 in
theorem s_X8_ones {n f g d : Nat} {Q : gP} {I : Nat → Nat → Int32} {L : Nat → Nat → Int64} {a0 : Int32} {z : gRs}  (hr : r_X8_ones I L a0 = some z) (hQ : Q (some (.int z.1)) (gKn n, gRf f g, z.2.1, z.2.2)) : gR gM (d + 0) 108 [.int a0] (gKn n, gRf f g, I, L) Q := by
  unfold r_X8_ones at hr
  show gW gM (d + 0) 0 0 k_X8_ones 0 [.int a0, .null, .null] [] (gKn n, gRf f g, I, L) Q
  refine r_const rfl (gcst 0) ?_
  refine r_istore [.int a0, .int (nI 0), .null] rfl rfl (Nat.le_of_ble_eq_true rfl) rfl ?_
  refine r_const rfl (gcst 0) ?_
  refine r_istore [.int a0, .int (nI 0), .int (nI 0)] rfl rfl (Nat.le_of_ble_eq_true rfl) rfl ?_
  exact t_X8_ones_4  hr hQ
def r_X8_write (I : Nat → Nat → Int32) (L : Nat → Nat → Int64) (a1 : Int32) : Option gRs := (if ¬ (f_X8_in I L (Int32.toInt64 a1) (lN 0) (lN 255)) = 0 then (if ¬ (I 57 20) = (nI 60) then (if gvp (I 57 20) 60 = true then some (((gu2 (gu2 I 68 (gx (I 57 20)) a1) 57 20 (((gu2 I 68 (gx (I 57 20)) a1) 57 20) + (nI 1))) 57 20), (gu2 (gu2 I 68 (gx (I 57 20)) a1) 57 20 (((gu2 I 68 (gx (I 57 20)) a1) 57 20) + (nI 1))), L) else none) else some ((-4 : Int32), I, L)) else some ((-2 : Int32), I, L))
set_option maxHeartbeats 4000000 in
set_option maxRecDepth 100000 in
theorem s_X8_write {n f g d : Nat} {Q : gP} {I : Nat → Nat → Int32} {L : Nat → Nat → Int64} {a1 : Int32} {z : gRs}  (hr : r_X8_write I L a1 = some z) (hQ : Q (some (.int z.1)) (gKn n, gRf f g, z.2.1, z.2.2)) : gR gM (d + 1) 109 [.ref 57, .int a1] (gKn n, gRf f g, I, L) Q := by
  unfold r_X8_write at hr
  show gW gM (d + 1) 0 0 k_X8_write 0 [.ref 57, .int a1] [] (gKn n, gRf f g, I, L) Q
  refine r_iload rfl rfl ?_
  refine r_i2l rfl ?_
  refine r_lconst (v := lN 0) rfl rfl ?_
  refine r_lconst (v := lN 255) rfl rfl ?_
  refine r_invs [.long (Int32.toInt64 a1), .long (lN 0), .long (lN 255)] rfl rfl rfl rfl (Nat.le_of_ble_eq_true rfl) ⟨rfl, rfl⟩ ?_
  refine s_X8_in  ?_
  show gW _ _ _ _ _ 5 [.ref 57, .int a1] [.int (f_X8_in I L (Int32.toInt64 a1) (lN 0) (lN 255))] (gKn n, gRf f g, I, L) _
  refine r_if_ne 8 rfl rfl (fun c4 => ?_) (fun c4 => ?_)
  · rw [if_pos c4] at hr
    refine r_aload rfl rfl ?_
    refine r_getI (c := 8) (k := 20) rfl rfl ⟨rfl, rfl⟩ ?_
    refine r_const rfl (gcst 60) ?_
    refine r_icmp_ne 14 rfl rfl (fun c5 => ?_) (fun c5 => ?_)
    · rw [if_pos c5] at hr
      refine r_aload rfl rfl ?_
      refine r_getR (c := 8) (k := 19) (v := 68) rfl rfl ⟨rfl, rfl⟩ rfl ?_
      refine r_aload rfl rfl ?_
      refine r_getI (c := 8) (k := 20) rfl rfl ⟨rfl, rfl⟩ ?_
      refine r_iload rfl rfl ?_
      obtain ⟨b6, hr⟩ := gopt hr
      refine r_iastore (n := 60) rfl rfl (gvp_in b6) (by decide) ?_
      refine r_aload rfl rfl ?_
      refine r_dup rfl rfl ?_
      refine r_getI (c := 8) (k := 20) rfl rfl ⟨rfl, rfl⟩ ?_
      refine r_const rfl (gcst 1) ?_
      refine r_iadd rfl ?_
      refine r_putI (c := 8) (k := 20) rfl rfl ⟨rfl, rfl⟩ ?_
      refine r_aload rfl rfl ?_
      refine r_getI (c := 8) (k := 20) rfl rfl ⟨rfl, rfl⟩ ?_
      refine r_iret rfl ?_
      cases hr
      exact hQ
    · rw [if_neg c5] at hr
      refine r_const rfl (v := -4) (by decide) ?_
      refine r_iret rfl ?_
      cases hr
      exact hQ
  · rw [if_neg c4] at hr
    refine r_const rfl (v := -2) (by decide) ?_
    refine r_iret rfl ?_
    cases hr
    exact hQ
def f_X8_wipe (I : Nat → Nat → Int32) (L : Nat → Nat → Int64)  : Int32 := (I 57 20)
def i_X8_wipe (I : Nat → Nat → Int32) (L : Nat → Nat → Int64)  : Nat → Nat → Int32 := (gu2 I 57 20 (nI 0))
set_option maxHeartbeats 4000000 in
set_option maxRecDepth 100000 in
theorem s_X8_wipe {n f g d : Nat} {Q : gP} {I : Nat → Nat → Int32} {L : Nat → Nat → Int64}   (hQ : Q (some (.int (f_X8_wipe I L ))) (gKn n, gRf f g, i_X8_wipe I L , L)) : gR gM (d + 0) 110 [.ref 57] (gKn n, gRf f g, I, L) Q := by
  unfold f_X8_wipe i_X8_wipe at hQ
  show gW gM (d + 0) 0 0 k_X8_wipe 0 [.ref 57, .null] [] (gKn n, gRf f g, I, L) Q
  refine r_aload rfl rfl ?_
  refine r_getI (c := 8) (k := 20) rfl rfl ⟨rfl, rfl⟩ ?_
  refine r_istore [.ref 57, .int (I 57 20)] rfl rfl (Nat.le_of_ble_eq_true rfl) rfl ?_
  refine r_aload rfl rfl ?_
  refine r_const rfl (gcst 0) ?_
  refine r_putI (c := 8) (k := 20) rfl rfl ⟨rfl, rfl⟩ ?_
  refine r_iload rfl rfl ?_
  refine r_iret rfl ?_
  first | exact hQ | simpa only [if_true] using hQ
def r_X8_figure_35   (v1 : Int32) (I : Nat → Nat → Int32) (L : Nat → Nat → Int64) : Option gRs := some (v1, (gu2 I 57 22 (if ¬ (I 57 22) = (-9 : Int32) then (I 57 22) else (I 57 21))), L)
set_option maxHeartbeats 4000000 in
set_option maxRecDepth 100000 in
theorem t_X8_figure_35 {n f g d : Nat} {Q : gP} {z : gRs}    {v1 : Int32} {I : Nat → Nat → Int32} {L : Nat → Nat → Int64} (hr : r_X8_figure_35 v1 I L = some z) (hQ : Q (some (.int z.1)) (gKn n, gRf f g, z.2.1, z.2.2)) : gW gM (d + 1) 0 0 k_X8_figure 35 [.ref 57, .int v1, .null, .null, .null] [] (gKn n, gRf f g, I, L) Q := by
  unfold r_X8_figure_35 at hr
  refine r_aload rfl rfl ?_
  refine r_aload rfl rfl ?_
  refine r_getI (c := 8) (k := 22) rfl rfl ⟨rfl, rfl⟩ ?_
  refine r_const rfl (v := -9) (by decide) ?_
  have j19 : gW gM (d + 1) 0 0 k_X8_figure 45 [.ref 57, .int v1, .null, .null, .null] [.int (if ¬ (I 57 22) = (-9 : Int32) then (I 57 22) else (I 57 21)), .ref 57] (gKn n, gRf f g, I, L) Q := by
    refine r_putI (c := 8) (k := 22) rfl rfl ⟨rfl, rfl⟩ ?_
    refine r_iload rfl rfl ?_
    refine r_iret rfl ?_
    cases hr
    exact hQ
  refine r_icmp_ne 43 rfl rfl (fun c18 => ?_) (fun c18 => ?_)
  · refine r_aload rfl rfl ?_
    refine r_getI (c := 8) (k := 22) rfl rfl ⟨rfl, rfl⟩ ?_
    first | contradiction | simpa only [if_pos c18] using j19
  · refine r_aload rfl rfl ?_
    refine r_getI (c := 8) (k := 21) rfl rfl ⟨rfl, rfl⟩ ?_
    refine r_goto 45 rfl rfl ?_
    first | contradiction | simpa only [if_neg c18] using j19
def r_X8_figure_24   (v1 : Int32) (v2 : Int32) (v3 : Int32) (s0 : Int32) (I : Nat → Nat → Int32) (L : Nat → Nat → Int64) : Option gRs := (if v3 = 0 then (r_X8_figure_35 v1 I L) else (if ¬ (f_X8_in I L (Int32.toInt64 s0) (Int32.toInt64 v1) (Int32.toInt64 v2)) = 0 then some (s0, (gu2 I 57 21 ((I 57 21) + (nI 1))), L) else (r_X8_figure_35 v1 I L)))
set_option maxHeartbeats 4000000 in
set_option maxRecDepth 100000 in
theorem t_X8_figure_24 {n f g d : Nat} {Q : gP} {z : gRs}    {v1 : Int32} {v2 : Int32} {v3 : Int32} {s0 : Int32} {I : Nat → Nat → Int32} {L : Nat → Nat → Int64} (hr : r_X8_figure_24 v1 v2 v3 s0 I L = some z) (hQ : Q (some (.int z.1)) (gKn n, gRf f g, z.2.1, z.2.2)) : gW gM (d + 1) 0 0 k_X8_figure 24 [.ref 57, .int v1, .int v2, .int v3, .null] [.int s0] (gKn n, gRf f g, I, L) Q := by
  unfold r_X8_figure_24 at hr
  refine r_istore [.ref 57, .int v1, .int v2, .int v3, .int s0] rfl rfl (Nat.le_of_ble_eq_true rfl) rfl ?_
  refine r_iload rfl rfl ?_
  refine r_if_eq 35 rfl rfl (fun c20 => ?_) (fun c20 => ?_)
  · rw [if_pos c20] at hr
    refine gforget (ls := [.ref 57, .int v1, .null, .null, .null]) ⟨(Or.inl rfl), ⟨(Or.inl rfl), ⟨(Or.inr (Or.inl ⟨rfl, _, rfl⟩)), ⟨(Or.inr (Or.inl ⟨rfl, _, rfl⟩)), ⟨(Or.inr (Or.inl ⟨rfl, _, rfl⟩)), trivial⟩⟩⟩⟩⟩ ?_
    exact t_X8_figure_35  hr hQ
  · rw [if_neg c20] at hr
    refine r_iload rfl rfl ?_
    refine r_i2l rfl ?_
    refine r_iload rfl rfl ?_
    refine r_i2l rfl ?_
    refine r_iload rfl rfl ?_
    refine r_i2l rfl ?_
    refine r_invs [.long (Int32.toInt64 s0), .long (Int32.toInt64 v1), .long (Int32.toInt64 v2)] rfl rfl rfl rfl (Nat.le_of_ble_eq_true rfl) ⟨rfl, rfl⟩ ?_
    refine s_X8_in  ?_
    show gW _ _ _ _ _ 34 [.ref 57, .int v1, .int v2, .int v3, .int s0] [.int (f_X8_in I L (Int32.toInt64 s0) (Int32.toInt64 v1) (Int32.toInt64 v2))] (gKn n, gRf f g, I, L) _
    refine r_if_ne 48 rfl rfl (fun c21 => ?_) (fun c21 => ?_)
    · rw [if_pos c21] at hr
      refine r_aload rfl rfl ?_
      refine r_dup rfl rfl ?_
      refine r_getI (c := 8) (k := 21) rfl rfl ⟨rfl, rfl⟩ ?_
      refine r_const rfl (gcst 1) ?_
      refine r_iadd rfl ?_
      refine r_putI (c := 8) (k := 21) rfl rfl ⟨rfl, rfl⟩ ?_
      refine r_iload rfl rfl ?_
      refine r_iret rfl ?_
      cases hr
      exact hQ
    · rw [if_neg c21] at hr
      refine gforget (ls := [.ref 57, .int v1, .null, .null, .null]) ⟨(Or.inl rfl), ⟨(Or.inl rfl), ⟨(Or.inr (Or.inl ⟨rfl, _, rfl⟩)), ⟨(Or.inr (Or.inl ⟨rfl, _, rfl⟩)), ⟨(Or.inr (Or.inl ⟨rfl, _, rfl⟩)), trivial⟩⟩⟩⟩⟩ ?_
      exact t_X8_figure_35  hr hQ
def r_X8_figure (I : Nat → Nat → Int32) (L : Nat → Nat → Int64) (a1 : Int32) (a2 : Int32) : Option gRs := (if (if ¬ (I 57 22) = (-9 : Int32) then (nI 0) else (if (I 57 20) ≤ (I 57 21) then (nI 0) else (nI 1))) = 0 then (r_X8_figure_24 a1 a2 (if ¬ (I 57 22) = (-9 : Int32) then (nI 0) else (if (I 57 20) ≤ (I 57 21) then (nI 0) else (nI 1))) (nI 0) I L) else (if gvp (I 57 21) 60 = true then (r_X8_figure_24 a1 a2 (if ¬ (I 57 22) = (-9 : Int32) then (nI 0) else (if (I 57 20) ≤ (I 57 21) then (nI 0) else (nI 1))) ((I 68 (gx (I 57 21))) - (nI 48)) I L) else none))
set_option maxHeartbeats 4000000 in
set_option maxRecDepth 100000 in
theorem s_X8_figure {n f g d : Nat} {Q : gP} {I : Nat → Nat → Int32} {L : Nat → Nat → Int64} {a1 : Int32} {a2 : Int32} {z : gRs}  (hr : r_X8_figure I L a1 a2 = some z) (hQ : Q (some (.int z.1)) (gKn n, gRf f g, z.2.1, z.2.2)) : gR gM (d + 1) 111 [.ref 57, .int a1, .int a2] (gKn n, gRf f g, I, L) Q := by
  unfold r_X8_figure at hr
  show gW gM (d + 1) 0 0 k_X8_figure 0 [.ref 57, .int a1, .int a2, .null, .null] [] (gKn n, gRf f g, I, L) Q
  refine r_aload rfl rfl ?_
  refine r_getI (c := 8) (k := 22) rfl rfl ⟨rfl, rfl⟩ ?_
  refine r_const rfl (v := -9) (by decide) ?_
  have j26 : gW gM (d + 1) 0 0 k_X8_figure 12 [.ref 57, .int a1, .int a2, .null, .null] [.int (if ¬ (I 57 22) = (-9 : Int32) then (nI 0) else (if (I 57 20) ≤ (I 57 21) then (nI 0) else (nI 1)))] (gKn n, gRf f g, I, L) Q := by
    refine r_istore [.ref 57, .int a1, .int a2, .int (if ¬ (I 57 22) = (-9 : Int32) then (nI 0) else (if (I 57 20) ≤ (I 57 21) then (nI 0) else (nI 1))), .null] rfl rfl (Nat.le_of_ble_eq_true rfl) rfl ?_
    refine r_iload rfl rfl ?_
    refine r_if_eq 23 rfl rfl (fun c24 => ?_) (fun c24 => ?_)
    · rw [if_pos c24] at hr
      refine r_const rfl (gcst 0) ?_
      exact t_X8_figure_24  hr hQ
    · rw [if_neg c24] at hr
      refine r_aload rfl rfl ?_
      refine r_getR (c := 8) (k := 19) (v := 68) rfl rfl ⟨rfl, rfl⟩ rfl ?_
      refine r_aload rfl rfl ?_
      refine r_getI (c := 8) (k := 21) rfl rfl ⟨rfl, rfl⟩ ?_
      obtain ⟨b25, hr⟩ := gopt hr
      refine r_iaload (n := 60) rfl rfl (gvp_in b25) ?_
      refine r_const rfl (gcst 48) ?_
      refine r_isub rfl ?_
      refine r_goto 24 rfl rfl ?_
      exact t_X8_figure_24  hr hQ
  refine r_icmp_ne 11 rfl rfl (fun c22 => ?_) (fun c22 => ?_)
  · refine r_const rfl (gcst 0) ?_
    first | contradiction | simpa only [if_pos c22] using j26
  · refine r_aload rfl rfl ?_
    refine r_getI (c := 8) (k := 21) rfl rfl ⟨rfl, rfl⟩ ?_
    refine r_aload rfl rfl ?_
    refine r_getI (c := 8) (k := 20) rfl rfl ⟨rfl, rfl⟩ ?_
    refine r_icmp_ge 11 rfl rfl (fun c23 => ?_) (fun c23 => ?_)
    · refine r_const rfl (gcst 0) ?_
      first | contradiction | simpa only [if_neg c22, if_pos c23] using j26
    · refine r_const rfl (gcst 1) ?_
      refine r_goto 12 rfl rfl ?_
      first | contradiction | simpa only [if_neg c22, if_neg c23] using j26
def r_X8_letterTone_44    (I : Nat → Nat → Int32) (L : Nat → Nat → Int64) : Option gRs := some ((nI 0), (gu2 I 57 22 (if ¬ (I 57 22) = (-9 : Int32) then (I 57 22) else (I 57 21))), L)
set_option maxHeartbeats 4000000 in
set_option maxRecDepth 100000 in
theorem t_X8_letterTone_44 {n f g d : Nat} {Q : gP} {z : gRs}     {I : Nat → Nat → Int32} {L : Nat → Nat → Int64} (hr : r_X8_letterTone_44 I L = some z) (hQ : Q (some (.int z.1)) (gKn n, gRf f g, z.2.1, z.2.2)) : gW gM (d + 1) 0 0 k_X8_letterTone 44 [.ref 57, .null, .null] [] (gKn n, gRf f g, I, L) Q := by
  unfold r_X8_letterTone_44 at hr
  refine r_aload rfl rfl ?_
  refine r_aload rfl rfl ?_
  refine r_getI (c := 8) (k := 22) rfl rfl ⟨rfl, rfl⟩ ?_
  refine r_const rfl (v := -9) (by decide) ?_
  have j29 : gW gM (d + 1) 0 0 k_X8_letterTone 54 [.ref 57, .null, .null] [.int (if ¬ (I 57 22) = (-9 : Int32) then (I 57 22) else (I 57 21)), .ref 57] (gKn n, gRf f g, I, L) Q := by
    refine r_putI (c := 8) (k := 22) rfl rfl ⟨rfl, rfl⟩ ?_
    refine r_const rfl (gcst 0) ?_
    refine r_iret rfl ?_
    cases hr
    exact hQ
  refine r_icmp_ne 52 rfl rfl (fun c28 => ?_) (fun c28 => ?_)
  · refine r_aload rfl rfl ?_
    refine r_getI (c := 8) (k := 22) rfl rfl ⟨rfl, rfl⟩ ?_
    first | contradiction | simpa only [if_pos c28] using j29
  · refine r_aload rfl rfl ?_
    refine r_getI (c := 8) (k := 21) rfl rfl ⟨rfl, rfl⟩ ?_
    refine r_goto 54 rfl rfl ?_
    first | contradiction | simpa only [if_neg c28] using j29
def r_X8_letterTone_32   (v2 : Int32) (I : Nat → Nat → Int32) (L : Nat → Nat → Int64) : Option gRs := (if v2 = 0 then (r_X8_letterTone_44 I L) else (if gvp (I 57 21) 60 = true then (if ¬ (f_X8_in I L (Int32.toInt64 (I 68 (gx (I 57 21)))) (lN 97) (lN 108)) = 0 then (if gvp (((gu2 I 57 21 ((I 57 21) + (nI 1))) 57 21) - (nI 1)) 60 = true then some ((((gu2 I 57 21 ((I 57 21) + (nI 1))) 68 (gx (((gu2 I 57 21 ((I 57 21) + (nI 1))) 57 21) - (nI 1)))) - (nI 97)), (gu2 I 57 21 ((I 57 21) + (nI 1))), L) else none) else (r_X8_letterTone_44 I L)) else none))
set_option maxHeartbeats 4000000 in
set_option maxRecDepth 100000 in
theorem t_X8_letterTone_32 {n f g d : Nat} {Q : gP} {z : gRs}    {v2 : Int32} {I : Nat → Nat → Int32} {L : Nat → Nat → Int64} (hr : r_X8_letterTone_32 v2 I L = some z) (hQ : Q (some (.int z.1)) (gKn n, gRf f g, z.2.1, z.2.2)) : gW gM (d + 1) 0 0 k_X8_letterTone 32 [.ref 57, .null, .int v2] [] (gKn n, gRf f g, I, L) Q := by
  unfold r_X8_letterTone_32 at hr
  refine r_iload rfl rfl ?_
  refine r_if_eq 44 rfl rfl (fun c30 => ?_) (fun c30 => ?_)
  · rw [if_pos c30] at hr
    refine gforget (ls := [.ref 57, .null, .null]) ⟨(Or.inl rfl), ⟨(Or.inl rfl), ⟨(Or.inr (Or.inl ⟨rfl, _, rfl⟩)), trivial⟩⟩⟩ ?_
    exact t_X8_letterTone_44  hr hQ
  · rw [if_neg c30] at hr
    refine r_aload rfl rfl ?_
    refine r_getR (c := 8) (k := 19) (v := 68) rfl rfl ⟨rfl, rfl⟩ rfl ?_
    refine r_aload rfl rfl ?_
    refine r_getI (c := 8) (k := 21) rfl rfl ⟨rfl, rfl⟩ ?_
    obtain ⟨b31, hr⟩ := gopt hr
    refine r_iaload (n := 60) rfl rfl (gvp_in b31) ?_
    refine r_i2l rfl ?_
    refine r_lconst (v := lN 97) rfl rfl ?_
    refine r_lconst (v := lN 108) rfl rfl ?_
    refine r_invs [.long (Int32.toInt64 (I 68 (gx (I 57 21)))), .long (lN 97), .long (lN 108)] rfl rfl rfl rfl (Nat.le_of_ble_eq_true rfl) ⟨rfl, rfl⟩ ?_
    refine s_X8_in  ?_
    show gW _ _ _ _ _ 43 [.ref 57, .null, .int v2] [.int (f_X8_in I L (Int32.toInt64 (I 68 (gx (I 57 21)))) (lN 97) (lN 108))] (gKn n, gRf f g, I, L) _
    refine r_if_ne 57 rfl rfl (fun c32 => ?_) (fun c32 => ?_)
    · rw [if_pos c32] at hr
      refine r_aload rfl rfl ?_
      refine r_dup rfl rfl ?_
      refine r_getI (c := 8) (k := 21) rfl rfl ⟨rfl, rfl⟩ ?_
      refine r_const rfl (gcst 1) ?_
      refine r_iadd rfl ?_
      refine r_putI (c := 8) (k := 21) rfl rfl ⟨rfl, rfl⟩ ?_
      refine r_aload rfl rfl ?_
      refine r_getR (c := 8) (k := 19) (v := 68) rfl rfl ⟨rfl, rfl⟩ rfl ?_
      refine r_aload rfl rfl ?_
      refine r_getI (c := 8) (k := 21) rfl rfl ⟨rfl, rfl⟩ ?_
      refine r_const rfl (gcst 1) ?_
      refine r_isub rfl ?_
      obtain ⟨b33, hr⟩ := gopt hr
      refine r_iaload (n := 60) rfl rfl (gvp_in b33) ?_
      refine r_const rfl (gcst 97) ?_
      refine r_isub rfl ?_
      refine r_iret rfl ?_
      cases hr
      exact hQ
    · rw [if_neg c32] at hr
      refine gforget (ls := [.ref 57, .null, .null]) ⟨(Or.inl rfl), ⟨(Or.inl rfl), ⟨(Or.inr (Or.inl ⟨rfl, _, rfl⟩)), trivial⟩⟩⟩ ?_
      exact t_X8_letterTone_44  hr hQ
def r_X8_letterTone (I : Nat → Nat → Int32) (L : Nat → Nat → Int64) (a1 : Int32) : Option gRs := (if (if ¬ (I 57 22) = (-9 : Int32) then (nI 0) else (if (I 57 20) ≤ (I 57 21) then (nI 0) else (nI 1))) = 0 then (r_X8_letterTone_32 (if ¬ (I 57 22) = (-9 : Int32) then (nI 0) else (if (I 57 20) ≤ (I 57 21) then (nI 0) else (nI 1))) I L) else (if a1 = 0 then (r_X8_letterTone_32 (if ¬ (I 57 22) = (-9 : Int32) then (nI 0) else (if (I 57 20) ≤ (I 57 21) then (nI 0) else (nI 1))) I L) else (if gvp (I 57 21) 60 = true then (if ¬ (I 68 (gx (I 57 21))) = (nI 45) then (r_X8_letterTone_32 (if ¬ (I 57 22) = (-9 : Int32) then (nI 0) else (if (I 57 20) ≤ (I 57 21) then (nI 0) else (nI 1))) I L) else some ((nI 12), (gu2 I 57 21 ((I 57 21) + (nI 1))), L)) else none)))
set_option maxHeartbeats 4000000 in
set_option maxRecDepth 100000 in
theorem s_X8_letterTone {n f g d : Nat} {Q : gP} {I : Nat → Nat → Int32} {L : Nat → Nat → Int64} {a1 : Int32} {z : gRs}  (hr : r_X8_letterTone I L a1 = some z) (hQ : Q (some (.int z.1)) (gKn n, gRf f g, z.2.1, z.2.2)) : gR gM (d + 1) 112 [.ref 57, .int a1] (gKn n, gRf f g, I, L) Q := by
  unfold r_X8_letterTone at hr
  show gW gM (d + 1) 0 0 k_X8_letterTone 0 [.ref 57, .int a1, .null] [] (gKn n, gRf f g, I, L) Q
  refine r_aload rfl rfl ?_
  refine r_getI (c := 8) (k := 22) rfl rfl ⟨rfl, rfl⟩ ?_
  refine r_const rfl (v := -9) (by decide) ?_
  have j40 : gW gM (d + 1) 0 0 k_X8_letterTone 12 [.ref 57, .int a1, .null] [.int (if ¬ (I 57 22) = (-9 : Int32) then (nI 0) else (if (I 57 20) ≤ (I 57 21) then (nI 0) else (nI 1)))] (gKn n, gRf f g, I, L) Q := by
    refine r_istore [.ref 57, .int a1, .int (if ¬ (I 57 22) = (-9 : Int32) then (nI 0) else (if (I 57 20) ≤ (I 57 21) then (nI 0) else (nI 1)))] rfl rfl (Nat.le_of_ble_eq_true rfl) rfl ?_
    refine r_iload rfl rfl ?_
    refine r_if_eq 32 rfl rfl (fun c36 => ?_) (fun c36 => ?_)
    · rw [if_pos c36] at hr
      refine gforget (ls := [.ref 57, .null, .int (if ¬ (I 57 22) = (-9 : Int32) then (nI 0) else (if (I 57 20) ≤ (I 57 21) then (nI 0) else (nI 1)))]) ⟨(Or.inl rfl), ⟨(Or.inr (Or.inl ⟨rfl, _, rfl⟩)), ⟨(Or.inl rfl), trivial⟩⟩⟩ ?_
      exact t_X8_letterTone_32  hr hQ
    · rw [if_neg c36] at hr
      refine r_iload rfl rfl ?_
      refine r_if_eq 32 rfl rfl (fun c37 => ?_) (fun c37 => ?_)
      · rw [if_pos c37] at hr
        refine gforget (ls := [.ref 57, .null, .int (if ¬ (I 57 22) = (-9 : Int32) then (nI 0) else (if (I 57 20) ≤ (I 57 21) then (nI 0) else (nI 1)))]) ⟨(Or.inl rfl), ⟨(Or.inr (Or.inl ⟨rfl, _, rfl⟩)), ⟨(Or.inl rfl), trivial⟩⟩⟩ ?_
        exact t_X8_letterTone_32  hr hQ
      · rw [if_neg c37] at hr
        refine r_aload rfl rfl ?_
        refine r_getR (c := 8) (k := 19) (v := 68) rfl rfl ⟨rfl, rfl⟩ rfl ?_
        refine r_aload rfl rfl ?_
        refine r_getI (c := 8) (k := 21) rfl rfl ⟨rfl, rfl⟩ ?_
        obtain ⟨b38, hr⟩ := gopt hr
        refine r_iaload (n := 60) rfl rfl (gvp_in b38) ?_
        refine r_const rfl (gcst 45) ?_
        refine r_icmp_ne 32 rfl rfl (fun c39 => ?_) (fun c39 => ?_)
        · rw [if_pos c39] at hr
          refine gforget (ls := [.ref 57, .null, .int (if ¬ (I 57 22) = (-9 : Int32) then (nI 0) else (if (I 57 20) ≤ (I 57 21) then (nI 0) else (nI 1)))]) ⟨(Or.inl rfl), ⟨(Or.inr (Or.inl ⟨rfl, _, rfl⟩)), ⟨(Or.inl rfl), trivial⟩⟩⟩ ?_
          exact t_X8_letterTone_32  hr hQ
        · rw [if_neg c39] at hr
          refine r_aload rfl rfl ?_
          refine r_dup rfl rfl ?_
          refine r_getI (c := 8) (k := 21) rfl rfl ⟨rfl, rfl⟩ ?_
          refine r_const rfl (gcst 1) ?_
          refine r_iadd rfl ?_
          refine r_putI (c := 8) (k := 21) rfl rfl ⟨rfl, rfl⟩ ?_
          refine r_const rfl (gcst 12) ?_
          refine r_iret rfl ?_
          cases hr
          exact hQ
  refine r_icmp_ne 11 rfl rfl (fun c34 => ?_) (fun c34 => ?_)
  · refine r_const rfl (gcst 0) ?_
    first | contradiction | simpa only [if_pos c34] using j40
  · refine r_aload rfl rfl ?_
    refine r_getI (c := 8) (k := 21) rfl rfl ⟨rfl, rfl⟩ ?_
    refine r_aload rfl rfl ?_
    refine r_getI (c := 8) (k := 20) rfl rfl ⟨rfl, rfl⟩ ?_
    refine r_icmp_ge 11 rfl rfl (fun c35 => ?_) (fun c35 => ?_)
    · refine r_const rfl (gcst 0) ?_
      first | contradiction | simpa only [if_neg c34, if_pos c35] using j40
    · refine r_const rfl (gcst 1) ?_
      refine r_goto 12 rfl rfl ?_
      first | contradiction | simpa only [if_neg c34, if_neg c35] using j40
