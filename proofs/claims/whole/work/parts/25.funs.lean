/-! FUNCTIONS (dec.py, dec2.py) -/
def r_X8_loud_21  (K4 : Int32 → Int32 → Int32 → Int32 → (Nat → Nat → Int32) → (Nat → Nat → Int64) → Option gRs) (v1 : Int32) (v2 : Int32) (v4 : Int32) (s0 : Int32) (s1 : Int32) (I : Nat → Nat → Int32) (L : Nat → Nat → Int64) : Option gRs := (K4 v1 v2 (s0 + s1) (v4 + (nI 1)) I L)
set_option maxHeartbeats 4000000 in
set_option maxRecDepth 100000 in
theorem t_X8_loud_21 {n f g d : Nat} {Q : gP} {z : gRs}   {K4 : Int32 → Int32 → Int32 → Int32 → (Nat → Nat → Int32) → (Nat → Nat → Int64) → Option gRs} (hK4 : ∀ v1 v2 v3 v4 I L, K4 v1 v2 v3 v4 I L = some z → gW gM (d + 0) 0 0 k_X8_loud 4 [.ref 57, .int v1, .int v2, .int v3, .int v4] [] (gKn n, gRf f g, I, L) Q) {v1 : Int32} {v2 : Int32} {v4 : Int32} {s0 : Int32} {s1 : Int32} {I : Nat → Nat → Int32} {L : Nat → Nat → Int64} (hr : r_X8_loud_21 K4 v1 v2 v4 s0 s1 I L = some z) (hQ : Q (some (.int z.1)) (gKn n, gRf f g, z.2.1, z.2.2)) : gW gM (d + 0) 0 0 k_X8_loud 21 [.ref 57, .int v1, .int v2, .null, .int v4] [.int s1, .int s0] (gKn n, gRf f g, I, L) Q := by
  unfold r_X8_loud_21 at hr
  refine r_iadd rfl ?_
  refine r_istore [.ref 57, .int v1, .int v2, .int (s0 + s1), .int v4] rfl rfl (Nat.le_of_ble_eq_true rfl) rfl ?_
  refine r_iinc (y := (v4 + (nI 1))) [.ref 57, .int v1, .int v2, .int (s0 + s1), .int (v4 + (nI 1))] rfl rfl rfl (ginc _ 1) rfl ?_
  refine r_goto 4 rfl rfl ?_
  exact hK4 _ _ _ _ _ _ hr
def r_X8_loud_4   : Nat → Int32 → Int32 → Int32 → Int32 → (Nat → Nat → Int32) → (Nat → Nat → Int64) → Option gRs
  | 0, _, _, _, _, _, _ => none
  | m + 1, v1, v2, v3, v4, I, L => (if v2 ≤ v4 then some (v3, I, L) else (if gvp (((nI 12) * v1) + v4) 24 = true then (if ¬ (I 69 (gx (((nI 12) * v1) + v4))) = (nI 12) then (r_X8_loud_21 (r_X8_loud_4  m) v1 v2 v4 v3 (nI 1) I L) else (r_X8_loud_21 (r_X8_loud_4  m) v1 v2 v4 v3 (nI 0) I L)) else none))
set_option maxHeartbeats 4000000 in
set_option maxRecDepth 100000 in
theorem t_X8_loud_4 {n f g d : Nat} {Q : gP} {z : gRs}    : ∀ {m : Nat} {v1 : Int32} {v2 : Int32} {v3 : Int32} {v4 : Int32} {I : Nat → Nat → Int32} {L : Nat → Nat → Int64}, r_X8_loud_4 m v1 v2 v3 v4 I L = some z → Q (some (.int z.1)) (gKn n, gRf f g, z.2.1, z.2.2) → gW gM (d + 0) 0 0 k_X8_loud 4 [.ref 57, .int v1, .int v2, .int v3, .int v4] [] (gKn n, gRf f g, I, L) Q := by
  intro m
  induction m with
  | zero =>
    intro v1 v2 v3 v4 I L hr _
    cases hr
  | succ m ih =>
    intro v1 v2 v3 v4 I L hr hQ
    have hK4 : ∀ v1 v2 v3 v4 I L, r_X8_loud_4 m v1 v2 v3 v4 I L = some z → gW gM (d + 0) 0 0 k_X8_loud 4 [.ref 57, .int v1, .int v2, .int v3, .int v4] [] (gKn n, gRf f g, I, L) Q := fun v1 v2 v3 v4 I L hr => ih hr hQ
    unfold r_X8_loud_4 at hr
    refine r_iload rfl rfl ?_
    refine r_iload rfl rfl ?_
    refine r_icmp_ge 25 rfl rfl (fun c7 => ?_) (fun c7 => ?_)
    · rw [if_pos c7] at hr
      refine r_iload rfl rfl ?_
      refine r_iret rfl ?_
      cases hr
      exact hQ
    · rw [if_neg c7] at hr
      refine r_iload rfl rfl ?_
      refine r_aload rfl rfl ?_
      refine r_getR (c := 8) (k := 23) (v := 69) rfl rfl ⟨rfl, rfl⟩ rfl ?_
      refine r_const rfl (gcst 12) ?_
      refine r_iload rfl rfl ?_
      refine r_imul rfl ?_
      refine r_iload rfl rfl ?_
      refine r_iadd rfl ?_
      obtain ⟨b8, hr⟩ := gopt hr
      refine r_iaload (n := 24) rfl rfl (gvp_in b8) ?_
      refine r_const rfl (gcst 12) ?_
      refine r_icmp_ne 20 rfl rfl (fun c9 => ?_) (fun c9 => ?_)
      · rw [if_pos c9] at hr
        refine r_const rfl (gcst 1) ?_
        refine gforget (ls := [.ref 57, .int v1, .int v2, .null, .int v4]) ⟨(Or.inl rfl), ⟨(Or.inl rfl), ⟨(Or.inl rfl), ⟨(Or.inr (Or.inl ⟨rfl, _, rfl⟩)), ⟨(Or.inl rfl), trivial⟩⟩⟩⟩⟩ ?_
        exact t_X8_loud_21 hK4 hr hQ
      · rw [if_neg c9] at hr
        refine r_const rfl (gcst 0) ?_
        refine r_goto 21 rfl rfl ?_
        refine gforget (ls := [.ref 57, .int v1, .int v2, .null, .int v4]) ⟨(Or.inl rfl), ⟨(Or.inl rfl), ⟨(Or.inl rfl), ⟨(Or.inr (Or.inl ⟨rfl, _, rfl⟩)), ⟨(Or.inl rfl), trivial⟩⟩⟩⟩⟩ ?_
        exact t_X8_loud_21 hK4 hr hQ
def r_X8_loud (I : Nat → Nat → Int32) (L : Nat → Nat → Int64) (a1 : Int32) (a2 : Int32) : Option gRs := (r_X8_loud_4 100 a1 a2 (nI 0) (nI 0) I L)
set_option maxHeartbeats 4000000 in
set_option maxRecDepth 100000 in
theorem s_X8_loud {n f g d : Nat} {Q : gP} {I : Nat → Nat → Int32} {L : Nat → Nat → Int64} {a1 : Int32} {a2 : Int32} {z : gRs}  (hr : r_X8_loud I L a1 a2 = some z) (hQ : Q (some (.int z.1)) (gKn n, gRf f g, z.2.1, z.2.2)) : gR gM (d + 0) 124 [.ref 57, .int a1, .int a2] (gKn n, gRf f g, I, L) Q := by
  unfold r_X8_loud at hr
  show gW gM (d + 0) 0 0 k_X8_loud 0 [.ref 57, .int a1, .int a2, .null, .null] [] (gKn n, gRf f g, I, L) Q
  refine r_const rfl (gcst 0) ?_
  refine r_istore [.ref 57, .int a1, .int a2, .int (nI 0), .null] rfl rfl (Nat.le_of_ble_eq_true rfl) rfl ?_
  refine r_const rfl (gcst 0) ?_
  refine r_istore [.ref 57, .int a1, .int a2, .int (nI 0), .int (nI 0)] rfl rfl (Nat.le_of_ble_eq_true rfl) rfl ?_
  exact t_X8_loud_4  hr hQ
def r_X8_addSung_14   : Nat → Int32 → Int32 → Int32 → (Nat → Nat → Int32) → (Nat → Nat → Int64) → Option gRs
  | 0, _, _, _, _, _ => none
  | m + 1, v2, v3, v4, I, L => (if (nI 11) ≤ v4 then (if gvp (v3 + (nI 14)) 54 = true then (if gvp (v3 + (nI 14)) 54 = true then (if gvp ((v3 + (nI 15)) + ((gu2 I 63 (gx (v3 + (nI 14))) (nI 11)) 63 (gx (v3 + (nI 14))))) 54 = true then (if gvp (v3 + (nI 14)) 54 = true then (if gvp (v3 + (nI 14)) 54 = true then some (0, (gu2 (gu2 (gu2 I 63 (gx (v3 + (nI 14))) (nI 11)) 63 (gx ((v3 + (nI 15)) + ((gu2 I 63 (gx (v3 + (nI 14))) (nI 11)) 63 (gx (v3 + (nI 14)))))) v2) 63 (gx (v3 + (nI 14))) (((gu2 (gu2 I 63 (gx (v3 + (nI 14))) (nI 11)) 63 (gx ((v3 + (nI 15)) + ((gu2 I 63 (gx (v3 + (nI 14))) (nI 11)) 63 (gx (v3 + (nI 14)))))) v2) 63 (gx (v3 + (nI 14)))) + (nI 1))), L) else none) else none) else none) else none) else none) else (if gvp (((v3 + (nI 15)) + v4) + (nI 1)) 54 = true then (if gvp ((v3 + (nI 15)) + v4) 54 = true then (r_X8_addSung_14  m v2 v3 (v4 + (nI 1)) (gu2 I 63 (gx ((v3 + (nI 15)) + v4)) (I 63 (gx (((v3 + (nI 15)) + v4) + (nI 1))))) L) else none) else none))
set_option maxHeartbeats 4000000 in
set_option maxRecDepth 100000 in
theorem t_X8_addSung_14 {n f g d : Nat} {Q : gP} {z : gRs}    : ∀ {m : Nat} {v2 : Int32} {v3 : Int32} {v4 : Int32} {I : Nat → Nat → Int32} {L : Nat → Nat → Int64}, r_X8_addSung_14 m v2 v3 v4 I L = some z → Q none (gKn n, gRf f g, z.2.1, z.2.2) → gW gM (d + 0) 0 0 k_X8_addSung 14 [.ref 57, .null, .int v2, .int v3, .int v4] [] (gKn n, gRf f g, I, L) Q := by
  intro m
  induction m with
  | zero =>
    intro v2 v3 v4 I L hr _
    cases hr
  | succ m ih =>
    intro v2 v3 v4 I L hr hQ
    have hK14 : ∀ v2 v3 v4 I L, r_X8_addSung_14 m v2 v3 v4 I L = some z → gW gM (d + 0) 0 0 k_X8_addSung 14 [.ref 57, .null, .int v2, .int v3, .int v4] [] (gKn n, gRf f g, I, L) Q := fun v2 v3 v4 I L hr => ih hr hQ
    unfold r_X8_addSung_14 at hr
    refine r_iload rfl rfl ?_
    refine r_const rfl (gcst 11) ?_
    refine r_icmp_ge 37 rfl rfl (fun c15 => ?_) (fun c15 => ?_)
    · rw [if_pos c15] at hr
      refine r_aload rfl rfl ?_
      refine r_getR (c := 8) (k := 9) (v := 63) rfl rfl ⟨rfl, rfl⟩ rfl ?_
      refine r_iload rfl rfl ?_
      refine r_const rfl (gcst 14) ?_
      refine r_iadd rfl ?_
      refine r_const rfl (gcst 11) ?_
      obtain ⟨b16, hr⟩ := gopt hr
      refine r_iastore (n := 54) rfl rfl (gvp_in b16) (by decide) ?_
      refine r_aload rfl rfl ?_
      refine r_getR (c := 8) (k := 9) (v := 63) rfl rfl ⟨rfl, rfl⟩ rfl ?_
      refine r_iload rfl rfl ?_
      refine r_const rfl (gcst 15) ?_
      refine r_iadd rfl ?_
      refine r_aload rfl rfl ?_
      refine r_getR (c := 8) (k := 9) (v := 63) rfl rfl ⟨rfl, rfl⟩ rfl ?_
      refine r_iload rfl rfl ?_
      refine r_const rfl (gcst 14) ?_
      refine r_iadd rfl ?_
      obtain ⟨b17, hr⟩ := gopt hr
      refine r_iaload (n := 54) rfl rfl (gvp_in b17) ?_
      refine r_iadd rfl ?_
      refine r_iload rfl rfl ?_
      obtain ⟨b18, hr⟩ := gopt hr
      refine r_iastore (n := 54) rfl rfl (gvp_in b18) (by decide) ?_
      refine r_aload rfl rfl ?_
      refine r_getR (c := 8) (k := 9) (v := 63) rfl rfl ⟨rfl, rfl⟩ rfl ?_
      refine r_iload rfl rfl ?_
      refine r_const rfl (gcst 14) ?_
      refine r_iadd rfl ?_
      refine r_dup2 rfl rfl rfl ?_
      obtain ⟨b19, hr⟩ := gopt hr
      refine r_iaload (n := 54) rfl rfl (gvp_in b19) ?_
      refine r_const rfl (gcst 1) ?_
      refine r_iadd rfl ?_
      obtain ⟨b20, hr⟩ := gopt hr
      refine r_iastore (n := 54) rfl rfl (gvp_in b20) (by decide) ?_
      refine r_vret rfl ?_
      cases hr
      exact hQ
    · rw [if_neg c15] at hr
      refine r_aload rfl rfl ?_
      refine r_getR (c := 8) (k := 9) (v := 63) rfl rfl ⟨rfl, rfl⟩ rfl ?_
      refine r_iload rfl rfl ?_
      refine r_const rfl (gcst 15) ?_
      refine r_iadd rfl ?_
      refine r_iload rfl rfl ?_
      refine r_iadd rfl ?_
      refine r_aload rfl rfl ?_
      refine r_getR (c := 8) (k := 9) (v := 63) rfl rfl ⟨rfl, rfl⟩ rfl ?_
      refine r_iload rfl rfl ?_
      refine r_const rfl (gcst 15) ?_
      refine r_iadd rfl ?_
      refine r_iload rfl rfl ?_
      refine r_iadd rfl ?_
      refine r_const rfl (gcst 1) ?_
      refine r_iadd rfl ?_
      obtain ⟨b21, hr⟩ := gopt hr
      refine r_iaload (n := 54) rfl rfl (gvp_in b21) ?_
      obtain ⟨b22, hr⟩ := gopt hr
      refine r_iastore (n := 54) rfl rfl (gvp_in b22) (by decide) ?_
      refine r_iinc (y := (v4 + (nI 1))) [.ref 57, .null, .int v2, .int v3, .int (v4 + (nI 1))] rfl rfl rfl (ginc _ 1) rfl ?_
      refine r_goto 14 rfl rfl ?_
      exact hK14 _ _ _ _ _ hr
def r_X8_addSung (I : Nat → Nat → Int32) (L : Nat → Nat → Int64) (a1 : Int32) (a2 : Int32) : Option gRs := (if gvp (((nI 27) * a1) + (nI 14)) 54 = true then (if ¬ (I 63 (gx (((nI 27) * a1) + (nI 14)))) = (nI 12) then (if gvp (((nI 27) * a1) + (nI 14)) 54 = true then (if gvp ((((nI 27) * a1) + (nI 15)) + (I 63 (gx (((nI 27) * a1) + (nI 14))))) 54 = true then (if gvp (((nI 27) * a1) + (nI 14)) 54 = true then (if gvp (((nI 27) * a1) + (nI 14)) 54 = true then some (0, (gu2 (gu2 I 63 (gx ((((nI 27) * a1) + (nI 15)) + (I 63 (gx (((nI 27) * a1) + (nI 14)))))) a2) 63 (gx (((nI 27) * a1) + (nI 14))) (((gu2 I 63 (gx ((((nI 27) * a1) + (nI 15)) + (I 63 (gx (((nI 27) * a1) + (nI 14)))))) a2) 63 (gx (((nI 27) * a1) + (nI 14)))) + (nI 1))), L) else none) else none) else none) else none) else (r_X8_addSung_14 100 a2 ((nI 27) * a1) (nI 0) I L)) else none)
set_option maxHeartbeats 4000000 in
set_option maxRecDepth 100000 in
theorem s_X8_addSung {n f g d : Nat} {Q : gP} {I : Nat → Nat → Int32} {L : Nat → Nat → Int64} {a1 : Int32} {a2 : Int32} {z : gRs}  (hr : r_X8_addSung I L a1 a2 = some z) (hQ : Q none (gKn n, gRf f g, z.2.1, z.2.2)) : gR gM (d + 0) 125 [.ref 57, .int a1, .int a2] (gKn n, gRf f g, I, L) Q := by
  unfold r_X8_addSung at hr
  show gW gM (d + 0) 0 0 k_X8_addSung 0 [.ref 57, .int a1, .int a2, .null, .null] [] (gKn n, gRf f g, I, L) Q
  refine r_const rfl (gcst 27) ?_
  refine r_iload rfl rfl ?_
  refine r_imul rfl ?_
  refine r_istore [.ref 57, .int a1, .int a2, .int ((nI 27) * a1), .null] rfl rfl (Nat.le_of_ble_eq_true rfl) rfl ?_
  refine r_aload rfl rfl ?_
  refine r_getR (c := 8) (k := 9) (v := 63) rfl rfl ⟨rfl, rfl⟩ rfl ?_
  refine r_iload rfl rfl ?_
  refine r_const rfl (gcst 14) ?_
  refine r_iadd rfl ?_
  obtain ⟨b23, hr⟩ := gopt hr
  refine r_iaload (n := 54) rfl rfl (gvp_in b23) ?_
  refine r_const rfl (gcst 12) ?_
  refine r_icmp_ne 44 rfl rfl (fun c24 => ?_) (fun c24 => ?_)
  · rw [if_pos c24] at hr
    refine r_aload rfl rfl ?_
    refine r_getR (c := 8) (k := 9) (v := 63) rfl rfl ⟨rfl, rfl⟩ rfl ?_
    refine r_iload rfl rfl ?_
    refine r_const rfl (gcst 15) ?_
    refine r_iadd rfl ?_
    refine r_aload rfl rfl ?_
    refine r_getR (c := 8) (k := 9) (v := 63) rfl rfl ⟨rfl, rfl⟩ rfl ?_
    refine r_iload rfl rfl ?_
    refine r_const rfl (gcst 14) ?_
    refine r_iadd rfl ?_
    obtain ⟨b25, hr⟩ := gopt hr
    refine r_iaload (n := 54) rfl rfl (gvp_in b25) ?_
    refine r_iadd rfl ?_
    refine r_iload rfl rfl ?_
    obtain ⟨b26, hr⟩ := gopt hr
    refine r_iastore (n := 54) rfl rfl (gvp_in b26) (by decide) ?_
    refine r_aload rfl rfl ?_
    refine r_getR (c := 8) (k := 9) (v := 63) rfl rfl ⟨rfl, rfl⟩ rfl ?_
    refine r_iload rfl rfl ?_
    refine r_const rfl (gcst 14) ?_
    refine r_iadd rfl ?_
    refine r_dup2 rfl rfl rfl ?_
    obtain ⟨b27, hr⟩ := gopt hr
    refine r_iaload (n := 54) rfl rfl (gvp_in b27) ?_
    refine r_const rfl (gcst 1) ?_
    refine r_iadd rfl ?_
    obtain ⟨b28, hr⟩ := gopt hr
    refine r_iastore (n := 54) rfl rfl (gvp_in b28) (by decide) ?_
    refine r_vret rfl ?_
    cases hr
    exact hQ
  · rw [if_neg c24] at hr
    refine r_const rfl (gcst 0) ?_
    refine r_istore [.ref 57, .int a1, .int a2, .int ((nI 27) * a1), .int (nI 0)] rfl rfl (Nat.le_of_ble_eq_true rfl) rfl ?_
    refine gforget (ls := [.ref 57, .null, .int a2, .int ((nI 27) * a1), .int (nI 0)]) ⟨(Or.inl rfl), ⟨(Or.inr (Or.inl ⟨rfl, _, rfl⟩)), ⟨(Or.inl rfl), ⟨(Or.inl rfl), ⟨(Or.inl rfl), trivial⟩⟩⟩⟩⟩ ?_
    exact t_X8_addSung_14  hr hQ
def r_X8_driveOn_57  (K27 : Int32 → Int32 → Int32 → Int32 → Int32 → (Nat → Nat → Int32) → (Nat → Nat → Int64) → Option gRs) (v2 : Int32) (v3 : Int32) (v4 : Int32) (v5 : Int32) (v6 : Int32) (s1 : Int32) (s2 : Int32) (s3 : Int32) (I : Nat → Nat → Int32) (L : Nat → Nat → Int64) : Option gRs := (if gvp s1 54 = true then (K27 v2 v3 v4 v5 (v6 + (nI 1)) (gu2 I 63 (gx s1) (s2 + s3)) L) else none)
set_option maxHeartbeats 4000000 in
set_option maxRecDepth 100000 in
theorem t_X8_driveOn_57 {n f g d : Nat} {Q : gP} {z : gRs}   {K27 : Int32 → Int32 → Int32 → Int32 → Int32 → (Nat → Nat → Int32) → (Nat → Nat → Int64) → Option gRs} (hK27 : ∀ v2 v3 v4 v5 v6 I L, K27 v2 v3 v4 v5 v6 I L = some z → gW gM (d + 3) 0 0 k_X8_driveOn 27 [.ref 57, .null, .int v2, .int v3, .int v4, .int v5, .int v6, .null] [] (gKn n, gRf f g, I, L) Q) {v2 : Int32} {v3 : Int32} {v4 : Int32} {v5 : Int32} {v6 : Int32} {s1 : Int32} {s2 : Int32} {s3 : Int32} {I : Nat → Nat → Int32} {L : Nat → Nat → Int64} (hr : r_X8_driveOn_57 K27 v2 v3 v4 v5 v6 s1 s2 s3 I L = some z) (hQ : Q (some (.int z.1)) (gKn n, gRf f g, z.2.1, z.2.2)) : gW gM (d + 3) 0 0 k_X8_driveOn 57 [.ref 57, .null, .int v2, .int v3, .int v4, .int v5, .int v6, .null] [.int s3, .int s2, .int s1, .ref 63] (gKn n, gRf f g, I, L) Q := by
  unfold r_X8_driveOn_57 at hr
  refine r_iadd rfl ?_
  obtain ⟨b26, hr⟩ := gopt hr
  refine r_iastore (n := 54) rfl rfl (gvp_in b26) (by decide) ?_
  refine r_iinc (y := (v6 + (nI 1))) [.ref 57, .null, .int v2, .int v3, .int v4, .int v5, .int (v6 + (nI 1)), .null] rfl rfl rfl (ginc _ 1) rfl ?_
  refine r_goto 27 rfl rfl ?_
  exact hK27 _ _ _ _ _ _ _ hr
def r_X8_driveOn_27   : Nat → Int32 → Int32 → Int32 → Int32 → Int32 → (Nat → Nat → Int32) → (Nat → Nat → Int64) → Option gRs
  | 0, _, _, _, _, _, _, _ => none
  | m + 1, v2, v3, v4, v5, v6, I, L => (if (nI 3) ≤ v6 then (if gvp (v4 + (nI 12)) 54 = true then (if gvp (v4 + (nI 12)) 54 = true then ((r_X8_loud (gu2 I 63 (gx (v4 + (nI 12))) ((I 63 (gx (v4 + (nI 12)))) ||| (gshl (nI 1) v2))) L (nI 0) v5).bind (fun z30 => some (z30.1, z30.2.1, z30.2.2))) else none) else none) else (if gvp (((nI 3) * v3) + v6) 9 = true then (if gvp ((v4 + (nI 5)) + (I 59 (gx (((nI 3) * v3) + v6)))) 54 = true then (if gvp ((v4 + (nI 5)) + (I 59 (gx (((nI 3) * v3) + v6)))) 54 = true then (if (nI 3) ≤ (I 63 (gx ((v4 + (nI 5)) + (I 59 (gx (((nI 3) * v3) + v6)))))) then (r_X8_driveOn_57 (r_X8_driveOn_27  m) v2 v3 v4 v5 v6 ((v4 + (nI 5)) + (I 59 (gx (((nI 3) * v3) + v6)))) (I 63 (gx ((v4 + (nI 5)) + (I 59 (gx (((nI 3) * v3) + v6)))))) (nI 0) I L) else (r_X8_driveOn_57 (r_X8_driveOn_27  m) v2 v3 v4 v5 v6 ((v4 + (nI 5)) + (I 59 (gx (((nI 3) * v3) + v6)))) (I 63 (gx ((v4 + (nI 5)) + (I 59 (gx (((nI 3) * v3) + v6)))))) (nI 1) I L)) else none) else none) else none))
set_option maxHeartbeats 4000000 in
set_option maxRecDepth 100000 in
theorem t_X8_driveOn_27 {n f g d : Nat} {Q : gP} {z : gRs}    : ∀ {m : Nat} {v2 : Int32} {v3 : Int32} {v4 : Int32} {v5 : Int32} {v6 : Int32} {I : Nat → Nat → Int32} {L : Nat → Nat → Int64}, r_X8_driveOn_27 m v2 v3 v4 v5 v6 I L = some z → Q (some (.int z.1)) (gKn n, gRf f g, z.2.1, z.2.2) → gW gM (d + 3) 0 0 k_X8_driveOn 27 [.ref 57, .null, .int v2, .int v3, .int v4, .int v5, .int v6, .null] [] (gKn n, gRf f g, I, L) Q := by
  intro m
  induction m with
  | zero =>
    intro v2 v3 v4 v5 v6 I L hr _
    cases hr
  | succ m ih =>
    intro v2 v3 v4 v5 v6 I L hr hQ
    have hK27 : ∀ v2 v3 v4 v5 v6 I L, r_X8_driveOn_27 m v2 v3 v4 v5 v6 I L = some z → gW gM (d + 3) 0 0 k_X8_driveOn 27 [.ref 57, .null, .int v2, .int v3, .int v4, .int v5, .int v6, .null] [] (gKn n, gRf f g, I, L) Q := fun v2 v3 v4 v5 v6 I L hr => ih hr hQ
    unfold r_X8_driveOn_27 at hr
    refine r_iload rfl rfl ?_
    refine r_const rfl (gcst 3) ?_
    refine r_icmp_ge 61 rfl rfl (fun c27 => ?_) (fun c27 => ?_)
    · rw [if_pos c27] at hr
      refine r_aload rfl rfl ?_
      refine r_getR (c := 8) (k := 9) (v := 63) rfl rfl ⟨rfl, rfl⟩ rfl ?_
      refine r_iload rfl rfl ?_
      refine r_const rfl (gcst 12) ?_
      refine r_iadd rfl ?_
      refine r_dup2 rfl rfl rfl ?_
      obtain ⟨b28, hr⟩ := gopt hr
      refine r_iaload (n := 54) rfl rfl (gvp_in b28) ?_
      refine r_const rfl (gcst 1) ?_
      refine r_iload rfl rfl ?_
      refine r_ishl rfl ?_
      refine r_ior rfl ?_
      obtain ⟨b29, hr⟩ := gopt hr
      refine r_iastore (n := 54) rfl rfl (gvp_in b29) (by decide) ?_
      refine r_aload rfl rfl ?_
      refine r_const rfl (gcst 0) ?_
      refine r_iload rfl rfl ?_
      obtain ⟨z30, hz30, hr⟩ := gbnd hr
      refine r_invv (a := 57) [.int (nI 0), .int v5] rfl rfl rfl rfl rfl (Nat.le_of_ble_eq_true rfl) ⟨rfl, rfl⟩ ?_
      refine s_X8_loud  hz30 ?_
      show gW _ _ _ _ _ 77 [.ref 57, .null, .int v2, .int v3, .int v4, .int v5, .int v6, .null] [.int z30.1] (gKn n, gRf f g, z30.2.1, z30.2.2) _
      refine r_iret rfl ?_
      cases hr
      exact hQ
    · rw [if_neg c27] at hr
      refine r_iload rfl rfl ?_
      refine r_const rfl (gcst 5) ?_
      refine r_iadd rfl ?_
      refine r_aload rfl rfl ?_
      refine r_getR (c := 8) (k := 5) (v := 59) rfl rfl ⟨rfl, rfl⟩ rfl ?_
      refine r_const rfl (gcst 3) ?_
      refine r_iload rfl rfl ?_
      refine r_imul rfl ?_
      refine r_iload rfl rfl ?_
      refine r_iadd rfl ?_
      obtain ⟨b31, hr⟩ := gopt hr
      refine r_iaload (n := 9) rfl rfl (gvp_in b31) ?_
      refine r_iadd rfl ?_
      refine r_istore [.ref 57, .null, .int v2, .int v3, .int v4, .int v5, .int v6, .int ((v4 + (nI 5)) + (I 59 (gx (((nI 3) * v3) + v6))))] rfl rfl (Nat.le_of_ble_eq_true rfl) rfl ?_
      refine r_aload rfl rfl ?_
      refine r_getR (c := 8) (k := 9) (v := 63) rfl rfl ⟨rfl, rfl⟩ rfl ?_
      refine r_iload rfl rfl ?_
      refine r_dup2 rfl rfl rfl ?_
      obtain ⟨b32, hr⟩ := gopt hr
      refine r_iaload (n := 54) rfl rfl (gvp_in b32) ?_
      refine r_aload rfl rfl ?_
      refine r_getR (c := 8) (k := 9) (v := 63) rfl rfl ⟨rfl, rfl⟩ rfl ?_
      refine r_iload rfl rfl ?_
      obtain ⟨b33, hr⟩ := gopt hr
      refine r_iaload (n := 54) rfl rfl (gvp_in b33) ?_
      refine r_const rfl (gcst 3) ?_
      refine r_icmp_ge 56 rfl rfl (fun c34 => ?_) (fun c34 => ?_)
      · rw [if_pos c34] at hr
        refine r_const rfl (gcst 0) ?_
        refine gforget (ls := [.ref 57, .null, .int v2, .int v3, .int v4, .int v5, .int v6, .null]) ⟨(Or.inl rfl), ⟨(Or.inl rfl), ⟨(Or.inl rfl), ⟨(Or.inl rfl), ⟨(Or.inl rfl), ⟨(Or.inl rfl), ⟨(Or.inl rfl), ⟨(Or.inr (Or.inl ⟨rfl, _, rfl⟩)), trivial⟩⟩⟩⟩⟩⟩⟩⟩ ?_
        exact t_X8_driveOn_57 hK27 hr hQ
      · rw [if_neg c34] at hr
        refine r_const rfl (gcst 1) ?_
        refine r_goto 57 rfl rfl ?_
        refine gforget (ls := [.ref 57, .null, .int v2, .int v3, .int v4, .int v5, .int v6, .null]) ⟨(Or.inl rfl), ⟨(Or.inl rfl), ⟨(Or.inl rfl), ⟨(Or.inl rfl), ⟨(Or.inl rfl), ⟨(Or.inl rfl), ⟨(Or.inl rfl), ⟨(Or.inr (Or.inl ⟨rfl, _, rfl⟩)), trivial⟩⟩⟩⟩⟩⟩⟩⟩ ?_
        exact t_X8_driveOn_57 hK27 hr hQ
def r_X8_driveOn_13   : Nat → Int32 → Int32 → Int32 → Int32 → Int32 → Int32 → (Nat → Nat → Int32) → (Nat → Nat → Int64) → Option gRs
  | 0, _, _, _, _, _, _, _, _ => none
  | m + 1, v1, v2, v3, v4, v5, v6, I, L => (if v5 ≤ v6 then (r_X8_driveOn_27 100 v2 v3 v4 v5 (nI 0) I L) else (if gvp v6 24 = true then ((r_X8_addSung I L v1 (I 69 (gx v6))).bind (fun z37 => (r_X8_driveOn_13  m v1 v2 v3 v4 v5 (v6 + (nI 1)) z37.2.1 z37.2.2))) else none))
set_option maxHeartbeats 4000000 in
set_option maxRecDepth 100000 in
theorem t_X8_driveOn_13 {n f g d : Nat} {Q : gP} {z : gRs}    : ∀ {m : Nat} {v1 : Int32} {v2 : Int32} {v3 : Int32} {v4 : Int32} {v5 : Int32} {v6 : Int32} {I : Nat → Nat → Int32} {L : Nat → Nat → Int64}, r_X8_driveOn_13 m v1 v2 v3 v4 v5 v6 I L = some z → Q (some (.int z.1)) (gKn n, gRf f g, z.2.1, z.2.2) → gW gM (d + 3) 0 0 k_X8_driveOn 13 [.ref 57, .int v1, .int v2, .int v3, .int v4, .int v5, .int v6, .null] [] (gKn n, gRf f g, I, L) Q := by
  intro m
  induction m with
  | zero =>
    intro v1 v2 v3 v4 v5 v6 I L hr _
    cases hr
  | succ m ih =>
    intro v1 v2 v3 v4 v5 v6 I L hr hQ
    have hK13 : ∀ v1 v2 v3 v4 v5 v6 I L, r_X8_driveOn_13 m v1 v2 v3 v4 v5 v6 I L = some z → gW gM (d + 3) 0 0 k_X8_driveOn 13 [.ref 57, .int v1, .int v2, .int v3, .int v4, .int v5, .int v6, .null] [] (gKn n, gRf f g, I, L) Q := fun v1 v2 v3 v4 v5 v6 I L hr => ih hr hQ
    unfold r_X8_driveOn_13 at hr
    refine r_iload rfl rfl ?_
    refine r_iload rfl rfl ?_
    refine r_icmp_ge 25 rfl rfl (fun c35 => ?_) (fun c35 => ?_)
    · rw [if_pos c35] at hr
      refine r_const rfl (gcst 0) ?_
      refine r_istore [.ref 57, .int v1, .int v2, .int v3, .int v4, .int v5, .int (nI 0), .null] rfl rfl (Nat.le_of_ble_eq_true rfl) rfl ?_
      refine gforget (ls := [.ref 57, .null, .int v2, .int v3, .int v4, .int v5, .int (nI 0), .null]) ⟨(Or.inl rfl), ⟨(Or.inr (Or.inl ⟨rfl, _, rfl⟩)), ⟨(Or.inl rfl), ⟨(Or.inl rfl), ⟨(Or.inl rfl), ⟨(Or.inl rfl), ⟨(Or.inl rfl), ⟨(Or.inl rfl), trivial⟩⟩⟩⟩⟩⟩⟩⟩ ?_
      exact t_X8_driveOn_27  hr hQ
    · rw [if_neg c35] at hr
      refine r_aload rfl rfl ?_
      refine r_iload rfl rfl ?_
      refine r_aload rfl rfl ?_
      refine r_getR (c := 8) (k := 23) (v := 69) rfl rfl ⟨rfl, rfl⟩ rfl ?_
      refine r_iload rfl rfl ?_
      obtain ⟨b36, hr⟩ := gopt hr
      refine r_iaload (n := 24) rfl rfl (gvp_in b36) ?_
      obtain ⟨z37, hz37, hr⟩ := gbnd hr
      refine r_invv (a := 57) [.int v1, .int (I 69 (gx v6))] rfl rfl rfl rfl rfl (Nat.le_of_ble_eq_true rfl) ⟨rfl, rfl⟩ ?_
      refine s_X8_addSung  hz37 ?_
      show gW _ _ _ _ _ 23 [.ref 57, .int v1, .int v2, .int v3, .int v4, .int v5, .int v6, .null] [] (gKn n, gRf f g, z37.2.1, z37.2.2) _
      refine r_iinc (y := (v6 + (nI 1))) [.ref 57, .int v1, .int v2, .int v3, .int v4, .int v5, .int (v6 + (nI 1)), .null] rfl rfl rfl (ginc _ 1) rfl ?_
      refine r_goto 13 rfl rfl ?_
      exact hK13 _ _ _ _ _ _ _ _ hr
def r_X8_driveOn (I : Nat → Nat → Int32) (L : Nat → Nat → Int64) (a1 : Int32) (a2 : Int32) (a3 : Int32) : Option gRs := ((r_X8_laySong I L a1 (nI 0) a2 a3).bind (fun z38 => (r_X8_driveOn_13 100 a1 a2 a3 ((nI 27) * a1) z38.1 (nI 0) z38.2.1 z38.2.2)))
set_option maxHeartbeats 4000000 in
set_option maxRecDepth 100000 in
theorem s_X8_driveOn {n f g d : Nat} {Q : gP} {I : Nat → Nat → Int32} {L : Nat → Nat → Int64} {a1 : Int32} {a2 : Int32} {a3 : Int32} {z : gRs}  (hr : r_X8_driveOn I L a1 a2 a3 = some z) (hQ : Q (some (.int z.1)) (gKn n, gRf f g, z.2.1, z.2.2)) : gR gM (d + 3) 126 [.ref 57, .int a1, .int a2, .int a3] (gKn n, gRf f g, I, L) Q := by
  unfold r_X8_driveOn at hr
  show gW gM (d + 3) 0 0 k_X8_driveOn 0 [.ref 57, .int a1, .int a2, .int a3, .null, .null, .null, .null] [] (gKn n, gRf f g, I, L) Q
  refine r_const rfl (gcst 27) ?_
  refine r_iload rfl rfl ?_
  refine r_imul rfl ?_
  refine r_istore [.ref 57, .int a1, .int a2, .int a3, .int ((nI 27) * a1), .null, .null, .null] rfl rfl (Nat.le_of_ble_eq_true rfl) rfl ?_
  refine r_aload rfl rfl ?_
  refine r_iload rfl rfl ?_
  refine r_const rfl (gcst 0) ?_
  refine r_iload rfl rfl ?_
  refine r_iload rfl rfl ?_
  obtain ⟨z38, hz38, hr⟩ := gbnd hr
  refine r_invv (a := 57) [.int a1, .int (nI 0), .int a2, .int a3] rfl rfl rfl rfl rfl (Nat.le_of_ble_eq_true rfl) ⟨rfl, rfl⟩ ?_
  refine s_X8_laySong  hz38 ?_
  show gW _ _ _ _ _ 10 [.ref 57, .int a1, .int a2, .int a3, .int ((nI 27) * a1), .null, .null, .null] [.int z38.1] (gKn n, gRf f g, z38.2.1, z38.2.2) _
  refine r_istore [.ref 57, .int a1, .int a2, .int a3, .int ((nI 27) * a1), .int z38.1, .null, .null] rfl rfl (Nat.le_of_ble_eq_true rfl) rfl ?_
  refine r_const rfl (gcst 0) ?_
  refine r_istore [.ref 57, .int a1, .int a2, .int a3, .int ((nI 27) * a1), .int z38.1, .int (nI 0), .null] rfl rfl (Nat.le_of_ble_eq_true rfl) rfl ?_
  exact t_X8_driveOn_13  hr hQ
def r_X8_lanesOf_24  (K4 : Int32 → Int32 → Int32 → (Nat → Nat → Int32) → (Nat → Nat → Int64) → Option gRs) (v1 : Int32) (v3 : Int32) (s0 : Int32) (s1 : Int32) (I : Nat → Nat → Int32) (L : Nat → Nat → Int64) : Option gRs := (K4 v1 (s0 ||| s1) (v3 + (nI 1)) I L)
set_option maxHeartbeats 4000000 in
set_option maxRecDepth 100000 in
theorem t_X8_lanesOf_24 {n f g d : Nat} {Q : gP} {z : gRs}   {K4 : Int32 → Int32 → Int32 → (Nat → Nat → Int32) → (Nat → Nat → Int64) → Option gRs} (hK4 : ∀ v1 v2 v3 I L, K4 v1 v2 v3 I L = some z → gW gM (d + 0) 0 0 k_X8_lanesOf 4 [.ref 57, .int v1, .int v2, .int v3] [] (gKn n, gRf f g, I, L) Q) {v1 : Int32} {v3 : Int32} {s0 : Int32} {s1 : Int32} {I : Nat → Nat → Int32} {L : Nat → Nat → Int64} (hr : r_X8_lanesOf_24 K4 v1 v3 s0 s1 I L = some z) (hQ : Q (some (.int z.1)) (gKn n, gRf f g, z.2.1, z.2.2)) : gW gM (d + 0) 0 0 k_X8_lanesOf 24 [.ref 57, .int v1, .null, .int v3] [.int s1, .int s0] (gKn n, gRf f g, I, L) Q := by
  unfold r_X8_lanesOf_24 at hr
  refine r_ior rfl ?_
  refine r_istore [.ref 57, .int v1, .int (s0 ||| s1), .int v3] rfl rfl (Nat.le_of_ble_eq_true rfl) rfl ?_
  refine r_iinc (y := (v3 + (nI 1))) [.ref 57, .int v1, .int (s0 ||| s1), .int (v3 + (nI 1))] rfl rfl rfl (ginc _ 1) rfl ?_
  refine r_goto 4 rfl rfl ?_
  exact hK4 _ _ _ _ _ hr
def r_X8_lanesOf_4   : Nat → Int32 → Int32 → Int32 → (Nat → Nat → Int32) → (Nat → Nat → Int64) → Option gRs
  | 0, _, _, _, _, _ => none
  | m + 1, v1, v2, v3, I, L => (if ((nI 3) * (I 57 1)) ≤ v3 then some (v2, I, L) else (if gvp v3 9 = true then (if ¬ (I 59 (gx v3)) = v1 then (r_X8_lanesOf_24 (r_X8_lanesOf_4  m) v1 v3 v2 (nI 0) I L) else (r_X8_lanesOf_24 (r_X8_lanesOf_4  m) v1 v3 v2 (gshl (nI 1) (v3 / (nI 3))) I L)) else none))
set_option maxHeartbeats 4000000 in
set_option maxRecDepth 100000 in
theorem t_X8_lanesOf_4 {n f g d : Nat} {Q : gP} {z : gRs}    : ∀ {m : Nat} {v1 : Int32} {v2 : Int32} {v3 : Int32} {I : Nat → Nat → Int32} {L : Nat → Nat → Int64}, r_X8_lanesOf_4 m v1 v2 v3 I L = some z → Q (some (.int z.1)) (gKn n, gRf f g, z.2.1, z.2.2) → gW gM (d + 0) 0 0 k_X8_lanesOf 4 [.ref 57, .int v1, .int v2, .int v3] [] (gKn n, gRf f g, I, L) Q := by
  intro m
  induction m with
  | zero =>
    intro v1 v2 v3 I L hr _
    cases hr
  | succ m ih =>
    intro v1 v2 v3 I L hr hQ
    have hK4 : ∀ v1 v2 v3 I L, r_X8_lanesOf_4 m v1 v2 v3 I L = some z → gW gM (d + 0) 0 0 k_X8_lanesOf 4 [.ref 57, .int v1, .int v2, .int v3] [] (gKn n, gRf f g, I, L) Q := fun v1 v2 v3 I L hr => ih hr hQ
    unfold r_X8_lanesOf_4 at hr
    refine r_iload rfl rfl ?_
    refine r_const rfl (gcst 3) ?_
    refine r_aload rfl rfl ?_
    refine r_getI (c := 8) (k := 1) rfl rfl ⟨rfl, rfl⟩ ?_
    refine r_imul rfl ?_
    refine r_icmp_ge 28 rfl rfl (fun c7 => ?_) (fun c7 => ?_)
    · rw [if_pos c7] at hr
      refine r_iload rfl rfl ?_
      refine r_iret rfl ?_
      cases hr
      exact hQ
    · rw [if_neg c7] at hr
      refine r_iload rfl rfl ?_
      refine r_aload rfl rfl ?_
      refine r_getR (c := 8) (k := 5) (v := 59) rfl rfl ⟨rfl, rfl⟩ rfl ?_
      refine r_iload rfl rfl ?_
      obtain ⟨b8, hr⟩ := gopt hr
      refine r_iaload (n := 9) rfl rfl (gvp_in b8) ?_
      refine r_iload rfl rfl ?_
      refine r_icmp_ne 23 rfl rfl (fun c9 => ?_) (fun c9 => ?_)
      · rw [if_pos c9] at hr
        refine r_const rfl (gcst 0) ?_
        refine gforget (ls := [.ref 57, .int v1, .null, .int v3]) ⟨(Or.inl rfl), ⟨(Or.inl rfl), ⟨(Or.inr (Or.inl ⟨rfl, _, rfl⟩)), ⟨(Or.inl rfl), trivial⟩⟩⟩⟩ ?_
        exact t_X8_lanesOf_24 hK4 hr hQ
      · rw [if_neg c9] at hr
        refine r_const rfl (gcst 1) ?_
        refine r_iload rfl rfl ?_
        refine r_const rfl (gcst 3) ?_
        refine r_idiv rfl (nI_ne0 (n := 3) (by decide) (by decide)) ?_
        refine r_ishl rfl ?_
        refine r_goto 24 rfl rfl ?_
        refine gforget (ls := [.ref 57, .int v1, .null, .int v3]) ⟨(Or.inl rfl), ⟨(Or.inl rfl), ⟨(Or.inr (Or.inl ⟨rfl, _, rfl⟩)), ⟨(Or.inl rfl), trivial⟩⟩⟩⟩ ?_
        exact t_X8_lanesOf_24 hK4 hr hQ
def r_X8_lanesOf (I : Nat → Nat → Int32) (L : Nat → Nat → Int64) (a1 : Int32) : Option gRs := (r_X8_lanesOf_4 100 a1 (nI 0) (nI 0) I L)
set_option maxHeartbeats 4000000 in
set_option maxRecDepth 100000 in
theorem s_X8_lanesOf {n f g d : Nat} {Q : gP} {I : Nat → Nat → Int32} {L : Nat → Nat → Int64} {a1 : Int32} {z : gRs}  (hr : r_X8_lanesOf I L a1 = some z) (hQ : Q (some (.int z.1)) (gKn n, gRf f g, z.2.1, z.2.2)) : gR gM (d + 0) 127 [.ref 57, .int a1] (gKn n, gRf f g, I, L) Q := by
  unfold r_X8_lanesOf at hr
  show gW gM (d + 0) 0 0 k_X8_lanesOf 0 [.ref 57, .int a1, .null, .null] [] (gKn n, gRf f g, I, L) Q
  refine r_const rfl (gcst 0) ?_
  refine r_istore [.ref 57, .int a1, .int (nI 0), .null] rfl rfl (Nat.le_of_ble_eq_true rfl) rfl ?_
  refine r_const rfl (gcst 0) ?_
  refine r_istore [.ref 57, .int a1, .int (nI 0), .int (nI 0)] rfl rfl (Nat.le_of_ble_eq_true rfl) rfl ?_
  exact t_X8_lanesOf_4  hr hQ
def r_X8_gate (I : Nat → Nat → Int32) (L : Nat → Nat → Int64) (a1 : Int32) (a2 : Int32) : Option gRs := ((r_X8_isGate I L a1).bind (fun z13 => (if ¬ z13.1 = 0 then (if a2 = (nI 0) then (if gvp a1 54 = true then some ((z13.2.1 63 (gx a1)), z13.2.1, z13.2.2) else none) else (if a2 = (nI 1) then (if gvp a1 5 = true then some ((z13.2.1 58 (gx a1)), z13.2.1, z13.2.2) else none) else (if a2 = (nI 2) then (if gvp ((nI 5) + a1) 54 = true then some ((z13.2.1 63 (gx ((nI 5) + a1))), z13.2.1, z13.2.2) else none) else (if a2 = (nI 3) then some (((gshr (z13.2.1 63 (gx (nI 10))) a1) &&& (nI 1)), z13.2.1, z13.2.2) else (if a2 = (nI 4) then some (((gshr (z13.2.1 63 (gx (nI 11))) a1) &&& (nI 1)), z13.2.1, z13.2.2) else (if a2 = (nI 5) then ((r_X8_lanesOf z13.2.1 z13.2.2 a1).bind (fun z24 => some (z24.1, z24.2.1, z24.2.2))) else some ((-2 : Int32), z13.2.1, z13.2.2))))))) else some ((-1 : Int32), z13.2.1, z13.2.2))))
set_option maxHeartbeats 4000000 in
set_option maxRecDepth 100000 in
theorem s_X8_gate {n f g d : Nat} {Q : gP} {I : Nat → Nat → Int32} {L : Nat → Nat → Int64} {a1 : Int32} {a2 : Int32} {z : gRs}  (hr : r_X8_gate I L a1 a2 = some z) (hQ : Q (some (.int z.1)) (gKn n, gRf f g, z.2.1, z.2.2)) : gR gM (d + 2) 128 [.ref 57, .int a1, .int a2] (gKn n, gRf f g, I, L) Q := by
  unfold r_X8_gate at hr
  show gW gM (d + 2) 0 0 k_X8_gate 0 [.ref 57, .int a1, .int a2] [] (gKn n, gRf f g, I, L) Q
  refine r_aload rfl rfl ?_
  refine r_iload rfl rfl ?_
  obtain ⟨z13, hz13, hr⟩ := gbnd hr
  refine r_invv (a := 57) [.int a1] rfl rfl rfl rfl rfl (Nat.le_of_ble_eq_true rfl) ⟨rfl, rfl⟩ ?_
  refine s_X8_isGate  hz13 ?_
  show gW _ _ _ _ _ 3 [.ref 57, .int a1, .int a2] [.int z13.1] (gKn n, gRf f g, z13.2.1, z13.2.2) _
  refine r_if_ne 6 rfl rfl (fun c14 => ?_) (fun c14 => ?_)
  · rw [if_pos c14] at hr
    refine r_iload rfl rfl ?_
    by_cases c15 : a2 = (nI 0)
    · rw [if_pos c15] at hr
      refine r_tsw 8 rfl (by rw [c15]; decide +kernel) ?_
      refine r_aload rfl rfl ?_
      refine r_getR (c := 8) (k := 9) (v := 63) rfl rfl ⟨rfl, rfl⟩ rfl ?_
      refine r_iload rfl rfl ?_
      obtain ⟨b16, hr⟩ := gopt hr
      refine r_iaload (n := 54) rfl rfl (gvp_in b16) ?_
      refine r_iret rfl ?_
      cases hr
      exact hQ
    · rw [if_neg c15] at hr
      by_cases c17 : a2 = (nI 1)
      · rw [if_pos c17] at hr
        refine r_tsw 13 rfl (by rw [c17]; decide +kernel) ?_
        refine r_aload rfl rfl ?_
        refine r_getR (c := 8) (k := 4) (v := 58) rfl rfl ⟨rfl, rfl⟩ rfl ?_
        refine r_iload rfl rfl ?_
        obtain ⟨b18, hr⟩ := gopt hr
        refine r_iaload (n := 5) rfl rfl (gvp_in b18) ?_
        refine r_iret rfl ?_
        cases hr
        exact hQ
      · rw [if_neg c17] at hr
        by_cases c19 : a2 = (nI 2)
        · rw [if_pos c19] at hr
          refine r_tsw 18 rfl (by rw [c19]; decide +kernel) ?_
          refine r_aload rfl rfl ?_
          refine r_getR (c := 8) (k := 9) (v := 63) rfl rfl ⟨rfl, rfl⟩ rfl ?_
          refine r_const rfl (gcst 5) ?_
          refine r_iload rfl rfl ?_
          refine r_iadd rfl ?_
          obtain ⟨b20, hr⟩ := gopt hr
          refine r_iaload (n := 54) rfl rfl (gvp_in b20) ?_
          refine r_iret rfl ?_
          cases hr
          exact hQ
        · rw [if_neg c19] at hr
          by_cases c21 : a2 = (nI 3)
          · rw [if_pos c21] at hr
            refine r_tsw 25 rfl (by rw [c21]; decide +kernel) ?_
            refine r_aload rfl rfl ?_
            refine r_getR (c := 8) (k := 9) (v := 63) rfl rfl ⟨rfl, rfl⟩ rfl ?_
            refine r_const rfl (gcst 10) ?_
            refine r_iaload (n := 54) rfl rfl (vp_in_nI (n := 10) (N := 54) (by decide) (by decide)) ?_
            refine r_iload rfl rfl ?_
            refine r_ishr rfl ?_
            refine r_const rfl (gcst 1) ?_
            refine r_iand rfl ?_
            refine r_iret rfl ?_
            cases hr
            exact hQ
          · rw [if_neg c21] at hr
            by_cases c22 : a2 = (nI 4)
            · rw [if_pos c22] at hr
              refine r_tsw 34 rfl (by rw [c22]; decide +kernel) ?_
              refine r_aload rfl rfl ?_
              refine r_getR (c := 8) (k := 9) (v := 63) rfl rfl ⟨rfl, rfl⟩ rfl ?_
              refine r_const rfl (gcst 11) ?_
              refine r_iaload (n := 54) rfl rfl (vp_in_nI (n := 11) (N := 54) (by decide) (by decide)) ?_
              refine r_iload rfl rfl ?_
              refine r_ishr rfl ?_
              refine r_const rfl (gcst 1) ?_
              refine r_iand rfl ?_
              refine r_iret rfl ?_
              cases hr
              exact hQ
            · rw [if_neg c22] at hr
              by_cases c23 : a2 = (nI 5)
              · rw [if_pos c23] at hr
                refine r_tsw 43 rfl (by rw [c23]; decide +kernel) ?_
                refine r_aload rfl rfl ?_
                refine r_iload rfl rfl ?_
                obtain ⟨z24, hz24, hr⟩ := gbnd hr
                refine r_invv (a := 57) [.int a1] rfl rfl rfl rfl rfl (Nat.le_of_ble_eq_true rfl) ⟨rfl, rfl⟩ ?_
                refine s_X8_lanesOf  hz24 ?_
                show gW _ _ _ _ _ 46 [.ref 57, .int a1, .int a2] [.int z24.1] (gKn n, gRf f g, z24.2.1, z24.2.2) _
                refine r_iret rfl ?_
                cases hr
                exact hQ
              · rw [if_neg c23] at hr
                refine r_tsw 47 rfl (gtab_df rfl (fun z h1 h2 e => by
                    rcases (by omega : z = 0 ∨ z = 1 ∨ z = 2 ∨ z = 3 ∨ z = 4 ∨ z = 5) with rfl | rfl | rfl | rfl | rfl | rfl
                    · exact c15 (gI_of_toInt e)
                    · exact c17 (gI_of_toInt e)
                    · exact c19 (gI_of_toInt e)
                    · exact c21 (gI_of_toInt e)
                    · exact c22 (gI_of_toInt e)
                    · exact c23 (gI_of_toInt e))) ?_
                refine r_const rfl (v := -2) (by decide) ?_
                refine r_iret rfl ?_
                cases hr
                exact hQ
  · rw [if_neg c14] at hr
    refine r_const rfl (v := -1) (by decide) ?_
    refine r_iret rfl ?_
    cases hr
    exact hQ
def r_X8_beast_34   (s0 : Int32) (I : Nat → Nat → Int32) (L : Nat → Nat → Int64) : Option gRs := some (s0, I, L)
set_option maxHeartbeats 4000000 in
set_option maxRecDepth 100000 in
theorem t_X8_beast_34 {n f g d : Nat} {Q : gP} {z : gRs}    {s0 : Int32} {I : Nat → Nat → Int32} {L : Nat → Nat → Int64} (hr : r_X8_beast_34 s0 I L = some z) (hQ : Q (some (.int z.1)) (gKn n, gRf f g, z.2.1, z.2.2)) : gW gM (d + 2) 0 0 k_X8_beast 34 [.null, .null, .null] [.int s0] (gKn n, gRf f g, I, L) Q := by
  unfold r_X8_beast_34 at hr
  refine r_iret rfl ?_
  cases hr
  exact hQ
def r_X8_beast (I : Nat → Nat → Int32) (L : Nat → Nat → Int64) (a1 : Int32) (a2 : Int32) : Option gRs := ((r_X8_isBeast I L a1).bind (fun z15 => (if ¬ z15.1 = 0 then (if ¬ a2 = 0 then (if ¬ a2 = (nI 1) then (if ¬ a2 = (nI 2) then (r_X8_beast_34 (-2 : Int32) z15.2.1 z15.2.2) else (r_X8_beast_34 ((gshr (z15.2.1 63 (gx (nI 12))) a1) &&& (nI 1)) z15.2.1 z15.2.2)) else (if gvp a1 5 = true then (r_X8_beast_34 (z15.2.1 61 (gx a1)) z15.2.1 z15.2.2) else none)) else (if gvp a1 5 = true then (r_X8_beast_34 (z15.2.1 60 (gx a1)) z15.2.1 z15.2.2) else none)) else some ((-1 : Int32), z15.2.1, z15.2.2))))
set_option maxHeartbeats 4000000 in
set_option maxRecDepth 100000 in
theorem s_X8_beast {n f g d : Nat} {Q : gP} {I : Nat → Nat → Int32} {L : Nat → Nat → Int64} {a1 : Int32} {a2 : Int32} {z : gRs}  (hr : r_X8_beast I L a1 a2 = some z) (hQ : Q (some (.int z.1)) (gKn n, gRf f g, z.2.1, z.2.2)) : gR gM (d + 2) 129 [.ref 57, .int a1, .int a2] (gKn n, gRf f g, I, L) Q := by
  unfold r_X8_beast at hr
  show gW gM (d + 2) 0 0 k_X8_beast 0 [.ref 57, .int a1, .int a2] [] (gKn n, gRf f g, I, L) Q
  refine r_aload rfl rfl ?_
  refine r_iload rfl rfl ?_
  obtain ⟨z15, hz15, hr⟩ := gbnd hr
  refine r_invv (a := 57) [.int a1] rfl rfl rfl rfl rfl (Nat.le_of_ble_eq_true rfl) ⟨rfl, rfl⟩ ?_
  refine s_X8_isBeast  hz15 ?_
  show gW _ _ _ _ _ 3 [.ref 57, .int a1, .int a2] [.int z15.1] (gKn n, gRf f g, z15.2.1, z15.2.2) _
  refine r_if_ne 6 rfl rfl (fun c16 => ?_) (fun c16 => ?_)
  · rw [if_pos c16] at hr
    refine r_iload rfl rfl ?_
    refine r_if_ne 13 rfl rfl (fun c17 => ?_) (fun c17 => ?_)
    · rw [if_pos c17] at hr
      refine r_iload rfl rfl ?_
      refine r_const rfl (gcst 1) ?_
      refine r_icmp_ne 21 rfl rfl (fun c18 => ?_) (fun c18 => ?_)
      · rw [if_pos c18] at hr
        refine r_iload rfl rfl ?_
        refine r_const rfl (gcst 2) ?_
        refine r_icmp_ne 33 rfl rfl (fun c19 => ?_) (fun c19 => ?_)
        · rw [if_pos c19] at hr
          refine r_const rfl (v := -2) (by decide) ?_
          refine gforget (ls := [.null, .null, .null]) ⟨(Or.inr (Or.inr ⟨rfl, _, rfl⟩)), ⟨(Or.inr (Or.inl ⟨rfl, _, rfl⟩)), ⟨(Or.inr (Or.inl ⟨rfl, _, rfl⟩)), trivial⟩⟩⟩ ?_
          exact t_X8_beast_34  hr hQ
        · rw [if_neg c19] at hr
          refine r_aload rfl rfl ?_
          refine r_getR (c := 8) (k := 9) (v := 63) rfl rfl ⟨rfl, rfl⟩ rfl ?_
          refine r_const rfl (gcst 12) ?_
          refine r_iaload (n := 54) rfl rfl (vp_in_nI (n := 12) (N := 54) (by decide) (by decide)) ?_
          refine r_iload rfl rfl ?_
          refine r_ishr rfl ?_
          refine r_const rfl (gcst 1) ?_
          refine r_iand rfl ?_
          refine r_goto 34 rfl rfl ?_
          refine gforget (ls := [.null, .null, .null]) ⟨(Or.inr (Or.inr ⟨rfl, _, rfl⟩)), ⟨(Or.inr (Or.inl ⟨rfl, _, rfl⟩)), ⟨(Or.inr (Or.inl ⟨rfl, _, rfl⟩)), trivial⟩⟩⟩ ?_
          exact t_X8_beast_34  hr hQ
      · rw [if_neg c18] at hr
        refine r_aload rfl rfl ?_
        refine r_getR (c := 8) (k := 7) (v := 61) rfl rfl ⟨rfl, rfl⟩ rfl ?_
        refine r_iload rfl rfl ?_
        obtain ⟨b20, hr⟩ := gopt hr
        refine r_iaload (n := 5) rfl rfl (gvp_in b20) ?_
        refine r_goto 34 rfl rfl ?_
        refine gforget (ls := [.null, .null, .null]) ⟨(Or.inr (Or.inr ⟨rfl, _, rfl⟩)), ⟨(Or.inr (Or.inl ⟨rfl, _, rfl⟩)), ⟨(Or.inr (Or.inl ⟨rfl, _, rfl⟩)), trivial⟩⟩⟩ ?_
        exact t_X8_beast_34  hr hQ
    · rw [if_neg c17] at hr
      refine r_aload rfl rfl ?_
      refine r_getR (c := 8) (k := 6) (v := 60) rfl rfl ⟨rfl, rfl⟩ rfl ?_
      refine r_iload rfl rfl ?_
      obtain ⟨b21, hr⟩ := gopt hr
      refine r_iaload (n := 5) rfl rfl (gvp_in b21) ?_
      refine r_goto 34 rfl rfl ?_
      refine gforget (ls := [.null, .null, .null]) ⟨(Or.inr (Or.inr ⟨rfl, _, rfl⟩)), ⟨(Or.inr (Or.inl ⟨rfl, _, rfl⟩)), ⟨(Or.inr (Or.inl ⟨rfl, _, rfl⟩)), trivial⟩⟩⟩ ?_
      exact t_X8_beast_34  hr hQ
  · rw [if_neg c16] at hr
    refine r_const rfl (v := -1) (by decide) ?_
    refine r_iret rfl ?_
    cases hr
    exact hQ
def r_X8_tone_22   (s0 : Int32) (I : Nat → Nat → Int32) (L : Nat → Nat → Int64) : Option gRs := some (s0, I, L)
set_option maxHeartbeats 4000000 in
set_option maxRecDepth 100000 in
theorem t_X8_tone_22 {n f g d : Nat} {Q : gP} {z : gRs}    {s0 : Int32} {I : Nat → Nat → Int32} {L : Nat → Nat → Int64} (hr : r_X8_tone_22 s0 I L = some z) (hQ : Q (some (.int z.1)) (gKn n, gRf f g, z.2.1, z.2.2)) : gW gM (d + 2) 0 0 k_X8_tone 22 [.null, .null, .null] [.int s0] (gKn n, gRf f g, I, L) Q := by
  unfold r_X8_tone_22 at hr
  refine r_iret rfl ?_
  cases hr
  exact hQ
def r_X8_tone (I : Nat → Nat → Int32) (L : Nat → Nat → Int64) (a1 : Int32) (a2 : Int32) : Option gRs := ((r_X8_isGate I L a1).bind (fun z15 => (if z15.1 = 0 then (r_X8_tone_22 (-1 : Int32) z15.2.1 z15.2.2) else ((r_X8_isBeast z15.2.1 z15.2.2 a2).bind (fun z17 => (if z17.1 = 0 then (r_X8_tone_22 (-1 : Int32) z17.2.1 z17.2.2) else (if gvp a2 5 = true then (if gvp a2 5 = true then ((r_X8_toneOf z17.2.1 z17.2.2 (nI 0) a1 (z17.2.1 61 (gx a2)) (z17.2.1 60 (gx a2))).bind (fun z21 => (r_X8_tone_22 z21.1 z21.2.1 z21.2.2))) else none) else none)))))))
set_option maxHeartbeats 4000000 in
set_option maxRecDepth 100000 in
theorem s_X8_tone {n f g d : Nat} {Q : gP} {I : Nat → Nat → Int32} {L : Nat → Nat → Int64} {a1 : Int32} {a2 : Int32} {z : gRs}  (hr : r_X8_tone I L a1 a2 = some z) (hQ : Q (some (.int z.1)) (gKn n, gRf f g, z.2.1, z.2.2)) : gR gM (d + 2) 130 [.ref 57, .int a1, .int a2] (gKn n, gRf f g, I, L) Q := by
  unfold r_X8_tone at hr
  show gW gM (d + 2) 0 0 k_X8_tone 0 [.ref 57, .int a1, .int a2] [] (gKn n, gRf f g, I, L) Q
  refine r_aload rfl rfl ?_
  refine r_iload rfl rfl ?_
  obtain ⟨z15, hz15, hr⟩ := gbnd hr
  refine r_invv (a := 57) [.int a1] rfl rfl rfl rfl rfl (Nat.le_of_ble_eq_true rfl) ⟨rfl, rfl⟩ ?_
  refine s_X8_isGate  hz15 ?_
  show gW _ _ _ _ _ 3 [.ref 57, .int a1, .int a2] [.int z15.1] (gKn n, gRf f g, z15.2.1, z15.2.2) _
  refine r_if_eq 21 rfl rfl (fun c16 => ?_) (fun c16 => ?_)
  · rw [if_pos c16] at hr
    refine r_const rfl (v := -1) (by decide) ?_
    refine gforget (ls := [.null, .null, .null]) ⟨(Or.inr (Or.inr ⟨rfl, _, rfl⟩)), ⟨(Or.inr (Or.inl ⟨rfl, _, rfl⟩)), ⟨(Or.inr (Or.inl ⟨rfl, _, rfl⟩)), trivial⟩⟩⟩ ?_
    exact t_X8_tone_22  hr hQ
  · rw [if_neg c16] at hr
    refine r_aload rfl rfl ?_
    refine r_iload rfl rfl ?_
    obtain ⟨z17, hz17, hr⟩ := gbnd hr
    refine r_invv (a := 57) [.int a2] rfl rfl rfl rfl rfl (Nat.le_of_ble_eq_true rfl) ⟨rfl, rfl⟩ ?_
    refine s_X8_isBeast  hz17 ?_
    show gW _ _ _ _ _ 7 [.ref 57, .int a1, .int a2] [.int z17.1] (gKn n, gRf f g, z17.2.1, z17.2.2) _
    refine r_if_eq 21 rfl rfl (fun c18 => ?_) (fun c18 => ?_)
    · rw [if_pos c18] at hr
      refine r_const rfl (v := -1) (by decide) ?_
      refine gforget (ls := [.null, .null, .null]) ⟨(Or.inr (Or.inr ⟨rfl, _, rfl⟩)), ⟨(Or.inr (Or.inl ⟨rfl, _, rfl⟩)), ⟨(Or.inr (Or.inl ⟨rfl, _, rfl⟩)), trivial⟩⟩⟩ ?_
      exact t_X8_tone_22  hr hQ
    · rw [if_neg c18] at hr
      refine r_aload rfl rfl ?_
      refine r_const rfl (gcst 0) ?_
      refine r_iload rfl rfl ?_
      refine r_aload rfl rfl ?_
      refine r_getR (c := 8) (k := 7) (v := 61) rfl rfl ⟨rfl, rfl⟩ rfl ?_
      refine r_iload rfl rfl ?_
      obtain ⟨b19, hr⟩ := gopt hr
      refine r_iaload (n := 5) rfl rfl (gvp_in b19) ?_
      refine r_aload rfl rfl ?_
      refine r_getR (c := 8) (k := 6) (v := 60) rfl rfl ⟨rfl, rfl⟩ rfl ?_
      refine r_iload rfl rfl ?_
      obtain ⟨b20, hr⟩ := gopt hr
      refine r_iaload (n := 5) rfl rfl (gvp_in b20) ?_
      obtain ⟨z21, hz21, hr⟩ := gbnd hr
      refine r_invv (a := 57) [.int (nI 0), .int a1, .int (z17.2.1 61 (gx a2)), .int (z17.2.1 60 (gx a2))] rfl rfl rfl rfl rfl (Nat.le_of_ble_eq_true rfl) ⟨rfl, rfl⟩ ?_
      refine s_X8_toneOf  hz21 ?_
      show gW _ _ _ _ _ 20 [.ref 57, .int a1, .int a2] [.int z21.1] (gKn n, gRf f g, z21.2.1, z21.2.2) _
      refine r_goto 22 rfl rfl ?_
      refine gforget (ls := [.null, .null, .null]) ⟨(Or.inr (Or.inr ⟨rfl, _, rfl⟩)), ⟨(Or.inr (Or.inl ⟨rfl, _, rfl⟩)), ⟨(Or.inr (Or.inl ⟨rfl, _, rfl⟩)), trivial⟩⟩⟩ ?_
      exact t_X8_tone_22  hr hQ
def r_X8_song_39   (s0 : Int32) (I : Nat → Nat → Int32) (L : Nat → Nat → Int64) : Option gRs := some (s0, I, L)
set_option maxHeartbeats 4000000 in
set_option maxRecDepth 100000 in
theorem t_X8_song_39 {n f g d : Nat} {Q : gP} {z : gRs}    {s0 : Int32} {I : Nat → Nat → Int32} {L : Nat → Nat → Int64} (hr : r_X8_song_39 s0 I L = some z) (hQ : Q (some (.int z.1)) (gKn n, gRf f g, z.2.1, z.2.2)) : gW gM (d + 3) 0 0 k_X8_song 39 [.null, .null, .null, .null, .null] [.int s0] (gKn n, gRf f g, I, L) Q := by
  unfold r_X8_song_39 at hr
  refine r_iret rfl ?_
  cases hr
  exact hQ
def r_X8_song_8    (I : Nat → Nat → Int32) (L : Nat → Nat → Int64) : Option gRs := some ((-1 : Int32), I, L)
set_option maxHeartbeats 4000000 in
set_option maxRecDepth 100000 in
theorem t_X8_song_8 {n f g d : Nat} {Q : gP} {z : gRs}     {I : Nat → Nat → Int32} {L : Nat → Nat → Int64} (hr : r_X8_song_8 I L = some z) (hQ : Q (some (.int z.1)) (gKn n, gRf f g, z.2.1, z.2.2)) : gW gM (d + 3) 0 0 k_X8_song 8 [.null, .null, .null, .null, .null] [] (gKn n, gRf f g, I, L) Q := by
  unfold r_X8_song_8 at hr
  refine r_const rfl (v := -1) (by decide) ?_
  refine r_iret rfl ?_
  cases hr
  exact hQ
def r_X8_song (I : Nat → Nat → Int32) (L : Nat → Nat → Int64) (a1 : Int32) (a2 : Int32) (a3 : Int32) : Option gRs := ((r_X8_isBeast I L a1).bind (fun z19 => (if z19.1 = 0 then (r_X8_song_8 z19.2.1 z19.2.2) else ((r_X8_isLane z19.2.1 z19.2.2 a2).bind (fun z21 => (if ¬ z21.1 = 0 then (if ¬ (f_X8_in z21.2.1 z21.2.2 (Int32.toInt64 a3) (lN 0) (lN 12)) = 0 then ((r_X8_laySong z21.2.1 z21.2.2 (nI 0) (nI 0) a1 a2).bind (fun z24 => (if ¬ a3 = (nI 12) then (if z24.1 ≤ a3 then (r_X8_song_39 (-9 : Int32) z24.2.1 z24.2.2) else (if gvp a3 24 = true then (r_X8_song_39 (z24.2.1 69 (gx a3)) z24.2.1 z24.2.2) else none)) else (r_X8_song_39 z24.1 z24.2.1 z24.2.2)))) else some ((-2 : Int32), z21.2.1, z21.2.2)) else (r_X8_song_8 z21.2.1 z21.2.2)))))))
set_option maxHeartbeats 4000000 in
set_option maxRecDepth 100000 in
theorem s_X8_song {n f g d : Nat} {Q : gP} {I : Nat → Nat → Int32} {L : Nat → Nat → Int64} {a1 : Int32} {a2 : Int32} {a3 : Int32} {z : gRs}  (hr : r_X8_song I L a1 a2 a3 = some z) (hQ : Q (some (.int z.1)) (gKn n, gRf f g, z.2.1, z.2.2)) : gR gM (d + 3) 131 [.ref 57, .int a1, .int a2, .int a3] (gKn n, gRf f g, I, L) Q := by
  unfold r_X8_song at hr
  show gW gM (d + 3) 0 0 k_X8_song 0 [.ref 57, .int a1, .int a2, .int a3, .null] [] (gKn n, gRf f g, I, L) Q
  refine r_aload rfl rfl ?_
  refine r_iload rfl rfl ?_
  obtain ⟨z19, hz19, hr⟩ := gbnd hr
  refine r_invv (a := 57) [.int a1] rfl rfl rfl rfl rfl (Nat.le_of_ble_eq_true rfl) ⟨rfl, rfl⟩ ?_
  refine s_X8_isBeast  hz19 ?_
  show gW _ _ _ _ _ 3 [.ref 57, .int a1, .int a2, .int a3, .null] [.int z19.1] (gKn n, gRf f g, z19.2.1, z19.2.2) _
  refine r_if_eq 8 rfl rfl (fun c20 => ?_) (fun c20 => ?_)
  · rw [if_pos c20] at hr
    refine gforget (ls := [.null, .null, .null, .null, .null]) ⟨(Or.inr (Or.inr ⟨rfl, _, rfl⟩)), ⟨(Or.inr (Or.inl ⟨rfl, _, rfl⟩)), ⟨(Or.inr (Or.inl ⟨rfl, _, rfl⟩)), ⟨(Or.inr (Or.inl ⟨rfl, _, rfl⟩)), ⟨(Or.inl rfl), trivial⟩⟩⟩⟩⟩ ?_
    exact t_X8_song_8  hr hQ
  · rw [if_neg c20] at hr
    refine r_aload rfl rfl ?_
    refine r_iload rfl rfl ?_
    obtain ⟨z21, hz21, hr⟩ := gbnd hr
    refine r_invv (a := 57) [.int a2] rfl rfl rfl rfl rfl (Nat.le_of_ble_eq_true rfl) ⟨rfl, rfl⟩ ?_
    refine s_X8_isLane  hz21 ?_
    show gW _ _ _ _ _ 7 [.ref 57, .int a1, .int a2, .int a3, .null] [.int z21.1] (gKn n, gRf f g, z21.2.1, z21.2.2) _
    refine r_if_ne 10 rfl rfl (fun c22 => ?_) (fun c22 => ?_)
    · rw [if_pos c22] at hr
      refine r_iload rfl rfl ?_
      refine r_i2l rfl ?_
      refine r_lconst (v := lN 0) rfl rfl ?_
      refine r_lconst (v := lN 12) rfl rfl ?_
      refine r_invs [.long (Int32.toInt64 a3), .long (lN 0), .long (lN 12)] rfl rfl rfl rfl (Nat.le_of_ble_eq_true rfl) ⟨rfl, rfl⟩ ?_
      refine s_X8_in  ?_
      show gW _ _ _ _ _ 15 [.ref 57, .int a1, .int a2, .int a3, .null] [.int (f_X8_in z21.2.1 z21.2.2 (Int32.toInt64 a3) (lN 0) (lN 12))] (gKn n, gRf f g, z21.2.1, z21.2.2) _
      refine r_if_ne 18 rfl rfl (fun c23 => ?_) (fun c23 => ?_)
      · rw [if_pos c23] at hr
        refine r_aload rfl rfl ?_
        refine r_const rfl (gcst 0) ?_
        refine r_const rfl (gcst 0) ?_
        refine r_iload rfl rfl ?_
        refine r_iload rfl rfl ?_
        obtain ⟨z24, hz24, hr⟩ := gbnd hr
        refine r_invv (a := 57) [.int (nI 0), .int (nI 0), .int a1, .int a2] rfl rfl rfl rfl rfl (Nat.le_of_ble_eq_true rfl) ⟨rfl, rfl⟩ ?_
        refine s_X8_laySong  hz24 ?_
        show gW _ _ _ _ _ 24 [.ref 57, .int a1, .int a2, .int a3, .null] [.int z24.1] (gKn n, gRf f g, z24.2.1, z24.2.2) _
        refine r_istore [.ref 57, .int a1, .int a2, .int a3, .int z24.1] rfl rfl (Nat.le_of_ble_eq_true rfl) rfl ?_
        refine r_iload rfl rfl ?_
        refine r_const rfl (gcst 12) ?_
        refine r_icmp_ne 30 rfl rfl (fun c25 => ?_) (fun c25 => ?_)
        · rw [if_pos c25] at hr
          refine r_iload rfl rfl ?_
          refine r_iload rfl rfl ?_
          refine r_icmp_ge 38 rfl rfl (fun c26 => ?_) (fun c26 => ?_)
          · rw [if_pos c26] at hr
            refine r_const rfl (v := -9) (by decide) ?_
            refine gforget (ls := [.null, .null, .null, .null, .null]) ⟨(Or.inr (Or.inr ⟨rfl, _, rfl⟩)), ⟨(Or.inr (Or.inl ⟨rfl, _, rfl⟩)), ⟨(Or.inr (Or.inl ⟨rfl, _, rfl⟩)), ⟨(Or.inr (Or.inl ⟨rfl, _, rfl⟩)), ⟨(Or.inr (Or.inl ⟨rfl, _, rfl⟩)), trivial⟩⟩⟩⟩⟩ ?_
            exact t_X8_song_39  hr hQ
          · rw [if_neg c26] at hr
            refine r_aload rfl rfl ?_
            refine r_getR (c := 8) (k := 23) (v := 69) rfl rfl ⟨rfl, rfl⟩ rfl ?_
            refine r_iload rfl rfl ?_
            obtain ⟨b27, hr⟩ := gopt hr
            refine r_iaload (n := 24) rfl rfl (gvp_in b27) ?_
            refine r_goto 39 rfl rfl ?_
            refine gforget (ls := [.null, .null, .null, .null, .null]) ⟨(Or.inr (Or.inr ⟨rfl, _, rfl⟩)), ⟨(Or.inr (Or.inl ⟨rfl, _, rfl⟩)), ⟨(Or.inr (Or.inl ⟨rfl, _, rfl⟩)), ⟨(Or.inr (Or.inl ⟨rfl, _, rfl⟩)), ⟨(Or.inr (Or.inl ⟨rfl, _, rfl⟩)), trivial⟩⟩⟩⟩⟩ ?_
            exact t_X8_song_39  hr hQ
        · rw [if_neg c25] at hr
          refine r_iload rfl rfl ?_
          refine r_goto 39 rfl rfl ?_
          refine gforget (ls := [.null, .null, .null, .null, .null]) ⟨(Or.inr (Or.inr ⟨rfl, _, rfl⟩)), ⟨(Or.inr (Or.inl ⟨rfl, _, rfl⟩)), ⟨(Or.inr (Or.inl ⟨rfl, _, rfl⟩)), ⟨(Or.inr (Or.inl ⟨rfl, _, rfl⟩)), ⟨(Or.inr (Or.inl ⟨rfl, _, rfl⟩)), trivial⟩⟩⟩⟩⟩ ?_
          exact t_X8_song_39  hr hQ
      · rw [if_neg c23] at hr
        refine r_const rfl (v := -2) (by decide) ?_
        refine r_iret rfl ?_
        cases hr
        exact hQ
    · rw [if_neg c22] at hr
      refine gforget (ls := [.null, .null, .null, .null, .null]) ⟨(Or.inr (Or.inr ⟨rfl, _, rfl⟩)), ⟨(Or.inr (Or.inl ⟨rfl, _, rfl⟩)), ⟨(Or.inr (Or.inl ⟨rfl, _, rfl⟩)), ⟨(Or.inr (Or.inl ⟨rfl, _, rfl⟩)), ⟨(Or.inl rfl), trivial⟩⟩⟩⟩⟩ ?_
      exact t_X8_song_8  hr hQ
def r_X8_sungOn_31   (s0 : Int32) (I : Nat → Nat → Int32) (L : Nat → Nat → Int64) : Option gRs := some (s0, I, L)
set_option maxHeartbeats 4000000 in
set_option maxRecDepth 100000 in
theorem t_X8_sungOn_31 {n f g d : Nat} {Q : gP} {z : gRs}    {s0 : Int32} {I : Nat → Nat → Int32} {L : Nat → Nat → Int64} (hr : r_X8_sungOn_31 s0 I L = some z) (hQ : Q (some (.int z.1)) (gKn n, gRf f g, z.2.1, z.2.2)) : gW gM (d + 0) 0 0 k_X8_sungOn 31 [.null, .null, .null, .null] [.int s0] (gKn n, gRf f g, I, L) Q := by
  unfold r_X8_sungOn_31 at hr
  refine r_iret rfl ?_
  cases hr
  exact hQ
def r_X8_sungOn (I : Nat → Nat → Int32) (L : Nat → Nat → Int64) (a1 : Int32) (a2 : Int32) : Option gRs := (if gvp (((nI 27) * a1) + (nI 14)) 54 = true then (if (I 63 (gx (((nI 27) * a1) + (nI 14)))) ≤ a2 then (r_X8_sungOn_31 (-9 : Int32) I L) else (if gvp (((nI 27) * a1) + (nI 14)) 54 = true then (if gvp ((((((nI 27) * a1) + (nI 15)) + (I 63 (gx (((nI 27) * a1) + (nI 14))))) - (nI 1)) - a2) 54 = true then (r_X8_sungOn_31 (I 63 (gx ((((((nI 27) * a1) + (nI 15)) + (I 63 (gx (((nI 27) * a1) + (nI 14))))) - (nI 1)) - a2))) I L) else none) else none)) else none)
set_option maxHeartbeats 4000000 in
set_option maxRecDepth 100000 in
theorem s_X8_sungOn {n f g d : Nat} {Q : gP} {I : Nat → Nat → Int32} {L : Nat → Nat → Int64} {a1 : Int32} {a2 : Int32} {z : gRs}  (hr : r_X8_sungOn I L a1 a2 = some z) (hQ : Q (some (.int z.1)) (gKn n, gRf f g, z.2.1, z.2.2)) : gR gM (d + 0) 132 [.ref 57, .int a1, .int a2] (gKn n, gRf f g, I, L) Q := by
  unfold r_X8_sungOn at hr
  show gW gM (d + 0) 0 0 k_X8_sungOn 0 [.ref 57, .int a1, .int a2, .null] [] (gKn n, gRf f g, I, L) Q
  refine r_const rfl (gcst 27) ?_
  refine r_iload rfl rfl ?_
  refine r_imul rfl ?_
  refine r_istore [.ref 57, .int a1, .int a2, .int ((nI 27) * a1)] rfl rfl (Nat.le_of_ble_eq_true rfl) rfl ?_
  refine r_iload rfl rfl ?_
  refine r_aload rfl rfl ?_
  refine r_getR (c := 8) (k := 9) (v := 63) rfl rfl ⟨rfl, rfl⟩ rfl ?_
  refine r_iload rfl rfl ?_
  refine r_const rfl (gcst 14) ?_
  refine r_iadd rfl ?_
  obtain ⟨b9, hr⟩ := gopt hr
  refine r_iaload (n := 54) rfl rfl (gvp_in b9) ?_
  refine r_icmp_ge 30 rfl rfl (fun c10 => ?_) (fun c10 => ?_)
  · rw [if_pos c10] at hr
    refine r_const rfl (v := -9) (by decide) ?_
    refine gforget (ls := [.null, .null, .null, .null]) ⟨(Or.inr (Or.inr ⟨rfl, _, rfl⟩)), ⟨(Or.inr (Or.inl ⟨rfl, _, rfl⟩)), ⟨(Or.inr (Or.inl ⟨rfl, _, rfl⟩)), ⟨(Or.inr (Or.inl ⟨rfl, _, rfl⟩)), trivial⟩⟩⟩⟩ ?_
    exact t_X8_sungOn_31  hr hQ
  · rw [if_neg c10] at hr
    refine r_aload rfl rfl ?_
    refine r_getR (c := 8) (k := 9) (v := 63) rfl rfl ⟨rfl, rfl⟩ rfl ?_
    refine r_iload rfl rfl ?_
    refine r_const rfl (gcst 15) ?_
    refine r_iadd rfl ?_
    refine r_aload rfl rfl ?_
    refine r_getR (c := 8) (k := 9) (v := 63) rfl rfl ⟨rfl, rfl⟩ rfl ?_
    refine r_iload rfl rfl ?_
    refine r_const rfl (gcst 14) ?_
    refine r_iadd rfl ?_
    obtain ⟨b11, hr⟩ := gopt hr
    refine r_iaload (n := 54) rfl rfl (gvp_in b11) ?_
    refine r_iadd rfl ?_
    refine r_const rfl (gcst 1) ?_
    refine r_isub rfl ?_
    refine r_iload rfl rfl ?_
    refine r_isub rfl ?_
    obtain ⟨b12, hr⟩ := gopt hr
    refine r_iaload (n := 54) rfl rfl (gvp_in b12) ?_
    refine r_goto 31 rfl rfl ?_
    refine gforget (ls := [.null, .null, .null, .null]) ⟨(Or.inr (Or.inr ⟨rfl, _, rfl⟩)), ⟨(Or.inr (Or.inl ⟨rfl, _, rfl⟩)), ⟨(Or.inr (Or.inl ⟨rfl, _, rfl⟩)), ⟨(Or.inr (Or.inl ⟨rfl, _, rfl⟩)), trivial⟩⟩⟩⟩ ?_
    exact t_X8_sungOn_31  hr hQ
def r_X8_sung_12   (s0 : Int32) (I : Nat → Nat → Int32) (L : Nat → Nat → Int64) : Option gRs := some (s0, I, L)
set_option maxHeartbeats 4000000 in
set_option maxRecDepth 100000 in
theorem t_X8_sung_12 {n f g d : Nat} {Q : gP} {z : gRs}    {s0 : Int32} {I : Nat → Nat → Int32} {L : Nat → Nat → Int64} (hr : r_X8_sung_12 s0 I L = some z) (hQ : Q (some (.int z.1)) (gKn n, gRf f g, z.2.1, z.2.2)) : gW gM (d + 1) 0 0 k_X8_sung 12 [.null, .null] [.int s0] (gKn n, gRf f g, I, L) Q := by
  unfold r_X8_sung_12 at hr
  refine r_iret rfl ?_
  cases hr
  exact hQ
def r_X8_sung (I : Nat → Nat → Int32) (L : Nat → Nat → Int64) (a1 : Int32) : Option gRs := (if (f_X8_in I L (Int32.toInt64 a1) (lN 0) (lN 11)) = 0 then (r_X8_sung_12 (-2 : Int32) I L) else ((r_X8_sungOn I L (nI 0) a1).bind (fun z6 => (r_X8_sung_12 z6.1 z6.2.1 z6.2.2))))
set_option maxHeartbeats 4000000 in
set_option maxRecDepth 100000 in
theorem s_X8_sung {n f g d : Nat} {Q : gP} {I : Nat → Nat → Int32} {L : Nat → Nat → Int64} {a1 : Int32} {z : gRs}  (hr : r_X8_sung I L a1 = some z) (hQ : Q (some (.int z.1)) (gKn n, gRf f g, z.2.1, z.2.2)) : gR gM (d + 1) 133 [.ref 57, .int a1] (gKn n, gRf f g, I, L) Q := by
  unfold r_X8_sung at hr
  show gW gM (d + 1) 0 0 k_X8_sung 0 [.ref 57, .int a1] [] (gKn n, gRf f g, I, L) Q
  refine r_iload rfl rfl ?_
  refine r_i2l rfl ?_
  refine r_lconst (v := lN 0) rfl rfl ?_
  refine r_lconst (v := lN 11) rfl rfl ?_
  refine r_invs [.long (Int32.toInt64 a1), .long (lN 0), .long (lN 11)] rfl rfl rfl rfl (Nat.le_of_ble_eq_true rfl) ⟨rfl, rfl⟩ ?_
  refine s_X8_in  ?_
  show gW _ _ _ _ _ 5 [.ref 57, .int a1] [.int (f_X8_in I L (Int32.toInt64 a1) (lN 0) (lN 11))] (gKn n, gRf f g, I, L) _
  refine r_if_eq 11 rfl rfl (fun c5 => ?_) (fun c5 => ?_)
  · rw [if_pos c5] at hr
    refine r_const rfl (v := -2) (by decide) ?_
    refine gforget (ls := [.null, .null]) ⟨(Or.inr (Or.inr ⟨rfl, _, rfl⟩)), ⟨(Or.inr (Or.inl ⟨rfl, _, rfl⟩)), trivial⟩⟩ ?_
    exact t_X8_sung_12  hr hQ
  · rw [if_neg c5] at hr
    refine r_aload rfl rfl ?_
    refine r_const rfl (gcst 0) ?_
    refine r_iload rfl rfl ?_
    obtain ⟨z6, hz6, hr⟩ := gbnd hr
    refine r_invv (a := 57) [.int (nI 0), .int a1] rfl rfl rfl rfl rfl (Nat.le_of_ble_eq_true rfl) ⟨rfl, rfl⟩ ?_
    refine s_X8_sungOn  hz6 ?_
    show gW _ _ _ _ _ 10 [.ref 57, .int a1] [.int z6.1] (gKn n, gRf f g, z6.2.1, z6.2.2) _
    refine r_goto 12 rfl rfl ?_
    refine gforget (ls := [.null, .null]) ⟨(Or.inr (Or.inr ⟨rfl, _, rfl⟩)), ⟨(Or.inr (Or.inl ⟨rfl, _, rfl⟩)), trivial⟩⟩ ?_
    exact t_X8_sung_12  hr hQ
def r_X8_keepAct_39   (s1 : Int32) (I : Nat → Nat → Int32) (L : Nat → Nat → Int64) : Option gRs := some (0, (gu2 I 57 25 s1), L)
set_option maxHeartbeats 4000000 in
set_option maxRecDepth 100000 in
theorem t_X8_keepAct_39 {n f g d : Nat} {Q : gP} {z : gRs}    {s1 : Int32} {I : Nat → Nat → Int32} {L : Nat → Nat → Int64} (hr : r_X8_keepAct_39 s1 I L = some z) (hQ : Q none (gKn n, gRf f g, z.2.1, z.2.2)) : gW gM (d + 0) 0 0 k_X8_keepAct 39 [.null, .null] [.int s1, .ref 57] (gKn n, gRf f g, I, L) Q := by
  unfold r_X8_keepAct_39 at hr
  refine r_putI (c := 8) (k := 25) rfl rfl ⟨rfl, rfl⟩ ?_
  refine r_vret rfl ?_
  cases hr
  exact hQ
def r_X8_keepAct_2   : Nat → Int32 → (Nat → Nat → Int32) → (Nat → Nat → Int64) → Option gRs
  | 0, _, _, _ => none
  | m + 1, v1, I, L => (if (nI 27) ≤ v1 then (if (nI 14) ≤ ((gu2 I 57 26 (grem ((I 57 26) + (nI 1)) (nI 14))) 57 25) then (r_X8_keepAct_39 (nI 14) (gu2 I 57 26 (grem ((I 57 26) + (nI 1)) (nI 14))) L) else (r_X8_keepAct_39 (((gu2 I 57 26 (grem ((I 57 26) + (nI 1)) (nI 14))) 57 25) + (nI 1)) (gu2 I 57 26 (grem ((I 57 26) + (nI 1)) (nI 14))) L)) else (if gvp v1 54 = true then (if gvp (((nI 27) * (I 57 26)) + v1) 378 = true then (r_X8_keepAct_2  m (v1 + (nI 1)) (gu2 I 70 (gx (((nI 27) * (I 57 26)) + v1)) (I 63 (gx v1))) L) else none) else none))
set_option maxHeartbeats 4000000 in
set_option maxRecDepth 100000 in
theorem t_X8_keepAct_2 {n f g d : Nat} {Q : gP} {z : gRs}    : ∀ {m : Nat} {v1 : Int32} {I : Nat → Nat → Int32} {L : Nat → Nat → Int64}, r_X8_keepAct_2 m v1 I L = some z → Q none (gKn n, gRf f g, z.2.1, z.2.2) → gW gM (d + 0) 0 0 k_X8_keepAct 2 [.ref 57, .int v1] [] (gKn n, gRf f g, I, L) Q := by
  intro m
  induction m with
  | zero =>
    intro v1 I L hr _
    cases hr
  | succ m ih =>
    intro v1 I L hr hQ
    have hK2 : ∀ v1 I L, r_X8_keepAct_2 m v1 I L = some z → gW gM (d + 0) 0 0 k_X8_keepAct 2 [.ref 57, .int v1] [] (gKn n, gRf f g, I, L) Q := fun v1 I L hr => ih hr hQ
    unfold r_X8_keepAct_2 at hr
    refine r_iload rfl rfl ?_
    refine r_const rfl (gcst 27) ?_
    refine r_icmp_ge 20 rfl rfl (fun c9 => ?_) (fun c9 => ?_)
    · rw [if_pos c9] at hr
      refine r_aload rfl rfl ?_
      refine r_aload rfl rfl ?_
      refine r_getI (c := 8) (k := 26) rfl rfl ⟨rfl, rfl⟩ ?_
      refine r_const rfl (gcst 1) ?_
      refine r_iadd rfl ?_
      refine r_const rfl (gcst 14) ?_
      refine r_irem rfl (nI_ne0 (n := 14) (by decide) (by decide)) ?_
      refine r_putI (c := 8) (k := 26) rfl rfl ⟨rfl, rfl⟩ ?_
      refine r_aload rfl rfl ?_
      refine r_aload rfl rfl ?_
      refine r_getI (c := 8) (k := 25) rfl rfl ⟨rfl, rfl⟩ ?_
      refine r_const rfl (gcst 14) ?_
      refine r_icmp_ge 38 rfl rfl (fun c10 => ?_) (fun c10 => ?_)
      · rw [if_pos c10] at hr
        refine r_const rfl (gcst 14) ?_
        refine gforget (ls := [.null, .null]) ⟨(Or.inr (Or.inr ⟨rfl, _, rfl⟩)), ⟨(Or.inr (Or.inl ⟨rfl, _, rfl⟩)), trivial⟩⟩ ?_
        exact t_X8_keepAct_39  hr hQ
      · rw [if_neg c10] at hr
        refine r_aload rfl rfl ?_
        refine r_getI (c := 8) (k := 25) rfl rfl ⟨rfl, rfl⟩ ?_
        refine r_const rfl (gcst 1) ?_
        refine r_iadd rfl ?_
        refine r_goto 39 rfl rfl ?_
        refine gforget (ls := [.null, .null]) ⟨(Or.inr (Or.inr ⟨rfl, _, rfl⟩)), ⟨(Or.inr (Or.inl ⟨rfl, _, rfl⟩)), trivial⟩⟩ ?_
        exact t_X8_keepAct_39  hr hQ
    · rw [if_neg c9] at hr
      refine r_aload rfl rfl ?_
      refine r_getR (c := 8) (k := 27) (v := 70) rfl rfl ⟨rfl, rfl⟩ rfl ?_
      refine r_const rfl (gcst 27) ?_
      refine r_aload rfl rfl ?_
      refine r_getI (c := 8) (k := 26) rfl rfl ⟨rfl, rfl⟩ ?_
      refine r_imul rfl ?_
      refine r_iload rfl rfl ?_
      refine r_iadd rfl ?_
      refine r_aload rfl rfl ?_
      refine r_getR (c := 8) (k := 9) (v := 63) rfl rfl ⟨rfl, rfl⟩ rfl ?_
      refine r_iload rfl rfl ?_
      obtain ⟨b11, hr⟩ := gopt hr
      refine r_iaload (n := 54) rfl rfl (gvp_in b11) ?_
      obtain ⟨b12, hr⟩ := gopt hr
      refine r_iastore (n := 378) rfl rfl (gvp_in b12) (by decide) ?_
      refine r_iinc (y := (v1 + (nI 1))) [.ref 57, .int (v1 + (nI 1))] rfl rfl rfl (ginc _ 1) rfl ?_
      refine r_goto 2 rfl rfl ?_
      exact hK2 _ _ _ hr
def r_X8_keepAct (I : Nat → Nat → Int32) (L : Nat → Nat → Int64)  : Option gRs := (r_X8_keepAct_2 100 (nI 0) I L)
set_option maxHeartbeats 4000000 in
set_option maxRecDepth 100000 in
theorem s_X8_keepAct {n f g d : Nat} {Q : gP} {I : Nat → Nat → Int32} {L : Nat → Nat → Int64}  {z : gRs}  (hr : r_X8_keepAct I L  = some z) (hQ : Q none (gKn n, gRf f g, z.2.1, z.2.2)) : gR gM (d + 0) 134 [.ref 57] (gKn n, gRf f g, I, L) Q := by
  unfold r_X8_keepAct at hr
  show gW gM (d + 0) 0 0 k_X8_keepAct 0 [.ref 57, .null] [] (gKn n, gRf f g, I, L) Q
  refine r_const rfl (gcst 0) ?_
  refine r_istore [.ref 57, .int (nI 0)] rfl rfl (Nat.le_of_ble_eq_true rfl) rfl ?_
  exact t_X8_keepAct_2  hr hQ
def r_X8_canDrive_22   (s0 : Int32) (I : Nat → Nat → Int32) (L : Nat → Nat → Int64) : Option gRs := (if (s0 = 0 ∨ s0 = 1) then some (s0, I, L) else none)
set_option maxHeartbeats 4000000 in
set_option maxRecDepth 100000 in
theorem t_X8_canDrive_22 {n f g d : Nat} {Q : gP} {z : gRs}    {s0 : Int32} {I : Nat → Nat → Int32} {L : Nat → Nat → Int64} (hr : r_X8_canDrive_22 s0 I L = some z) (hQ : Q (some (.int z.1)) (gKn n, gRf f g, z.2.1, z.2.2)) : gW gM (d + 2) 0 0 k_X8_canDrive 22 [.null, .null, .null, .null] [.int s0] (gKn n, gRf f g, I, L) Q := by
  unfold r_X8_canDrive_22 at hr
  obtain ⟨b14, hr⟩ := gopt hr
  refine r_zret rfl b14 ?_
  cases hr
  exact hQ
def r_X8_canDrive (I : Nat → Nat → Int32) (L : Nat → Nat → Int64) (a1 : Int32) (a2 : Int32) (a3 : Int32) : Option gRs := ((r_X8_isBeast I L a2).bind (fun z15 => (if z15.1 = 0 then (r_X8_canDrive_22 (nI 0) z15.2.1 z15.2.2) else ((r_X8_isLane z15.2.1 z15.2.2 a3).bind (fun z17 => (if z17.1 = 0 then (r_X8_canDrive_22 (nI 0) z17.2.1 z17.2.2) else (if gvp (((nI 27) * a1) + (nI 12)) 54 = true then (if ¬ (f_X8_bit z17.2.1 z17.2.2 (z17.2.1 63 (gx (((nI 27) * a1) + (nI 12)))) a2) = 0 then (r_X8_canDrive_22 (nI 0) z17.2.1 z17.2.2) else (r_X8_canDrive_22 (nI 1) z17.2.1 z17.2.2)) else none)))))))
set_option maxHeartbeats 4000000 in
set_option maxRecDepth 100000 in
theorem s_X8_canDrive {n f g d : Nat} {Q : gP} {I : Nat → Nat → Int32} {L : Nat → Nat → Int64} {a1 : Int32} {a2 : Int32} {a3 : Int32} {z : gRs}  (hr : r_X8_canDrive I L a1 a2 a3 = some z) (hQ : Q (some (.int z.1)) (gKn n, gRf f g, z.2.1, z.2.2)) : gR gM (d + 2) 135 [.ref 57, .int a1, .int a2, .int a3] (gKn n, gRf f g, I, L) Q := by
  unfold r_X8_canDrive at hr
  show gW gM (d + 2) 0 0 k_X8_canDrive 0 [.ref 57, .int a1, .int a2, .int a3] [] (gKn n, gRf f g, I, L) Q
  refine r_aload rfl rfl ?_
  refine r_iload rfl rfl ?_
  obtain ⟨z15, hz15, hr⟩ := gbnd hr
  refine r_invv (a := 57) [.int a2] rfl rfl rfl rfl rfl (Nat.le_of_ble_eq_true rfl) ⟨rfl, rfl⟩ ?_
  refine s_X8_isBeast  hz15 ?_
  show gW _ _ _ _ _ 3 [.ref 57, .int a1, .int a2, .int a3] [.int z15.1] (gKn n, gRf f g, z15.2.1, z15.2.2) _
  refine r_if_eq 21 rfl rfl (fun c16 => ?_) (fun c16 => ?_)
  · rw [if_pos c16] at hr
    refine r_const rfl (gcst 0) ?_
    refine gforget (ls := [.null, .null, .null, .null]) ⟨(Or.inr (Or.inr ⟨rfl, _, rfl⟩)), ⟨(Or.inr (Or.inl ⟨rfl, _, rfl⟩)), ⟨(Or.inr (Or.inl ⟨rfl, _, rfl⟩)), ⟨(Or.inr (Or.inl ⟨rfl, _, rfl⟩)), trivial⟩⟩⟩⟩ ?_
    exact t_X8_canDrive_22  hr hQ
  · rw [if_neg c16] at hr
    refine r_aload rfl rfl ?_
    refine r_iload rfl rfl ?_
    obtain ⟨z17, hz17, hr⟩ := gbnd hr
    refine r_invv (a := 57) [.int a3] rfl rfl rfl rfl rfl (Nat.le_of_ble_eq_true rfl) ⟨rfl, rfl⟩ ?_
    refine s_X8_isLane  hz17 ?_
    show gW _ _ _ _ _ 7 [.ref 57, .int a1, .int a2, .int a3] [.int z17.1] (gKn n, gRf f g, z17.2.1, z17.2.2) _
    refine r_if_eq 21 rfl rfl (fun c18 => ?_) (fun c18 => ?_)
    · rw [if_pos c18] at hr
      refine r_const rfl (gcst 0) ?_
      refine gforget (ls := [.null, .null, .null, .null]) ⟨(Or.inr (Or.inr ⟨rfl, _, rfl⟩)), ⟨(Or.inr (Or.inl ⟨rfl, _, rfl⟩)), ⟨(Or.inr (Or.inl ⟨rfl, _, rfl⟩)), ⟨(Or.inr (Or.inl ⟨rfl, _, rfl⟩)), trivial⟩⟩⟩⟩ ?_
      exact t_X8_canDrive_22  hr hQ
    · rw [if_neg c18] at hr
      refine r_aload rfl rfl ?_
      refine r_getR (c := 8) (k := 9) (v := 63) rfl rfl ⟨rfl, rfl⟩ rfl ?_
      refine r_const rfl (gcst 27) ?_
      refine r_iload rfl rfl ?_
      refine r_imul rfl ?_
      refine r_const rfl (gcst 12) ?_
      refine r_iadd rfl ?_
      obtain ⟨b19, hr⟩ := gopt hr
      refine r_iaload (n := 54) rfl rfl (gvp_in b19) ?_
      refine r_iload rfl rfl ?_
      refine r_invs [.int (z17.2.1 63 (gx (((nI 27) * a1) + (nI 12)))), .int a2] rfl rfl rfl rfl (Nat.le_of_ble_eq_true rfl) ⟨rfl, rfl⟩ ?_
      refine s_X8_bit  ?_
      show gW _ _ _ _ _ 18 [.ref 57, .int a1, .int a2, .int a3] [.int (f_X8_bit z17.2.1 z17.2.2 (z17.2.1 63 (gx (((nI 27) * a1) + (nI 12)))) a2)] (gKn n, gRf f g, z17.2.1, z17.2.2) _
      refine r_if_ne 21 rfl rfl (fun c20 => ?_) (fun c20 => ?_)
      · rw [if_pos c20] at hr
        refine r_const rfl (gcst 0) ?_
        refine gforget (ls := [.null, .null, .null, .null]) ⟨(Or.inr (Or.inr ⟨rfl, _, rfl⟩)), ⟨(Or.inr (Or.inl ⟨rfl, _, rfl⟩)), ⟨(Or.inr (Or.inl ⟨rfl, _, rfl⟩)), ⟨(Or.inr (Or.inl ⟨rfl, _, rfl⟩)), trivial⟩⟩⟩⟩ ?_
        exact t_X8_canDrive_22  hr hQ
      · rw [if_neg c20] at hr
        refine r_const rfl (gcst 1) ?_
        refine r_goto 22 rfl rfl ?_
        refine gforget (ls := [.null, .null, .null, .null]) ⟨(Or.inr (Or.inr ⟨rfl, _, rfl⟩)), ⟨(Or.inr (Or.inl ⟨rfl, _, rfl⟩)), ⟨(Or.inr (Or.inl ⟨rfl, _, rfl⟩)), ⟨(Or.inr (Or.inl ⟨rfl, _, rfl⟩)), trivial⟩⟩⟩⟩ ?_
        exact t_X8_canDrive_22  hr hQ
def r_X8_drive_8    (I : Nat → Nat → Int32) (L : Nat → Nat → Int64) : Option gRs := some ((-1 : Int32), I, L)
set_option maxHeartbeats 4000000 in
set_option maxRecDepth 100000 in
theorem t_X8_drive_8 {n f g d : Nat} {Q : gP} {z : gRs}     {I : Nat → Nat → Int32} {L : Nat → Nat → Int64} (hr : r_X8_drive_8 I L = some z) (hQ : Q (some (.int z.1)) (gKn n, gRf f g, z.2.1, z.2.2)) : gW gM (d + 4) 0 0 k_X8_drive 8 [.null, .null, .null] [] (gKn n, gRf f g, I, L) Q := by
  unfold r_X8_drive_8 at hr
  refine r_const rfl (v := -1) (by decide) ?_
  refine r_iret rfl ?_
  cases hr
  exact hQ
def r_X8_drive (I : Nat → Nat → Int32) (L : Nat → Nat → Int64) (a1 : Int32) (a2 : Int32) : Option gRs := ((r_X8_isBeast I L a1).bind (fun z17 => (if z17.1 = 0 then (r_X8_drive_8 z17.2.1 z17.2.2) else ((r_X8_isLane z17.2.1 z17.2.2 a2).bind (fun z19 => (if ¬ z19.1 = 0 then ((r_X8_canDrive z19.2.1 z19.2.2 (nI 0) a1 a2).bind (fun z21 => (if ¬ z21.1 = 0 then ((r_X8_keepAct z21.2.1 z21.2.2).bind (fun z23 => ((r_X8_driveOn z23.2.1 z23.2.2 (nI 0) a1 a2).bind (fun z24 => some (z24.1, z24.2.1, z24.2.2))))) else some ((-3 : Int32), z21.2.1, z21.2.2)))) else (r_X8_drive_8 z19.2.1 z19.2.2)))))))
set_option maxHeartbeats 4000000 in
set_option maxRecDepth 100000 in
theorem s_X8_drive {n f g d : Nat} {Q : gP} {I : Nat → Nat → Int32} {L : Nat → Nat → Int64} {a1 : Int32} {a2 : Int32} {z : gRs}  (hr : r_X8_drive I L a1 a2 = some z) (hQ : Q (some (.int z.1)) (gKn n, gRf f g, z.2.1, z.2.2)) : gR gM (d + 4) 136 [.ref 57, .int a1, .int a2] (gKn n, gRf f g, I, L) Q := by
  unfold r_X8_drive at hr
  show gW gM (d + 4) 0 0 k_X8_drive 0 [.ref 57, .int a1, .int a2] [] (gKn n, gRf f g, I, L) Q
  refine r_aload rfl rfl ?_
  refine r_iload rfl rfl ?_
  obtain ⟨z17, hz17, hr⟩ := gbnd hr
  refine r_invv (a := 57) [.int a1] rfl rfl rfl rfl rfl (Nat.le_of_ble_eq_true rfl) ⟨rfl, rfl⟩ ?_
  refine s_X8_isBeast  hz17 ?_
  show gW _ _ _ _ _ 3 [.ref 57, .int a1, .int a2] [.int z17.1] (gKn n, gRf f g, z17.2.1, z17.2.2) _
  refine r_if_eq 8 rfl rfl (fun c18 => ?_) (fun c18 => ?_)
  · rw [if_pos c18] at hr
    refine gforget (ls := [.null, .null, .null]) ⟨(Or.inr (Or.inr ⟨rfl, _, rfl⟩)), ⟨(Or.inr (Or.inl ⟨rfl, _, rfl⟩)), ⟨(Or.inr (Or.inl ⟨rfl, _, rfl⟩)), trivial⟩⟩⟩ ?_
    exact t_X8_drive_8  hr hQ
  · rw [if_neg c18] at hr
    refine r_aload rfl rfl ?_
    refine r_iload rfl rfl ?_
    obtain ⟨z19, hz19, hr⟩ := gbnd hr
    refine r_invv (a := 57) [.int a2] rfl rfl rfl rfl rfl (Nat.le_of_ble_eq_true rfl) ⟨rfl, rfl⟩ ?_
    refine s_X8_isLane  hz19 ?_
    show gW _ _ _ _ _ 7 [.ref 57, .int a1, .int a2] [.int z19.1] (gKn n, gRf f g, z19.2.1, z19.2.2) _
    refine r_if_ne 10 rfl rfl (fun c20 => ?_) (fun c20 => ?_)
    · rw [if_pos c20] at hr
      refine r_aload rfl rfl ?_
      refine r_const rfl (gcst 0) ?_
      refine r_iload rfl rfl ?_
      refine r_iload rfl rfl ?_
      obtain ⟨z21, hz21, hr⟩ := gbnd hr
      refine r_invv (a := 57) [.int (nI 0), .int a1, .int a2] rfl rfl rfl rfl rfl (Nat.le_of_ble_eq_true rfl) ⟨rfl, rfl⟩ ?_
      refine s_X8_canDrive  hz21 ?_
      show gW _ _ _ _ _ 15 [.ref 57, .int a1, .int a2] [.int z21.1] (gKn n, gRf f g, z21.2.1, z21.2.2) _
      refine r_if_ne 18 rfl rfl (fun c22 => ?_) (fun c22 => ?_)
      · rw [if_pos c22] at hr
        refine r_aload rfl rfl ?_
        obtain ⟨z23, hz23, hr⟩ := gbnd hr
        refine r_invv (a := 57) [] rfl rfl rfl rfl rfl (Nat.le_of_ble_eq_true rfl) ⟨rfl, rfl⟩ ?_
        refine s_X8_keepAct  hz23 ?_
        show gW _ _ _ _ _ 20 [.ref 57, .int a1, .int a2] [] (gKn n, gRf f g, z23.2.1, z23.2.2) _
        refine r_aload rfl rfl ?_
        refine r_const rfl (gcst 0) ?_
        refine r_iload rfl rfl ?_
        refine r_iload rfl rfl ?_
        obtain ⟨z24, hz24, hr⟩ := gbnd hr
        refine r_invv (a := 57) [.int (nI 0), .int a1, .int a2] rfl rfl rfl rfl rfl (Nat.le_of_ble_eq_true rfl) ⟨rfl, rfl⟩ ?_
        refine s_X8_driveOn  hz24 ?_
        show gW _ _ _ _ _ 25 [.ref 57, .int a1, .int a2] [.int z24.1] (gKn n, gRf f g, z24.2.1, z24.2.2) _
        refine r_iret rfl ?_
        cases hr
        exact hQ
      · rw [if_neg c22] at hr
        refine r_const rfl (v := -3) (by decide) ?_
        refine r_iret rfl ?_
        cases hr
        exact hQ
    · rw [if_neg c20] at hr
      refine gforget (ls := [.null, .null, .null]) ⟨(Or.inr (Or.inr ⟨rfl, _, rfl⟩)), ⟨(Or.inr (Or.inl ⟨rfl, _, rfl⟩)), ⟨(Or.inr (Or.inl ⟨rfl, _, rfl⟩)), trivial⟩⟩⟩ ?_
      exact t_X8_drive_8  hr hQ
def r_X8_open (I : Nat → Nat → Int32) (L : Nat → Nat → Int64) (a1 : Int32) : Option gRs := ((r_X8_isGate I L a1).bind (fun z4 => (if ¬ z4.1 = 0 then ((r_X8_keepAct z4.2.1 z4.2.2).bind (fun z6 => some (((gshr ((gu2 z6.2.1 63 (gx (nI 10)) ((z6.2.1 63 (gx (nI 10))) ^^^ (gshl (nI 1) a1))) 63 (gx (nI 10))) a1) &&& (nI 1)), (gu2 z6.2.1 63 (gx (nI 10)) ((z6.2.1 63 (gx (nI 10))) ^^^ (gshl (nI 1) a1))), z6.2.2))) else some ((-1 : Int32), z4.2.1, z4.2.2))))
set_option maxHeartbeats 4000000 in
set_option maxRecDepth 100000 in
theorem s_X8_open {n f g d : Nat} {Q : gP} {I : Nat → Nat → Int32} {L : Nat → Nat → Int64} {a1 : Int32} {z : gRs}  (hr : r_X8_open I L a1 = some z) (hQ : Q (some (.int z.1)) (gKn n, gRf f g, z.2.1, z.2.2)) : gR gM (d + 2) 137 [.ref 57, .int a1] (gKn n, gRf f g, I, L) Q := by
  unfold r_X8_open at hr
  show gW gM (d + 2) 0 0 k_X8_open 0 [.ref 57, .int a1] [] (gKn n, gRf f g, I, L) Q
  refine r_aload rfl rfl ?_
  refine r_iload rfl rfl ?_
  obtain ⟨z4, hz4, hr⟩ := gbnd hr
  refine r_invv (a := 57) [.int a1] rfl rfl rfl rfl rfl (Nat.le_of_ble_eq_true rfl) ⟨rfl, rfl⟩ ?_
  refine s_X8_isGate  hz4 ?_
  show gW _ _ _ _ _ 3 [.ref 57, .int a1] [.int z4.1] (gKn n, gRf f g, z4.2.1, z4.2.2) _
  refine r_if_ne 6 rfl rfl (fun c5 => ?_) (fun c5 => ?_)
  · rw [if_pos c5] at hr
    refine r_aload rfl rfl ?_
    obtain ⟨z6, hz6, hr⟩ := gbnd hr
    refine r_invv (a := 57) [] rfl rfl rfl rfl rfl (Nat.le_of_ble_eq_true rfl) ⟨rfl, rfl⟩ ?_
    refine s_X8_keepAct  hz6 ?_
    show gW _ _ _ _ _ 8 [.ref 57, .int a1] [] (gKn n, gRf f g, z6.2.1, z6.2.2) _
    refine r_aload rfl rfl ?_
    refine r_getR (c := 8) (k := 9) (v := 63) rfl rfl ⟨rfl, rfl⟩ rfl ?_
    refine r_const rfl (gcst 10) ?_
    refine r_dup2 rfl rfl rfl ?_
    refine r_iaload (n := 54) rfl rfl (vp_in_nI (n := 10) (N := 54) (by decide) (by decide)) ?_
    refine r_const rfl (gcst 1) ?_
    refine r_iload rfl rfl ?_
    refine r_ishl rfl ?_
    refine r_ixor rfl ?_
    refine r_iastore (n := 54) rfl rfl (vp_in_nI (n := 10) (N := 54) (by decide) (by decide)) (by decide) ?_
    refine r_aload rfl rfl ?_
    refine r_getR (c := 8) (k := 9) (v := 63) rfl rfl ⟨rfl, rfl⟩ rfl ?_
    refine r_const rfl (gcst 10) ?_
    refine r_iaload (n := 54) rfl rfl (vp_in_nI (n := 10) (N := 54) (by decide) (by decide)) ?_
    refine r_iload rfl rfl ?_
    refine r_ishr rfl ?_
    refine r_const rfl (gcst 1) ?_
    refine r_iand rfl ?_
    refine r_iret rfl ?_
    cases hr
    exact hQ
  · rw [if_neg c5] at hr
    refine r_const rfl (v := -1) (by decide) ?_
    refine r_iret rfl ?_
    cases hr
    exact hQ
def r_X8_oil (I : Nat → Nat → Int32) (L : Nat → Nat → Int64) (a1 : Int32) : Option gRs := ((r_X8_isGate I L a1).bind (fun z4 => (if ¬ z4.1 = 0 then ((r_X8_keepAct z4.2.1 z4.2.2).bind (fun z6 => some (((gshr ((gu2 z6.2.1 63 (gx (nI 11)) ((z6.2.1 63 (gx (nI 11))) ^^^ (gshl (nI 1) a1))) 63 (gx (nI 11))) a1) &&& (nI 1)), (gu2 z6.2.1 63 (gx (nI 11)) ((z6.2.1 63 (gx (nI 11))) ^^^ (gshl (nI 1) a1))), z6.2.2))) else some ((-1 : Int32), z4.2.1, z4.2.2))))
set_option maxHeartbeats 4000000 in
set_option maxRecDepth 100000 in
theorem s_X8_oil {n f g d : Nat} {Q : gP} {I : Nat → Nat → Int32} {L : Nat → Nat → Int64} {a1 : Int32} {z : gRs}  (hr : r_X8_oil I L a1 = some z) (hQ : Q (some (.int z.1)) (gKn n, gRf f g, z.2.1, z.2.2)) : gR gM (d + 2) 138 [.ref 57, .int a1] (gKn n, gRf f g, I, L) Q := by
  unfold r_X8_oil at hr
  show gW gM (d + 2) 0 0 k_X8_oil 0 [.ref 57, .int a1] [] (gKn n, gRf f g, I, L) Q
  refine r_aload rfl rfl ?_
  refine r_iload rfl rfl ?_
  obtain ⟨z4, hz4, hr⟩ := gbnd hr
  refine r_invv (a := 57) [.int a1] rfl rfl rfl rfl rfl (Nat.le_of_ble_eq_true rfl) ⟨rfl, rfl⟩ ?_
  refine s_X8_isGate  hz4 ?_
  show gW _ _ _ _ _ 3 [.ref 57, .int a1] [.int z4.1] (gKn n, gRf f g, z4.2.1, z4.2.2) _
  refine r_if_ne 6 rfl rfl (fun c5 => ?_) (fun c5 => ?_)
  · rw [if_pos c5] at hr
    refine r_aload rfl rfl ?_
    obtain ⟨z6, hz6, hr⟩ := gbnd hr
    refine r_invv (a := 57) [] rfl rfl rfl rfl rfl (Nat.le_of_ble_eq_true rfl) ⟨rfl, rfl⟩ ?_
    refine s_X8_keepAct  hz6 ?_
    show gW _ _ _ _ _ 8 [.ref 57, .int a1] [] (gKn n, gRf f g, z6.2.1, z6.2.2) _
    refine r_aload rfl rfl ?_
    refine r_getR (c := 8) (k := 9) (v := 63) rfl rfl ⟨rfl, rfl⟩ rfl ?_
    refine r_const rfl (gcst 11) ?_
    refine r_dup2 rfl rfl rfl ?_
    refine r_iaload (n := 54) rfl rfl (vp_in_nI (n := 11) (N := 54) (by decide) (by decide)) ?_
    refine r_const rfl (gcst 1) ?_
    refine r_iload rfl rfl ?_
    refine r_ishl rfl ?_
    refine r_ixor rfl ?_
    refine r_iastore (n := 54) rfl rfl (vp_in_nI (n := 11) (N := 54) (by decide) (by decide)) (by decide) ?_
    refine r_aload rfl rfl ?_
    refine r_getR (c := 8) (k := 9) (v := 63) rfl rfl ⟨rfl, rfl⟩ rfl ?_
    refine r_const rfl (gcst 11) ?_
    refine r_iaload (n := 54) rfl rfl (vp_in_nI (n := 11) (N := 54) (by decide) (by decide)) ?_
    refine r_iload rfl rfl ?_
    refine r_ishr rfl ?_
    refine r_const rfl (gcst 1) ?_
    refine r_iand rfl ?_
    refine r_iret rfl ?_
    cases hr
    exact hQ
  · rw [if_neg c5] at hr
    refine r_const rfl (v := -1) (by decide) ?_
    refine r_iret rfl ?_
    cases hr
    exact hQ
def r_X8_hang_20   (v1 : Int32) (s1 : Int32) (s2 : Int32) (s3 : Int32) (I : Nat → Nat → Int32) (L : Nat → Nat → Int64) : Option gRs := (if gvp s1 54 = true then (if gvp v1 54 = true then some (((gu2 I 63 (gx s1) (grem (s2 + s3) (nI 12))) 63 (gx v1)), (gu2 I 63 (gx s1) (grem (s2 + s3) (nI 12))), L) else none) else none)
set_option maxHeartbeats 4000000 in
set_option maxRecDepth 100000 in
theorem t_X8_hang_20 {n f g d : Nat} {Q : gP} {z : gRs}    {v1 : Int32} {s1 : Int32} {s2 : Int32} {s3 : Int32} {I : Nat → Nat → Int32} {L : Nat → Nat → Int64} (hr : r_X8_hang_20 v1 s1 s2 s3 I L = some z) (hQ : Q (some (.int z.1)) (gKn n, gRf f g, z.2.1, z.2.2)) : gW gM (d + 2) 0 0 k_X8_hang 20 [.ref 57, .int v1, .null] [.int s3, .int s2, .int s1, .ref 63] (gKn n, gRf f g, I, L) Q := by
  unfold r_X8_hang_20 at hr
  refine r_iadd rfl ?_
  refine r_const rfl (gcst 12) ?_
  refine r_irem rfl (nI_ne0 (n := 12) (by decide) (by decide)) ?_
  obtain ⟨b13, hr⟩ := gopt hr
  refine r_iastore (n := 54) rfl rfl (gvp_in b13) (by decide) ?_
  refine r_aload rfl rfl ?_
  refine r_getR (c := 8) (k := 9) (v := 63) rfl rfl ⟨rfl, rfl⟩ rfl ?_
  refine r_iload rfl rfl ?_
  obtain ⟨b14, hr⟩ := gopt hr
  refine r_iaload (n := 54) rfl rfl (gvp_in b14) ?_
  refine r_iret rfl ?_
  cases hr
  exact hQ
def r_X8_hang (I : Nat → Nat → Int32) (L : Nat → Nat → Int64) (a1 : Int32) (a2 : Int32) : Option gRs := ((r_X8_isGate I L a1).bind (fun z15 => (if ¬ z15.1 = 0 then ((r_X8_keepAct z15.2.1 z15.2.2).bind (fun z17 => (if gvp a1 54 = true then (if a2 = 0 then (r_X8_hang_20 a1 a1 (z17.2.1 63 (gx a1)) (nI 11) z17.2.1 z17.2.2) else (r_X8_hang_20 a1 a1 (z17.2.1 63 (gx a1)) (nI 1) z17.2.1 z17.2.2)) else none))) else some ((-1 : Int32), z15.2.1, z15.2.2))))
set_option maxHeartbeats 4000000 in
set_option maxRecDepth 100000 in
theorem s_X8_hang {n f g d : Nat} {Q : gP} {I : Nat → Nat → Int32} {L : Nat → Nat → Int64} {a1 : Int32} {a2 : Int32} {z : gRs}  (hr : r_X8_hang I L a1 a2 = some z) (hQ : Q (some (.int z.1)) (gKn n, gRf f g, z.2.1, z.2.2)) : gR gM (d + 2) 139 [.ref 57, .int a1, .int a2] (gKn n, gRf f g, I, L) Q := by
  unfold r_X8_hang at hr
  show gW gM (d + 2) 0 0 k_X8_hang 0 [.ref 57, .int a1, .int a2] [] (gKn n, gRf f g, I, L) Q
  refine r_aload rfl rfl ?_
  refine r_iload rfl rfl ?_
  obtain ⟨z15, hz15, hr⟩ := gbnd hr
  refine r_invv (a := 57) [.int a1] rfl rfl rfl rfl rfl (Nat.le_of_ble_eq_true rfl) ⟨rfl, rfl⟩ ?_
  refine s_X8_isGate  hz15 ?_
  show gW _ _ _ _ _ 3 [.ref 57, .int a1, .int a2] [.int z15.1] (gKn n, gRf f g, z15.2.1, z15.2.2) _
  refine r_if_ne 6 rfl rfl (fun c16 => ?_) (fun c16 => ?_)
  · rw [if_pos c16] at hr
    refine r_aload rfl rfl ?_
    obtain ⟨z17, hz17, hr⟩ := gbnd hr
    refine r_invv (a := 57) [] rfl rfl rfl rfl rfl (Nat.le_of_ble_eq_true rfl) ⟨rfl, rfl⟩ ?_
    refine s_X8_keepAct  hz17 ?_
    show gW _ _ _ _ _ 8 [.ref 57, .int a1, .int a2] [] (gKn n, gRf f g, z17.2.1, z17.2.2) _
    refine r_aload rfl rfl ?_
    refine r_getR (c := 8) (k := 9) (v := 63) rfl rfl ⟨rfl, rfl⟩ rfl ?_
    refine r_iload rfl rfl ?_
    refine r_aload rfl rfl ?_
    refine r_getR (c := 8) (k := 9) (v := 63) rfl rfl ⟨rfl, rfl⟩ rfl ?_
    refine r_iload rfl rfl ?_
    obtain ⟨b18, hr⟩ := gopt hr
    refine r_iaload (n := 54) rfl rfl (gvp_in b18) ?_
    refine r_iload rfl rfl ?_
    refine r_if_eq 19 rfl rfl (fun c19 => ?_) (fun c19 => ?_)
    · rw [if_pos c19] at hr
      refine r_const rfl (gcst 11) ?_
      refine gforget (ls := [.ref 57, .int a1, .null]) ⟨(Or.inl rfl), ⟨(Or.inl rfl), ⟨(Or.inr (Or.inl ⟨rfl, _, rfl⟩)), trivial⟩⟩⟩ ?_
      exact t_X8_hang_20  hr hQ
    · rw [if_neg c19] at hr
      refine r_const rfl (gcst 1) ?_
      refine r_goto 20 rfl rfl ?_
      refine gforget (ls := [.ref 57, .int a1, .null]) ⟨(Or.inl rfl), ⟨(Or.inl rfl), ⟨(Or.inr (Or.inl ⟨rfl, _, rfl⟩)), trivial⟩⟩⟩ ?_
      exact t_X8_hang_20  hr hQ
  · rw [if_neg c16] at hr
    refine r_const rfl (v := -1) (by decide) ?_
    refine r_iret rfl ?_
    cases hr
    exact hQ
def r_X8_turnOut (I : Nat → Nat → Int32) (L : Nat → Nat → Int64) (a1 : Int32) : Option gRs := ((r_X8_isBeast I L a1).bind (fun z6 => (if ¬ z6.1 = 0 then (if ¬ (f_X8_bit z6.2.1 z6.2.2 (z6.2.1 63 (gx (nI 12))) a1) = 0 then ((r_X8_keepAct z6.2.1 z6.2.2).bind (fun z9 => ((r_X8_ones (gu2 z9.2.1 63 (gx (nI 12)) ((z9.2.1 63 (gx (nI 12))) &&& ((gshl (nI 1) a1) ^^^ (-1 : Int32)))) z9.2.2 ((gu2 z9.2.1 63 (gx (nI 12)) ((z9.2.1 63 (gx (nI 12))) &&& ((gshl (nI 1) a1) ^^^ (-1 : Int32)))) 63 (gx (nI 12)))).bind (fun z10 => some (z10.1, z10.2.1, z10.2.2))))) else some ((-3 : Int32), z6.2.1, z6.2.2)) else some ((-1 : Int32), z6.2.1, z6.2.2))))
set_option maxHeartbeats 4000000 in
set_option maxRecDepth 100000 in
theorem s_X8_turnOut {n f g d : Nat} {Q : gP} {I : Nat → Nat → Int32} {L : Nat → Nat → Int64} {a1 : Int32} {z : gRs}  (hr : r_X8_turnOut I L a1 = some z) (hQ : Q (some (.int z.1)) (gKn n, gRf f g, z.2.1, z.2.2)) : gR gM (d + 2) 140 [.ref 57, .int a1] (gKn n, gRf f g, I, L) Q := by
  unfold r_X8_turnOut at hr
  show gW gM (d + 2) 0 0 k_X8_turnOut 0 [.ref 57, .int a1] [] (gKn n, gRf f g, I, L) Q
  refine r_aload rfl rfl ?_
  refine r_iload rfl rfl ?_
  obtain ⟨z6, hz6, hr⟩ := gbnd hr
  refine r_invv (a := 57) [.int a1] rfl rfl rfl rfl rfl (Nat.le_of_ble_eq_true rfl) ⟨rfl, rfl⟩ ?_
  refine s_X8_isBeast  hz6 ?_
  show gW _ _ _ _ _ 3 [.ref 57, .int a1] [.int z6.1] (gKn n, gRf f g, z6.2.1, z6.2.2) _
  refine r_if_ne 6 rfl rfl (fun c7 => ?_) (fun c7 => ?_)
  · rw [if_pos c7] at hr
    refine r_aload rfl rfl ?_
    refine r_getR (c := 8) (k := 9) (v := 63) rfl rfl ⟨rfl, rfl⟩ rfl ?_
    refine r_const rfl (gcst 12) ?_
    refine r_iaload (n := 54) rfl rfl (vp_in_nI (n := 12) (N := 54) (by decide) (by decide)) ?_
    refine r_iload rfl rfl ?_
    refine r_invs [.int (z6.2.1 63 (gx (nI 12))), .int a1] rfl rfl rfl rfl (Nat.le_of_ble_eq_true rfl) ⟨rfl, rfl⟩ ?_
    refine s_X8_bit  ?_
    show gW _ _ _ _ _ 12 [.ref 57, .int a1] [.int (f_X8_bit z6.2.1 z6.2.2 (z6.2.1 63 (gx (nI 12))) a1)] (gKn n, gRf f g, z6.2.1, z6.2.2) _
    refine r_if_ne 15 rfl rfl (fun c8 => ?_) (fun c8 => ?_)
    · rw [if_pos c8] at hr
      refine r_aload rfl rfl ?_
      obtain ⟨z9, hz9, hr⟩ := gbnd hr
      refine r_invv (a := 57) [] rfl rfl rfl rfl rfl (Nat.le_of_ble_eq_true rfl) ⟨rfl, rfl⟩ ?_
      refine s_X8_keepAct  hz9 ?_
      show gW _ _ _ _ _ 17 [.ref 57, .int a1] [] (gKn n, gRf f g, z9.2.1, z9.2.2) _
      refine r_aload rfl rfl ?_
      refine r_getR (c := 8) (k := 9) (v := 63) rfl rfl ⟨rfl, rfl⟩ rfl ?_
      refine r_const rfl (gcst 12) ?_
      refine r_dup2 rfl rfl rfl ?_
      refine r_iaload (n := 54) rfl rfl (vp_in_nI (n := 12) (N := 54) (by decide) (by decide)) ?_
      refine r_const rfl (gcst 1) ?_
      refine r_iload rfl rfl ?_
      refine r_ishl rfl ?_
      refine r_const rfl (v := -1) (by decide) ?_
      refine r_ixor rfl ?_
      refine r_iand rfl ?_
      refine r_iastore (n := 54) rfl rfl (vp_in_nI (n := 12) (N := 54) (by decide) (by decide)) (by decide) ?_
      refine r_aload rfl rfl ?_
      refine r_getR (c := 8) (k := 9) (v := 63) rfl rfl ⟨rfl, rfl⟩ rfl ?_
      refine r_const rfl (gcst 12) ?_
      refine r_iaload (n := 54) rfl rfl (vp_in_nI (n := 12) (N := 54) (by decide) (by decide)) ?_
      obtain ⟨z10, hz10, hr⟩ := gbnd hr
      refine r_invs [.int ((gu2 z9.2.1 63 (gx (nI 12)) ((z9.2.1 63 (gx (nI 12))) &&& ((gshl (nI 1) a1) ^^^ (-1 : Int32)))) 63 (gx (nI 12)))] rfl rfl rfl rfl (Nat.le_of_ble_eq_true rfl) ⟨rfl, rfl⟩ ?_
      refine s_X8_ones  hz10 ?_
      show gW _ _ _ _ _ 34 [.ref 57, .int a1] [.int z10.1] (gKn n, gRf f g, z10.2.1, z10.2.2) _
      refine r_iret rfl ?_
      cases hr
      exact hQ
    · rw [if_neg c8] at hr
      refine r_const rfl (v := -3) (by decide) ?_
      refine r_iret rfl ?_
      cases hr
      exact hQ
  · rw [if_neg c7] at hr
    refine r_const rfl (v := -1) (by decide) ?_
    refine r_iret rfl ?_
    cases hr
    exact hQ
def r_X8_frost (I : Nat → Nat → Int32) (L : Nat → Nat → Int64)  : Option gRs := ((r_X8_keepAct I L).bind (fun z2 => some (((gu2 z2.2.1 63 (gx (nI 13)) ((nI 1) - (z2.2.1 63 (gx (nI 13))))) 63 (gx (nI 13))), (gu2 z2.2.1 63 (gx (nI 13)) ((nI 1) - (z2.2.1 63 (gx (nI 13))))), z2.2.2)))
set_option maxHeartbeats 4000000 in
set_option maxRecDepth 100000 in
theorem s_X8_frost {n f g d : Nat} {Q : gP} {I : Nat → Nat → Int32} {L : Nat → Nat → Int64}  {z : gRs}  (hr : r_X8_frost I L  = some z) (hQ : Q (some (.int z.1)) (gKn n, gRf f g, z.2.1, z.2.2)) : gR gM (d + 1) 141 [.ref 57] (gKn n, gRf f g, I, L) Q := by
  unfold r_X8_frost at hr
  show gW gM (d + 1) 0 0 k_X8_frost 0 [.ref 57] [] (gKn n, gRf f g, I, L) Q
  refine r_aload rfl rfl ?_
  obtain ⟨z2, hz2, hr⟩ := gbnd hr
  refine r_invv (a := 57) [] rfl rfl rfl rfl rfl (Nat.le_of_ble_eq_true rfl) ⟨rfl, rfl⟩ ?_
  refine s_X8_keepAct  hz2 ?_
  show gW _ _ _ _ _ 2 [.ref 57] [] (gKn n, gRf f g, z2.2.1, z2.2.2) _
  refine r_aload rfl rfl ?_
  refine r_getR (c := 8) (k := 9) (v := 63) rfl rfl ⟨rfl, rfl⟩ rfl ?_
  refine r_const rfl (gcst 13) ?_
  refine r_const rfl (gcst 1) ?_
  refine r_aload rfl rfl ?_
  refine r_getR (c := 8) (k := 9) (v := 63) rfl rfl ⟨rfl, rfl⟩ rfl ?_
  refine r_const rfl (gcst 13) ?_
  refine r_iaload (n := 54) rfl rfl (vp_in_nI (n := 13) (N := 54) (by decide) (by decide)) ?_
  refine r_isub rfl ?_
  refine r_iastore (n := 54) rfl rfl (vp_in_nI (n := 13) (N := 54) (by decide) (by decide)) (by decide) ?_
  refine r_aload rfl rfl ?_
  refine r_getR (c := 8) (k := 9) (v := 63) rfl rfl ⟨rfl, rfl⟩ rfl ?_
  refine r_const rfl (gcst 13) ?_
  refine r_iaload (n := 54) rfl rfl (vp_in_nI (n := 13) (N := 54) (by decide) (by decide)) ?_
  refine r_iret rfl ?_
  cases hr
  exact hQ
def r_X8_undo_21   : Nat → Int32 → (Nat → Nat → Int32) → (Nat → Nat → Int64) → Option gRs
  | 0, _, _, _ => none
  | m + 1, v1, I, L => (if (nI 27) ≤ v1 then some ((I 57 25), I, L) else (if gvp (((nI 27) * (I 57 26)) + v1) 378 = true then (if gvp v1 54 = true then (r_X8_undo_21  m (v1 + (nI 1)) (gu2 I 63 (gx v1) (I 70 (gx (((nI 27) * (I 57 26)) + v1)))) L) else none) else none))
set_option maxHeartbeats 4000000 in
set_option maxRecDepth 100000 in
theorem t_X8_undo_21 {n f g d : Nat} {Q : gP} {z : gRs}    : ∀ {m : Nat} {v1 : Int32} {I : Nat → Nat → Int32} {L : Nat → Nat → Int64}, r_X8_undo_21 m v1 I L = some z → Q (some (.int z.1)) (gKn n, gRf f g, z.2.1, z.2.2) → gW gM (d + 0) 0 0 k_X8_undo 21 [.ref 57, .int v1] [] (gKn n, gRf f g, I, L) Q := by
  intro m
  induction m with
  | zero =>
    intro v1 I L hr _
    cases hr
  | succ m ih =>
    intro v1 I L hr hQ
    have hK21 : ∀ v1 I L, r_X8_undo_21 m v1 I L = some z → gW gM (d + 0) 0 0 k_X8_undo 21 [.ref 57, .int v1] [] (gKn n, gRf f g, I, L) Q := fun v1 I L hr => ih hr hQ
    unfold r_X8_undo_21 at hr
    refine r_iload rfl rfl ?_
    refine r_const rfl (gcst 27) ?_
    refine r_icmp_ge 39 rfl rfl (fun c5 => ?_) (fun c5 => ?_)
    · rw [if_pos c5] at hr
      refine r_aload rfl rfl ?_
      refine r_getI (c := 8) (k := 25) rfl rfl ⟨rfl, rfl⟩ ?_
      refine r_iret rfl ?_
      cases hr
      exact hQ
    · rw [if_neg c5] at hr
      refine r_aload rfl rfl ?_
      refine r_getR (c := 8) (k := 9) (v := 63) rfl rfl ⟨rfl, rfl⟩ rfl ?_
      refine r_iload rfl rfl ?_
      refine r_aload rfl rfl ?_
      refine r_getR (c := 8) (k := 27) (v := 70) rfl rfl ⟨rfl, rfl⟩ rfl ?_
      refine r_const rfl (gcst 27) ?_
      refine r_aload rfl rfl ?_
      refine r_getI (c := 8) (k := 26) rfl rfl ⟨rfl, rfl⟩ ?_
      refine r_imul rfl ?_
      refine r_iload rfl rfl ?_
      refine r_iadd rfl ?_
      obtain ⟨b6, hr⟩ := gopt hr
      refine r_iaload (n := 378) rfl rfl (gvp_in b6) ?_
      obtain ⟨b7, hr⟩ := gopt hr
      refine r_iastore (n := 54) rfl rfl (gvp_in b7) (by decide) ?_
      refine r_iinc (y := (v1 + (nI 1))) [.ref 57, .int (v1 + (nI 1))] rfl rfl rfl (ginc _ 1) rfl ?_
      refine r_goto 21 rfl rfl ?_
      exact hK21 _ _ _ hr
def r_X8_undo (I : Nat → Nat → Int32) (L : Nat → Nat → Int64)  : Option gRs := (if ¬ (I 57 25) = 0 then (r_X8_undo_21 100 (nI 0) (gu2 (gu2 I 57 25 ((I 57 25) - (nI 1))) 57 26 (grem (((gu2 I 57 25 ((I 57 25) - (nI 1))) 57 26) + (nI 13)) (nI 14))) L) else some ((-3 : Int32), I, L))
set_option maxHeartbeats 4000000 in
set_option maxRecDepth 100000 in
theorem s_X8_undo {n f g d : Nat} {Q : gP} {I : Nat → Nat → Int32} {L : Nat → Nat → Int64}  {z : gRs}  (hr : r_X8_undo I L  = some z) (hQ : Q (some (.int z.1)) (gKn n, gRf f g, z.2.1, z.2.2)) : gR gM (d + 0) 142 [.ref 57] (gKn n, gRf f g, I, L) Q := by
  unfold r_X8_undo at hr
  show gW gM (d + 0) 0 0 k_X8_undo 0 [.ref 57, .null] [] (gKn n, gRf f g, I, L) Q
  refine r_aload rfl rfl ?_
  refine r_getI (c := 8) (k := 25) rfl rfl ⟨rfl, rfl⟩ ?_
  refine r_if_ne 5 rfl rfl (fun c8 => ?_) (fun c8 => ?_)
  · rw [if_pos c8] at hr
    refine r_aload rfl rfl ?_
    refine r_dup rfl rfl ?_
    refine r_getI (c := 8) (k := 25) rfl rfl ⟨rfl, rfl⟩ ?_
    refine r_const rfl (gcst 1) ?_
    refine r_isub rfl ?_
    refine r_putI (c := 8) (k := 25) rfl rfl ⟨rfl, rfl⟩ ?_
    refine r_aload rfl rfl ?_
    refine r_aload rfl rfl ?_
    refine r_getI (c := 8) (k := 26) rfl rfl ⟨rfl, rfl⟩ ?_
    refine r_const rfl (gcst 13) ?_
    refine r_iadd rfl ?_
    refine r_const rfl (gcst 14) ?_
    refine r_irem rfl (nI_ne0 (n := 14) (by decide) (by decide)) ?_
    refine r_putI (c := 8) (k := 26) rfl rfl ⟨rfl, rfl⟩ ?_
    refine r_const rfl (gcst 0) ?_
    refine r_istore [.ref 57, .int (nI 0)] rfl rfl (Nat.le_of_ble_eq_true rfl) rfl ?_
    exact t_X8_undo_21  hr hQ
  · rw [if_neg c8] at hr
    refine r_const rfl (v := -3) (by decide) ?_
    refine r_iret rfl ?_
    cases hr
    exact hQ
def r_X8_fitOn_26  (K4 : Int32 → Int32 → Int32 → Int32 → (Nat → Nat → Int32) → (Nat → Nat → Int64) → Option gRs) (v1 : Int32) (v2 : Int32) (v4 : Int32) (s0 : Int32) (s1 : Int32) (I : Nat → Nat → Int32) (L : Nat → Nat → Int64) : Option gRs := (K4 v1 v2 (s0 + s1) (v4 + (nI 1)) I L)
set_option maxHeartbeats 4000000 in
set_option maxRecDepth 100000 in
theorem t_X8_fitOn_26 {n f g d : Nat} {Q : gP} {z : gRs}   {K4 : Int32 → Int32 → Int32 → Int32 → (Nat → Nat → Int32) → (Nat → Nat → Int64) → Option gRs} (hK4 : ∀ v1 v2 v3 v4 I L, K4 v1 v2 v3 v4 I L = some z → gW gM (d + 1) 0 0 k_X8_fitOn 4 [.ref 57, .int v1, .int v2, .int v3, .int v4] [] (gKn n, gRf f g, I, L) Q) {v1 : Int32} {v2 : Int32} {v4 : Int32} {s0 : Int32} {s1 : Int32} {I : Nat → Nat → Int32} {L : Nat → Nat → Int64} (hr : r_X8_fitOn_26 K4 v1 v2 v4 s0 s1 I L = some z) (hQ : Q (some (.int z.1)) (gKn n, gRf f g, z.2.1, z.2.2)) : gW gM (d + 1) 0 0 k_X8_fitOn 26 [.ref 57, .int v1, .int v2, .null, .int v4] [.int s1, .int s0] (gKn n, gRf f g, I, L) Q := by
  unfold r_X8_fitOn_26 at hr
  refine r_iadd rfl ?_
  refine r_istore [.ref 57, .int v1, .int v2, .int (s0 + s1), .int v4] rfl rfl (Nat.le_of_ble_eq_true rfl) rfl ?_
  refine r_iinc (y := (v4 + (nI 1))) [.ref 57, .int v1, .int v2, .int (s0 + s1), .int (v4 + (nI 1))] rfl rfl rfl (ginc _ 1) rfl ?_
  refine r_goto 4 rfl rfl ?_
  exact hK4 _ _ _ _ _ _ hr
def r_X8_fitOn_4   : Nat → Int32 → Int32 → Int32 → Int32 → (Nat → Nat → Int32) → (Nat → Nat → Int64) → Option gRs
  | 0, _, _, _, _, _, _ => none
  | m + 1, v1, v2, v3, v4, I, L => (if (nI 4) ≤ v4 then some (v3, I, L) else ((r_X8_sungOn I L v1 ((nI 3) - v4)).bind (fun z10 => (if gvp (((nI 4) * v2) + v4) 8 = true then (if ¬ z10.1 = (z10.2.1 62 (gx (((nI 4) * v2) + v4))) then (r_X8_fitOn_26 (r_X8_fitOn_4  m) v1 v2 v4 v3 (nI 0) z10.2.1 z10.2.2) else (r_X8_fitOn_26 (r_X8_fitOn_4  m) v1 v2 v4 v3 (nI 1) z10.2.1 z10.2.2)) else none))))
set_option maxHeartbeats 4000000 in
set_option maxRecDepth 100000 in
theorem t_X8_fitOn_4 {n f g d : Nat} {Q : gP} {z : gRs}    : ∀ {m : Nat} {v1 : Int32} {v2 : Int32} {v3 : Int32} {v4 : Int32} {I : Nat → Nat → Int32} {L : Nat → Nat → Int64}, r_X8_fitOn_4 m v1 v2 v3 v4 I L = some z → Q (some (.int z.1)) (gKn n, gRf f g, z.2.1, z.2.2) → gW gM (d + 1) 0 0 k_X8_fitOn 4 [.ref 57, .int v1, .int v2, .int v3, .int v4] [] (gKn n, gRf f g, I, L) Q := by
  intro m
  induction m with
  | zero =>
    intro v1 v2 v3 v4 I L hr _
    cases hr
  | succ m ih =>
    intro v1 v2 v3 v4 I L hr hQ
    have hK4 : ∀ v1 v2 v3 v4 I L, r_X8_fitOn_4 m v1 v2 v3 v4 I L = some z → gW gM (d + 1) 0 0 k_X8_fitOn 4 [.ref 57, .int v1, .int v2, .int v3, .int v4] [] (gKn n, gRf f g, I, L) Q := fun v1 v2 v3 v4 I L hr => ih hr hQ
    unfold r_X8_fitOn_4 at hr
    refine r_iload rfl rfl ?_
    refine r_const rfl (gcst 4) ?_
    refine r_icmp_ge 30 rfl rfl (fun c9 => ?_) (fun c9 => ?_)
    · rw [if_pos c9] at hr
      refine r_iload rfl rfl ?_
      refine r_iret rfl ?_
      cases hr
      exact hQ
    · rw [if_neg c9] at hr
      refine r_iload rfl rfl ?_
      refine r_aload rfl rfl ?_
      refine r_iload rfl rfl ?_
      refine r_const rfl (gcst 3) ?_
      refine r_iload rfl rfl ?_
      refine r_isub rfl ?_
      obtain ⟨z10, hz10, hr⟩ := gbnd hr
      refine r_invv (a := 57) [.int v1, .int ((nI 3) - v4)] rfl rfl rfl rfl rfl (Nat.le_of_ble_eq_true rfl) ⟨rfl, rfl⟩ ?_
      refine s_X8_sungOn  hz10 ?_
      show gW _ _ _ _ _ 14 [.ref 57, .int v1, .int v2, .int v3, .int v4] [.int z10.1, .int v3] (gKn n, gRf f g, z10.2.1, z10.2.2) _
      refine r_aload rfl rfl ?_
      refine r_getR (c := 8) (k := 8) (v := 62) rfl rfl ⟨rfl, rfl⟩ rfl ?_
      refine r_const rfl (gcst 4) ?_
      refine r_iload rfl rfl ?_
      refine r_imul rfl ?_
      refine r_iload rfl rfl ?_
      refine r_iadd rfl ?_
      obtain ⟨b11, hr⟩ := gopt hr
      refine r_iaload (n := 8) rfl rfl (gvp_in b11) ?_
      refine r_icmp_ne 25 rfl rfl (fun c12 => ?_) (fun c12 => ?_)
      · rw [if_pos c12] at hr
        refine r_const rfl (gcst 0) ?_
        refine gforget (ls := [.ref 57, .int v1, .int v2, .null, .int v4]) ⟨(Or.inl rfl), ⟨(Or.inl rfl), ⟨(Or.inl rfl), ⟨(Or.inr (Or.inl ⟨rfl, _, rfl⟩)), ⟨(Or.inl rfl), trivial⟩⟩⟩⟩⟩ ?_
        exact t_X8_fitOn_26 hK4 hr hQ
      · rw [if_neg c12] at hr
        refine r_const rfl (gcst 1) ?_
        refine r_goto 26 rfl rfl ?_
        refine gforget (ls := [.ref 57, .int v1, .int v2, .null, .int v4]) ⟨(Or.inl rfl), ⟨(Or.inl rfl), ⟨(Or.inl rfl), ⟨(Or.inr (Or.inl ⟨rfl, _, rfl⟩)), ⟨(Or.inl rfl), trivial⟩⟩⟩⟩⟩ ?_
        exact t_X8_fitOn_26 hK4 hr hQ
def r_X8_fitOn (I : Nat → Nat → Int32) (L : Nat → Nat → Int64) (a1 : Int32) (a2 : Int32) : Option gRs := (r_X8_fitOn_4 100 a1 a2 (nI 0) (nI 0) I L)
set_option maxHeartbeats 4000000 in
set_option maxRecDepth 100000 in
theorem s_X8_fitOn {n f g d : Nat} {Q : gP} {I : Nat → Nat → Int32} {L : Nat → Nat → Int64} {a1 : Int32} {a2 : Int32} {z : gRs}  (hr : r_X8_fitOn I L a1 a2 = some z) (hQ : Q (some (.int z.1)) (gKn n, gRf f g, z.2.1, z.2.2)) : gR gM (d + 1) 143 [.ref 57, .int a1, .int a2] (gKn n, gRf f g, I, L) Q := by
  unfold r_X8_fitOn at hr
  show gW gM (d + 1) 0 0 k_X8_fitOn 0 [.ref 57, .int a1, .int a2, .null, .null] [] (gKn n, gRf f g, I, L) Q
  refine r_const rfl (gcst 0) ?_
  refine r_istore [.ref 57, .int a1, .int a2, .int (nI 0), .null] rfl rfl (Nat.le_of_ble_eq_true rfl) rfl ?_
  refine r_const rfl (gcst 0) ?_
  refine r_istore [.ref 57, .int a1, .int a2, .int (nI 0), .int (nI 0)] rfl rfl (Nat.le_of_ble_eq_true rfl) rfl ?_
  exact t_X8_fitOn_4  hr hQ
def r_X8_fit_10   (s0 : Int32) (I : Nat → Nat → Int32) (L : Nat → Nat → Int64) : Option gRs := some (s0, I, L)
set_option maxHeartbeats 4000000 in
set_option maxRecDepth 100000 in
theorem t_X8_fit_10 {n f g d : Nat} {Q : gP} {z : gRs}    {s0 : Int32} {I : Nat → Nat → Int32} {L : Nat → Nat → Int64} (hr : r_X8_fit_10 s0 I L = some z) (hQ : Q (some (.int z.1)) (gKn n, gRf f g, z.2.1, z.2.2)) : gW gM (d + 2) 0 0 k_X8_fit 10 [.null, .null] [.int s0] (gKn n, gRf f g, I, L) Q := by
  unfold r_X8_fit_10 at hr
  refine r_iret rfl ?_
  cases hr
  exact hQ
def r_X8_fit (I : Nat → Nat → Int32) (L : Nat → Nat → Int64) (a1 : Int32) : Option gRs := ((r_X8_isVerse I L a1).bind (fun z7 => (if z7.1 = 0 then (r_X8_fit_10 (-1 : Int32) z7.2.1 z7.2.2) else ((r_X8_fitOn z7.2.1 z7.2.2 (nI 0) a1).bind (fun z9 => (r_X8_fit_10 z9.1 z9.2.1 z9.2.2))))))
set_option maxHeartbeats 4000000 in
set_option maxRecDepth 100000 in
theorem s_X8_fit {n f g d : Nat} {Q : gP} {I : Nat → Nat → Int32} {L : Nat → Nat → Int64} {a1 : Int32} {z : gRs}  (hr : r_X8_fit I L a1 = some z) (hQ : Q (some (.int z.1)) (gKn n, gRf f g, z.2.1, z.2.2)) : gR gM (d + 2) 144 [.ref 57, .int a1] (gKn n, gRf f g, I, L) Q := by
  unfold r_X8_fit at hr
  show gW gM (d + 2) 0 0 k_X8_fit 0 [.ref 57, .int a1] [] (gKn n, gRf f g, I, L) Q
  refine r_aload rfl rfl ?_
  refine r_iload rfl rfl ?_
  obtain ⟨z7, hz7, hr⟩ := gbnd hr
  refine r_invv (a := 57) [.int a1] rfl rfl rfl rfl rfl (Nat.le_of_ble_eq_true rfl) ⟨rfl, rfl⟩ ?_
  refine s_X8_isVerse  hz7 ?_
  show gW _ _ _ _ _ 3 [.ref 57, .int a1] [.int z7.1] (gKn n, gRf f g, z7.2.1, z7.2.2) _
  refine r_if_eq 9 rfl rfl (fun c8 => ?_) (fun c8 => ?_)
  · rw [if_pos c8] at hr
    refine r_const rfl (v := -1) (by decide) ?_
    refine gforget (ls := [.null, .null]) ⟨(Or.inr (Or.inr ⟨rfl, _, rfl⟩)), ⟨(Or.inr (Or.inl ⟨rfl, _, rfl⟩)), trivial⟩⟩ ?_
    exact t_X8_fit_10  hr hQ
  · rw [if_neg c8] at hr
    refine r_aload rfl rfl ?_
    refine r_const rfl (gcst 0) ?_
    refine r_iload rfl rfl ?_
    obtain ⟨z9, hz9, hr⟩ := gbnd hr
    refine r_invv (a := 57) [.int (nI 0), .int a1] rfl rfl rfl rfl rfl (Nat.le_of_ble_eq_true rfl) ⟨rfl, rfl⟩ ?_
    refine s_X8_fitOn  hz9 ?_
    show gW _ _ _ _ _ 8 [.ref 57, .int a1] [.int z9.1] (gKn n, gRf f g, z9.2.1, z9.2.2) _
    refine r_goto 10 rfl rfl ?_
    refine gforget (ls := [.null, .null]) ⟨(Or.inr (Or.inr ⟨rfl, _, rfl⟩)), ⟨(Or.inr (Or.inl ⟨rfl, _, rfl⟩)), trivial⟩⟩ ?_
    exact t_X8_fit_10  hr hQ
def f_X8_isSweet (I : Nat → Nat → Int32) (L : Nat → Nat → Int64) (a0 : Int32) : Int32 := (if a0 = 0 then (nI 1) else (if ¬ (f_X8_in I L (Int32.toInt64 a0) (lN 3) (lN 5)) = 0 then (nI 1) else (if (f_X8_in I L (Int32.toInt64 a0) (lN 7) (lN 9)) = 0 then (nI 0) else (nI 1))))
set_option maxHeartbeats 4000000 in
set_option maxRecDepth 100000 in
theorem s_X8_isSweet {n f g d : Nat} {Q : gP} {I : Nat → Nat → Int32} {L : Nat → Nat → Int64} {a0 : Int32}  (hQ : Q (some (.int (f_X8_isSweet I L a0))) (gKn n, gRf f g, I, L)) : gR gM (d + 1) 145 [.int a0] (gKn n, gRf f g, I, L) Q := by
  unfold f_X8_isSweet at hQ
  show gW gM (d + 1) 0 0 k_X8_isSweet 0 [.int a0] [] (gKn n, gRf f g, I, L) Q
  refine r_iload rfl rfl ?_
  have j6 : gW gM (d + 1) 0 0 k_X8_isSweet 17 [.int a0] [.int (if a0 = 0 then (nI 1) else (if ¬ (f_X8_in I L (Int32.toInt64 a0) (lN 3) (lN 5)) = 0 then (nI 1) else (if (f_X8_in I L (Int32.toInt64 a0) (lN 7) (lN 9)) = 0 then (nI 0) else (nI 1))))] (gKn n, gRf f g, I, L) Q := by
    refine r_zret rfl (by split <;> (try split) <;> (try split) <;> decide) ?_
    first | exact hQ | simpa only [if_true] using hQ
  refine r_if_eq 14 rfl rfl (fun c1 => ?_) (fun c1 => ?_)
  · try simp only [if_pos c1] at hQ
    refine r_const rfl (gcst 1) ?_
    refine r_goto 17 rfl rfl ?_
    simpa only [if_pos c1] using j6
  · try simp only [if_neg c1] at hQ
    refine r_iload rfl rfl ?_
    refine r_i2l rfl ?_
    refine r_lconst (v := lN 3) rfl rfl ?_
    refine r_lconst (v := lN 5) rfl rfl ?_
    refine r_invs [.long (Int32.toInt64 a0), .long (lN 3), .long (lN 5)] rfl rfl rfl rfl (Nat.le_of_ble_eq_true rfl) ⟨rfl, rfl⟩ ?_
    refine s_X8_in  ?_
    show gW _ _ _ _ _ 7 [.int a0] [.int (f_X8_in I L (Int32.toInt64 a0) (lN 3) (lN 5))] (gKn n, gRf f g, I, L) _
    refine r_if_ne 14 rfl rfl (fun c3 => ?_) (fun c3 => ?_)
    · try simp only [if_pos c3] at hQ
      refine r_const rfl (gcst 1) ?_
      refine r_goto 17 rfl rfl ?_
      simpa only [if_neg c1, if_pos c3] using j6
    · try simp only [if_neg c3] at hQ
      refine r_iload rfl rfl ?_
      refine r_i2l rfl ?_
      refine r_lconst (v := lN 7) rfl rfl ?_
      refine r_lconst (v := lN 9) rfl rfl ?_
      refine r_invs [.long (Int32.toInt64 a0), .long (lN 7), .long (lN 9)] rfl rfl rfl rfl (Nat.le_of_ble_eq_true rfl) ⟨rfl, rfl⟩ ?_
      refine s_X8_in  ?_
      show gW _ _ _ _ _ 13 [.int a0] [.int (f_X8_in I L (Int32.toInt64 a0) (lN 7) (lN 9))] (gKn n, gRf f g, I, L) _
      refine r_if_eq 16 rfl rfl (fun c5 => ?_) (fun c5 => ?_)
      · try simp only [if_pos c5] at hQ
        refine r_const rfl (gcst 0) ?_
        simpa only [if_neg c1, if_neg c3, if_pos c5] using j6
      · try simp only [if_neg c5] at hQ
        refine r_const rfl (gcst 1) ?_
        refine r_goto 17 rfl rfl ?_
        simpa only [if_neg c1, if_neg c3, if_neg c5] using j6
def r_X8_harmonyOf_43  (K4 : Int32 → Int32 → Int32 → Int32 → (Nat → Nat → Int32) → (Nat → Nat → Int64) → Option gRs) (v1 : Int32) (v2 : Int32) (v4 : Int32) (s0 : Int32) (I : Nat → Nat → Int32) (L : Nat → Nat → Int64) : Option gRs := (K4 v1 v2 (s0 + (nI 0)) (v4 + (nI 1)) I L)
set_option maxHeartbeats 4000000 in
set_option maxRecDepth 100000 in
theorem t_X8_harmonyOf_43 {n f g d : Nat} {Q : gP} {z : gRs}   {K4 : Int32 → Int32 → Int32 → Int32 → (Nat → Nat → Int32) → (Nat → Nat → Int64) → Option gRs} (hK4 : ∀ v1 v2 v3 v4 I L, K4 v1 v2 v3 v4 I L = some z → gW gM (d + 2) 0 0 k_X8_harmonyOf 4 [.ref 57, .int v1, .int v2, .int v3, .int v4, .null, .null] [] (gKn n, gRf f g, I, L) Q) {v1 : Int32} {v2 : Int32} {v4 : Int32} {s0 : Int32} {I : Nat → Nat → Int32} {L : Nat → Nat → Int64} (hr : r_X8_harmonyOf_43 K4 v1 v2 v4 s0 I L = some z) (hQ : Q (some (.int z.1)) (gKn n, gRf f g, z.2.1, z.2.2)) : gW gM (d + 2) 0 0 k_X8_harmonyOf 43 [.ref 57, .int v1, .int v2, .null, .int v4, .null, .null] [.int s0] (gKn n, gRf f g, I, L) Q := by
  unfold r_X8_harmonyOf_43 at hr
  refine r_const rfl (gcst 0) ?_
  refine r_iadd rfl ?_
  refine r_istore [.ref 57, .int v1, .int v2, .int (s0 + (nI 0)), .int v4, .null, .null] rfl rfl (Nat.le_of_ble_eq_true rfl) rfl ?_
  refine r_iinc (y := (v4 + (nI 1))) [.ref 57, .int v1, .int v2, .int (s0 + (nI 0)), .int (v4 + (nI 1)), .null, .null] rfl rfl rfl (ginc _ 1) rfl ?_
  refine r_goto 4 rfl rfl ?_
  exact hK4 _ _ _ _ _ _ hr
def r_X8_harmonyOf_39  (K4 : Int32 → Int32 → Int32 → Int32 → (Nat → Nat → Int32) → (Nat → Nat → Int64) → Option gRs) (v1 : Int32) (v2 : Int32) (v4 : Int32) (s0 : Int32) (s1 : Int32) (I : Nat → Nat → Int32) (L : Nat → Nat → Int64) : Option gRs := (if (f_X8_isSweet I L s1) = 0 then (r_X8_harmonyOf_43 K4 v1 v2 v4 s0 I L) else (K4 v1 v2 (s0 + (nI 1)) (v4 + (nI 1)) I L))
set_option maxHeartbeats 4000000 in
set_option maxRecDepth 100000 in
theorem t_X8_harmonyOf_39 {n f g d : Nat} {Q : gP} {z : gRs}   {K4 : Int32 → Int32 → Int32 → Int32 → (Nat → Nat → Int32) → (Nat → Nat → Int64) → Option gRs} (hK4 : ∀ v1 v2 v3 v4 I L, K4 v1 v2 v3 v4 I L = some z → gW gM (d + 2) 0 0 k_X8_harmonyOf 4 [.ref 57, .int v1, .int v2, .int v3, .int v4, .null, .null] [] (gKn n, gRf f g, I, L) Q) {v1 : Int32} {v2 : Int32} {v4 : Int32} {s0 : Int32} {s1 : Int32} {I : Nat → Nat → Int32} {L : Nat → Nat → Int64} (hr : r_X8_harmonyOf_39 K4 v1 v2 v4 s0 s1 I L = some z) (hQ : Q (some (.int z.1)) (gKn n, gRf f g, z.2.1, z.2.2)) : gW gM (d + 2) 0 0 k_X8_harmonyOf 39 [.ref 57, .int v1, .int v2, .null, .int v4, .null, .null] [.int s1, .int s0] (gKn n, gRf f g, I, L) Q := by
  unfold r_X8_harmonyOf_39 at hr
  refine r_invs [.int s1] rfl rfl rfl rfl (Nat.le_of_ble_eq_true rfl) ⟨rfl, rfl⟩ ?_
  refine s_X8_isSweet  ?_
  show gW _ _ _ _ _ 40 [.ref 57, .int v1, .int v2, .null, .int v4, .null, .null] [.int (f_X8_isSweet I L s1), .int s0] (gKn n, gRf f g, I, L) _
  refine r_if_eq 43 rfl rfl (fun c16 => ?_) (fun c16 => ?_)
  · rw [if_pos c16] at hr
    exact t_X8_harmonyOf_43 hK4 hr hQ
  · rw [if_neg c16] at hr
    refine r_const rfl (gcst 1) ?_
    refine r_goto 44 rfl rfl ?_
    refine r_iadd rfl ?_
    refine r_istore [.ref 57, .int v1, .int v2, .int (s0 + (nI 1)), .int v4, .null, .null] rfl rfl (Nat.le_of_ble_eq_true rfl) rfl ?_
    refine r_iinc (y := (v4 + (nI 1))) [.ref 57, .int v1, .int v2, .int (s0 + (nI 1)), .int (v4 + (nI 1)), .null, .null] rfl rfl rfl (ginc _ 1) rfl ?_
    refine r_goto 4 rfl rfl ?_
    exact hK4 _ _ _ _ _ _ hr
def r_X8_harmonyOf_4   : Nat → Int32 → Int32 → Int32 → Int32 → (Nat → Nat → Int32) → (Nat → Nat → Int64) → Option gRs
  | 0, _, _, _, _, _, _ => none
  | m + 1, v1, v2, v3, v4, I, L => (if v1 ≤ v4 then some (v3, I, L) else (if v2 ≤ v4 then some (v3, I, L) else (if gvp v4 24 = true then (if gvp ((nI 12) + v4) 24 = true then (if (I 69 (gx v4)) = (nI 12) then (r_X8_harmonyOf_43 (r_X8_harmonyOf_4  m) v1 v2 v4 v3 I L) else (if (I 69 (gx ((nI 12) + v4))) = (nI 12) then (r_X8_harmonyOf_43 (r_X8_harmonyOf_4  m) v1 v2 v4 v3 I L) else (if (I 69 (gx v4)) ≤ (I 69 (gx ((nI 12) + v4))) then (r_X8_harmonyOf_39 (r_X8_harmonyOf_4  m) v1 v2 v4 v3 ((I 69 (gx ((nI 12) + v4))) - (I 69 (gx v4))) I L) else (r_X8_harmonyOf_39 (r_X8_harmonyOf_4  m) v1 v2 v4 v3 ((I 69 (gx v4)) - (I 69 (gx ((nI 12) + v4)))) I L)))) else none) else none)))
set_option maxHeartbeats 4000000 in
set_option maxRecDepth 100000 in
theorem t_X8_harmonyOf_4 {n f g d : Nat} {Q : gP} {z : gRs}    : ∀ {m : Nat} {v1 : Int32} {v2 : Int32} {v3 : Int32} {v4 : Int32} {I : Nat → Nat → Int32} {L : Nat → Nat → Int64}, r_X8_harmonyOf_4 m v1 v2 v3 v4 I L = some z → Q (some (.int z.1)) (gKn n, gRf f g, z.2.1, z.2.2) → gW gM (d + 2) 0 0 k_X8_harmonyOf 4 [.ref 57, .int v1, .int v2, .int v3, .int v4, .null, .null] [] (gKn n, gRf f g, I, L) Q := by
  intro m
  induction m with
  | zero =>
    intro v1 v2 v3 v4 I L hr _
    cases hr
  | succ m ih =>
    intro v1 v2 v3 v4 I L hr hQ
    have hK4 : ∀ v1 v2 v3 v4 I L, r_X8_harmonyOf_4 m v1 v2 v3 v4 I L = some z → gW gM (d + 2) 0 0 k_X8_harmonyOf 4 [.ref 57, .int v1, .int v2, .int v3, .int v4, .null, .null] [] (gKn n, gRf f g, I, L) Q := fun v1 v2 v3 v4 I L hr => ih hr hQ
    unfold r_X8_harmonyOf_4 at hr
    refine r_iload rfl rfl ?_
    refine r_iload rfl rfl ?_
    refine r_icmp_ge 48 rfl rfl (fun c17 => ?_) (fun c17 => ?_)
    · rw [if_pos c17] at hr
      refine r_iload rfl rfl ?_
      refine r_iret rfl ?_
      cases hr
      exact hQ
    · rw [if_neg c17] at hr
      refine r_iload rfl rfl ?_
      refine r_iload rfl rfl ?_
      refine r_icmp_ge 48 rfl rfl (fun c18 => ?_) (fun c18 => ?_)
      · rw [if_pos c18] at hr
        refine r_iload rfl rfl ?_
        refine r_iret rfl ?_
        cases hr
        exact hQ
      · rw [if_neg c18] at hr
        refine r_aload rfl rfl ?_
        refine r_getR (c := 8) (k := 23) (v := 69) rfl rfl ⟨rfl, rfl⟩ rfl ?_
        refine r_iload rfl rfl ?_
        obtain ⟨b19, hr⟩ := gopt hr
        refine r_iaload (n := 24) rfl rfl (gvp_in b19) ?_
        refine r_istore [.ref 57, .int v1, .int v2, .int v3, .int v4, .int (I 69 (gx v4)), .null] rfl rfl (Nat.le_of_ble_eq_true rfl) rfl ?_
        refine r_aload rfl rfl ?_
        refine r_getR (c := 8) (k := 23) (v := 69) rfl rfl ⟨rfl, rfl⟩ rfl ?_
        refine r_const rfl (gcst 12) ?_
        refine r_iload rfl rfl ?_
        refine r_iadd rfl ?_
        obtain ⟨b20, hr⟩ := gopt hr
        refine r_iaload (n := 24) rfl rfl (gvp_in b20) ?_
        refine r_istore [.ref 57, .int v1, .int v2, .int v3, .int v4, .int (I 69 (gx v4)), .int (I 69 (gx ((nI 12) + v4)))] rfl rfl (Nat.le_of_ble_eq_true rfl) rfl ?_
        refine r_iload rfl rfl ?_
        refine r_iload rfl rfl ?_
        refine r_const rfl (gcst 12) ?_
        refine r_icmp_eq 43 rfl rfl (fun c21 => ?_) (fun c21 => ?_)
        · rw [if_pos c21] at hr
          refine gforget (ls := [.ref 57, .int v1, .int v2, .null, .int v4, .null, .null]) ⟨(Or.inl rfl), ⟨(Or.inl rfl), ⟨(Or.inl rfl), ⟨(Or.inr (Or.inl ⟨rfl, _, rfl⟩)), ⟨(Or.inl rfl), ⟨(Or.inr (Or.inl ⟨rfl, _, rfl⟩)), ⟨(Or.inr (Or.inl ⟨rfl, _, rfl⟩)), trivial⟩⟩⟩⟩⟩⟩⟩ ?_
          exact t_X8_harmonyOf_43 hK4 hr hQ
        · rw [if_neg c21] at hr
          refine r_iload rfl rfl ?_
          refine r_const rfl (gcst 12) ?_
          refine r_icmp_eq 43 rfl rfl (fun c22 => ?_) (fun c22 => ?_)
          · rw [if_pos c22] at hr
            refine gforget (ls := [.ref 57, .int v1, .int v2, .null, .int v4, .null, .null]) ⟨(Or.inl rfl), ⟨(Or.inl rfl), ⟨(Or.inl rfl), ⟨(Or.inr (Or.inl ⟨rfl, _, rfl⟩)), ⟨(Or.inl rfl), ⟨(Or.inr (Or.inl ⟨rfl, _, rfl⟩)), ⟨(Or.inr (Or.inl ⟨rfl, _, rfl⟩)), trivial⟩⟩⟩⟩⟩⟩⟩ ?_
            exact t_X8_harmonyOf_43 hK4 hr hQ
          · rw [if_neg c22] at hr
            refine r_iload rfl rfl ?_
            refine r_iload rfl rfl ?_
            refine r_icmp_le 36 rfl rfl (fun c23 => ?_) (fun c23 => ?_)
            · rw [if_pos c23] at hr
              refine r_iload rfl rfl ?_
              refine r_iload rfl rfl ?_
              refine r_isub rfl ?_
              refine gforget (ls := [.ref 57, .int v1, .int v2, .null, .int v4, .null, .null]) ⟨(Or.inl rfl), ⟨(Or.inl rfl), ⟨(Or.inl rfl), ⟨(Or.inr (Or.inl ⟨rfl, _, rfl⟩)), ⟨(Or.inl rfl), ⟨(Or.inr (Or.inl ⟨rfl, _, rfl⟩)), ⟨(Or.inr (Or.inl ⟨rfl, _, rfl⟩)), trivial⟩⟩⟩⟩⟩⟩⟩ ?_
              exact t_X8_harmonyOf_39 hK4 hr hQ
            · rw [if_neg c23] at hr
              refine r_iload rfl rfl ?_
              refine r_iload rfl rfl ?_
              refine r_isub rfl ?_
              refine r_goto 39 rfl rfl ?_
              refine gforget (ls := [.ref 57, .int v1, .int v2, .null, .int v4, .null, .null]) ⟨(Or.inl rfl), ⟨(Or.inl rfl), ⟨(Or.inl rfl), ⟨(Or.inr (Or.inl ⟨rfl, _, rfl⟩)), ⟨(Or.inl rfl), ⟨(Or.inr (Or.inl ⟨rfl, _, rfl⟩)), ⟨(Or.inr (Or.inl ⟨rfl, _, rfl⟩)), trivial⟩⟩⟩⟩⟩⟩⟩ ?_
              exact t_X8_harmonyOf_39 hK4 hr hQ
def r_X8_harmonyOf (I : Nat → Nat → Int32) (L : Nat → Nat → Int64) (a1 : Int32) (a2 : Int32) : Option gRs := (r_X8_harmonyOf_4 100 a1 a2 (nI 0) (nI 0) I L)
set_option maxHeartbeats 4000000 in
set_option maxRecDepth 100000 in
theorem s_X8_harmonyOf {n f g d : Nat} {Q : gP} {I : Nat → Nat → Int32} {L : Nat → Nat → Int64} {a1 : Int32} {a2 : Int32} {z : gRs}  (hr : r_X8_harmonyOf I L a1 a2 = some z) (hQ : Q (some (.int z.1)) (gKn n, gRf f g, z.2.1, z.2.2)) : gR gM (d + 2) 146 [.ref 57, .int a1, .int a2] (gKn n, gRf f g, I, L) Q := by
  unfold r_X8_harmonyOf at hr
  show gW gM (d + 2) 0 0 k_X8_harmonyOf 0 [.ref 57, .int a1, .int a2, .null, .null, .null, .null] [] (gKn n, gRf f g, I, L) Q
  refine r_const rfl (gcst 0) ?_
  refine r_istore [.ref 57, .int a1, .int a2, .int (nI 0), .null, .null, .null] rfl rfl (Nat.le_of_ble_eq_true rfl) rfl ?_
  refine r_const rfl (gcst 0) ?_
  refine r_istore [.ref 57, .int a1, .int a2, .int (nI 0), .int (nI 0), .null, .null] rfl rfl (Nat.le_of_ble_eq_true rfl) rfl ?_
  exact t_X8_harmonyOf_4  hr hQ
