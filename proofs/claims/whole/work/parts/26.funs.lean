/-! FUNCTIONS (dec.py, dec2.py) -/
def r_X8_harmony_16    (I : Nat → Nat → Int32) (L : Nat → Nat → Int64) : Option gRs := some ((-1 : Int32), I, L)
set_option maxHeartbeats 4000000 in
set_option maxRecDepth 100000 in
theorem t_X8_harmony_16 {n f g d : Nat} {Q : gP} {z : gRs}     {I : Nat → Nat → Int32} {L : Nat → Nat → Int64} (hr : r_X8_harmony_16 I L = some z) (hQ : Q (some (.int z.1)) (gKn n, gRf f g, z.2.1, z.2.2)) : gW gM (d + 3) 0 0 k_X8_harmony 16 [.null, .null, .null, .null, .null, .null] [] (gKn n, gRf f g, I, L) Q := by
  unfold r_X8_harmony_16 at hr
  refine r_const rfl (v := -1) (by decide) ?_
  refine r_iret rfl ?_
  cases hr
  exact hQ
def r_X8_harmony (I : Nat → Nat → Int32) (L : Nat → Nat → Int64) (a1 : Int32) (a2 : Int32) (a3 : Int32) (a4 : Int32) : Option gRs := ((r_X8_isBeast I L a1).bind (fun z23 => (if z23.1 = 0 then (r_X8_harmony_16 z23.2.1 z23.2.2) else ((r_X8_isLane z23.2.1 z23.2.2 a2).bind (fun z25 => (if z25.1 = 0 then (r_X8_harmony_16 z25.2.1 z25.2.2) else ((r_X8_isBeast z25.2.1 z25.2.2 a3).bind (fun z27 => (if z27.1 = 0 then (r_X8_harmony_16 z27.2.1 z27.2.2) else ((r_X8_isLane z27.2.1 z27.2.2 a4).bind (fun z29 => (if ¬ z29.1 = 0 then ((r_X8_laySong z29.2.1 z29.2.2 (nI 0) (nI 0) a1 a2).bind (fun z31 => ((r_X8_laySong z31.2.1 z31.2.2 (nI 0) (nI 1) a3 a4).bind (fun z32 => ((r_X8_harmonyOf z32.2.1 z32.2.2 z31.1 z32.1).bind (fun z33 => some (z33.1, z33.2.1, z33.2.2))))))) else (r_X8_harmony_16 z29.2.1 z29.2.2)))))))))))))
set_option maxHeartbeats 4000000 in
set_option maxRecDepth 100000 in
theorem s_X8_harmony {n f g d : Nat} {Q : gP} {I : Nat → Nat → Int32} {L : Nat → Nat → Int64} {a1 : Int32} {a2 : Int32} {a3 : Int32} {a4 : Int32} {z : gRs}  (hr : r_X8_harmony I L a1 a2 a3 a4 = some z) (hQ : Q (some (.int z.1)) (gKn n, gRf f g, z.2.1, z.2.2)) : gR gM (d + 3) 147 [.ref 57, .int a1, .int a2, .int a3, .int a4] (gKn n, gRf f g, I, L) Q := by
  unfold r_X8_harmony at hr
  show gW gM (d + 3) 0 0 k_X8_harmony 0 [.ref 57, .int a1, .int a2, .int a3, .int a4, .null] [] (gKn n, gRf f g, I, L) Q
  refine r_aload rfl rfl ?_
  refine r_iload rfl rfl ?_
  obtain ⟨z23, hz23, hr⟩ := gbnd hr
  refine r_invv (a := 57) [.int a1] rfl rfl rfl rfl rfl (Nat.le_of_ble_eq_true rfl) ⟨rfl, rfl⟩ ?_
  refine s_X8_isBeast  hz23 ?_
  show gW _ _ _ _ _ 3 [.ref 57, .int a1, .int a2, .int a3, .int a4, .null] [.int z23.1] (gKn n, gRf f g, z23.2.1, z23.2.2) _
  refine r_if_eq 16 rfl rfl (fun c24 => ?_) (fun c24 => ?_)
  · rw [if_pos c24] at hr
    refine gforget (ls := [.null, .null, .null, .null, .null, .null]) ⟨(Or.inr (Or.inr ⟨rfl, _, rfl⟩)), ⟨(Or.inr (Or.inl ⟨rfl, _, rfl⟩)), ⟨(Or.inr (Or.inl ⟨rfl, _, rfl⟩)), ⟨(Or.inr (Or.inl ⟨rfl, _, rfl⟩)), ⟨(Or.inr (Or.inl ⟨rfl, _, rfl⟩)), ⟨(Or.inl rfl), trivial⟩⟩⟩⟩⟩⟩ ?_
    exact t_X8_harmony_16  hr hQ
  · rw [if_neg c24] at hr
    refine r_aload rfl rfl ?_
    refine r_iload rfl rfl ?_
    obtain ⟨z25, hz25, hr⟩ := gbnd hr
    refine r_invv (a := 57) [.int a2] rfl rfl rfl rfl rfl (Nat.le_of_ble_eq_true rfl) ⟨rfl, rfl⟩ ?_
    refine s_X8_isLane  hz25 ?_
    show gW _ _ _ _ _ 7 [.ref 57, .int a1, .int a2, .int a3, .int a4, .null] [.int z25.1] (gKn n, gRf f g, z25.2.1, z25.2.2) _
    refine r_if_eq 16 rfl rfl (fun c26 => ?_) (fun c26 => ?_)
    · rw [if_pos c26] at hr
      refine gforget (ls := [.null, .null, .null, .null, .null, .null]) ⟨(Or.inr (Or.inr ⟨rfl, _, rfl⟩)), ⟨(Or.inr (Or.inl ⟨rfl, _, rfl⟩)), ⟨(Or.inr (Or.inl ⟨rfl, _, rfl⟩)), ⟨(Or.inr (Or.inl ⟨rfl, _, rfl⟩)), ⟨(Or.inr (Or.inl ⟨rfl, _, rfl⟩)), ⟨(Or.inl rfl), trivial⟩⟩⟩⟩⟩⟩ ?_
      exact t_X8_harmony_16  hr hQ
    · rw [if_neg c26] at hr
      refine r_aload rfl rfl ?_
      refine r_iload rfl rfl ?_
      obtain ⟨z27, hz27, hr⟩ := gbnd hr
      refine r_invv (a := 57) [.int a3] rfl rfl rfl rfl rfl (Nat.le_of_ble_eq_true rfl) ⟨rfl, rfl⟩ ?_
      refine s_X8_isBeast  hz27 ?_
      show gW _ _ _ _ _ 11 [.ref 57, .int a1, .int a2, .int a3, .int a4, .null] [.int z27.1] (gKn n, gRf f g, z27.2.1, z27.2.2) _
      refine r_if_eq 16 rfl rfl (fun c28 => ?_) (fun c28 => ?_)
      · rw [if_pos c28] at hr
        refine gforget (ls := [.null, .null, .null, .null, .null, .null]) ⟨(Or.inr (Or.inr ⟨rfl, _, rfl⟩)), ⟨(Or.inr (Or.inl ⟨rfl, _, rfl⟩)), ⟨(Or.inr (Or.inl ⟨rfl, _, rfl⟩)), ⟨(Or.inr (Or.inl ⟨rfl, _, rfl⟩)), ⟨(Or.inr (Or.inl ⟨rfl, _, rfl⟩)), ⟨(Or.inl rfl), trivial⟩⟩⟩⟩⟩⟩ ?_
        exact t_X8_harmony_16  hr hQ
      · rw [if_neg c28] at hr
        refine r_aload rfl rfl ?_
        refine r_iload rfl rfl ?_
        obtain ⟨z29, hz29, hr⟩ := gbnd hr
        refine r_invv (a := 57) [.int a4] rfl rfl rfl rfl rfl (Nat.le_of_ble_eq_true rfl) ⟨rfl, rfl⟩ ?_
        refine s_X8_isLane  hz29 ?_
        show gW _ _ _ _ _ 15 [.ref 57, .int a1, .int a2, .int a3, .int a4, .null] [.int z29.1] (gKn n, gRf f g, z29.2.1, z29.2.2) _
        refine r_if_ne 18 rfl rfl (fun c30 => ?_) (fun c30 => ?_)
        · rw [if_pos c30] at hr
          refine r_aload rfl rfl ?_
          refine r_const rfl (gcst 0) ?_
          refine r_const rfl (gcst 0) ?_
          refine r_iload rfl rfl ?_
          refine r_iload rfl rfl ?_
          obtain ⟨z31, hz31, hr⟩ := gbnd hr
          refine r_invv (a := 57) [.int (nI 0), .int (nI 0), .int a1, .int a2] rfl rfl rfl rfl rfl (Nat.le_of_ble_eq_true rfl) ⟨rfl, rfl⟩ ?_
          refine s_X8_laySong  hz31 ?_
          show gW _ _ _ _ _ 24 [.ref 57, .int a1, .int a2, .int a3, .int a4, .null] [.int z31.1] (gKn n, gRf f g, z31.2.1, z31.2.2) _
          refine r_istore [.ref 57, .int a1, .int a2, .int a3, .int a4, .int z31.1] rfl rfl (Nat.le_of_ble_eq_true rfl) rfl ?_
          refine r_aload rfl rfl ?_
          refine r_iload rfl rfl ?_
          refine r_aload rfl rfl ?_
          refine r_const rfl (gcst 0) ?_
          refine r_const rfl (gcst 1) ?_
          refine r_iload rfl rfl ?_
          refine r_iload rfl rfl ?_
          obtain ⟨z32, hz32, hr⟩ := gbnd hr
          refine r_invv (a := 57) [.int (nI 0), .int (nI 1), .int a3, .int a4] rfl rfl rfl rfl rfl (Nat.le_of_ble_eq_true rfl) ⟨rfl, rfl⟩ ?_
          refine s_X8_laySong  hz32 ?_
          show gW _ _ _ _ _ 33 [.ref 57, .int a1, .int a2, .int a3, .int a4, .int z31.1] [.int z32.1, .int z31.1, .ref 57] (gKn n, gRf f g, z32.2.1, z32.2.2) _
          obtain ⟨z33, hz33, hr⟩ := gbnd hr
          refine r_invv (a := 57) [.int z31.1, .int z32.1] rfl rfl rfl rfl rfl (Nat.le_of_ble_eq_true rfl) ⟨rfl, rfl⟩ ?_
          refine s_X8_harmonyOf  hz33 ?_
          show gW _ _ _ _ _ 34 [.ref 57, .int a1, .int a2, .int a3, .int a4, .int z31.1] [.int z33.1] (gKn n, gRf f g, z33.2.1, z33.2.2) _
          refine r_iret rfl ?_
          cases hr
          exact hQ
        · rw [if_neg c30] at hr
          refine gforget (ls := [.null, .null, .null, .null, .null, .null]) ⟨(Or.inr (Or.inr ⟨rfl, _, rfl⟩)), ⟨(Or.inr (Or.inl ⟨rfl, _, rfl⟩)), ⟨(Or.inr (Or.inl ⟨rfl, _, rfl⟩)), ⟨(Or.inr (Or.inl ⟨rfl, _, rfl⟩)), ⟨(Or.inr (Or.inl ⟨rfl, _, rfl⟩)), ⟨(Or.inl rfl), trivial⟩⟩⟩⟩⟩⟩ ?_
          exact t_X8_harmony_16  hr hQ
def r_X8_layTrial_2   : Nat → Int32 → (Nat → Nat → Int32) → (Nat → Nat → Int64) → Option gRs
  | 0, _, _, _ => none
  | m + 1, v1, I, L => (if (nI 27) ≤ v1 then some (0, I, L) else (if gvp v1 54 = true then (if gvp ((nI 27) + v1) 54 = true then (r_X8_layTrial_2  m (v1 + (nI 1)) (gu2 I 63 (gx ((nI 27) + v1)) (I 63 (gx v1))) L) else none) else none))
set_option maxHeartbeats 4000000 in
set_option maxRecDepth 100000 in
theorem t_X8_layTrial_2 {n f g d : Nat} {Q : gP} {z : gRs}    : ∀ {m : Nat} {v1 : Int32} {I : Nat → Nat → Int32} {L : Nat → Nat → Int64}, r_X8_layTrial_2 m v1 I L = some z → Q none (gKn n, gRf f g, z.2.1, z.2.2) → gW gM (d + 0) 0 0 k_X8_layTrial 2 [.ref 57, .int v1] [] (gKn n, gRf f g, I, L) Q := by
  intro m
  induction m with
  | zero =>
    intro v1 I L hr _
    cases hr
  | succ m ih =>
    intro v1 I L hr hQ
    have hK2 : ∀ v1 I L, r_X8_layTrial_2 m v1 I L = some z → gW gM (d + 0) 0 0 k_X8_layTrial 2 [.ref 57, .int v1] [] (gKn n, gRf f g, I, L) Q := fun v1 I L hr => ih hr hQ
    unfold r_X8_layTrial_2 at hr
    refine r_iload rfl rfl ?_
    refine r_const rfl (gcst 27) ?_
    refine r_icmp_ge 17 rfl rfl (fun c4 => ?_) (fun c4 => ?_)
    · rw [if_pos c4] at hr
      refine r_vret rfl ?_
      cases hr
      exact hQ
    · rw [if_neg c4] at hr
      refine r_aload rfl rfl ?_
      refine r_getR (c := 8) (k := 9) (v := 63) rfl rfl ⟨rfl, rfl⟩ rfl ?_
      refine r_const rfl (gcst 27) ?_
      refine r_iload rfl rfl ?_
      refine r_iadd rfl ?_
      refine r_aload rfl rfl ?_
      refine r_getR (c := 8) (k := 9) (v := 63) rfl rfl ⟨rfl, rfl⟩ rfl ?_
      refine r_iload rfl rfl ?_
      obtain ⟨b5, hr⟩ := gopt hr
      refine r_iaload (n := 54) rfl rfl (gvp_in b5) ?_
      obtain ⟨b6, hr⟩ := gopt hr
      refine r_iastore (n := 54) rfl rfl (gvp_in b6) (by decide) ?_
      refine r_iinc (y := (v1 + (nI 1))) [.ref 57, .int (v1 + (nI 1))] rfl rfl rfl (ginc _ 1) rfl ?_
      refine r_goto 2 rfl rfl ?_
      exact hK2 _ _ _ hr
def r_X8_layTrial (I : Nat → Nat → Int32) (L : Nat → Nat → Int64)  : Option gRs := (r_X8_layTrial_2 100 (nI 0) I L)
set_option maxHeartbeats 4000000 in
set_option maxRecDepth 100000 in
theorem s_X8_layTrial {n f g d : Nat} {Q : gP} {I : Nat → Nat → Int32} {L : Nat → Nat → Int64}  {z : gRs}  (hr : r_X8_layTrial I L  = some z) (hQ : Q none (gKn n, gRf f g, z.2.1, z.2.2)) : gR gM (d + 0) 148 [.ref 57] (gKn n, gRf f g, I, L) Q := by
  unfold r_X8_layTrial at hr
  show gW gM (d + 0) 0 0 k_X8_layTrial 0 [.ref 57, .null] [] (gKn n, gRf f g, I, L) Q
  refine r_const rfl (gcst 0) ?_
  refine r_istore [.ref 57, .int (nI 0)] rfl rfl (Nat.le_of_ble_eq_true rfl) rfl ?_
  exact t_X8_layTrial_2  hr hQ
def r_X8_power_4   : Nat → Int32 → Int32 → Int32 → Int32 → (Nat → Nat → Int32) → (Nat → Nat → Int64) → Option gRs
  | 0, _, _, _, _, _, _ => none
  | m + 1, v0, v1, v2, v3, I, L => (if v1 ≤ v3 then some (v2, I, L) else (r_X8_power_4  m v0 v1 (v2 * v0) (v3 + (nI 1)) I L))
set_option maxHeartbeats 4000000 in
set_option maxRecDepth 100000 in
theorem t_X8_power_4 {n f g d : Nat} {Q : gP} {z : gRs}    : ∀ {m : Nat} {v0 : Int32} {v1 : Int32} {v2 : Int32} {v3 : Int32} {I : Nat → Nat → Int32} {L : Nat → Nat → Int64}, r_X8_power_4 m v0 v1 v2 v3 I L = some z → Q (some (.int z.1)) (gKn n, gRf f g, z.2.1, z.2.2) → gW gM (d + 0) 0 0 k_X8_power 4 [.int v0, .int v1, .int v2, .int v3] [] (gKn n, gRf f g, I, L) Q := by
  intro m
  induction m with
  | zero =>
    intro v0 v1 v2 v3 I L hr _
    cases hr
  | succ m ih =>
    intro v0 v1 v2 v3 I L hr hQ
    have hK4 : ∀ v0 v1 v2 v3 I L, r_X8_power_4 m v0 v1 v2 v3 I L = some z → gW gM (d + 0) 0 0 k_X8_power 4 [.int v0, .int v1, .int v2, .int v3] [] (gKn n, gRf f g, I, L) Q := fun v0 v1 v2 v3 I L hr => ih hr hQ
    unfold r_X8_power_4 at hr
    refine r_iload rfl rfl ?_
    refine r_iload rfl rfl ?_
    refine r_icmp_ge 13 rfl rfl (fun c2 => ?_) (fun c2 => ?_)
    · rw [if_pos c2] at hr
      refine r_iload rfl rfl ?_
      refine r_iret rfl ?_
      cases hr
      exact hQ
    · rw [if_neg c2] at hr
      refine r_iload rfl rfl ?_
      refine r_iload rfl rfl ?_
      refine r_imul rfl ?_
      refine r_istore [.int v0, .int v1, .int (v2 * v0), .int v3] rfl rfl (Nat.le_of_ble_eq_true rfl) rfl ?_
      refine r_iinc (y := (v3 + (nI 1))) [.int v0, .int v1, .int (v2 * v0), .int (v3 + (nI 1))] rfl rfl rfl (ginc _ 1) rfl ?_
      refine r_goto 4 rfl rfl ?_
      exact hK4 _ _ _ _ _ _ hr
def r_X8_power (I : Nat → Nat → Int32) (L : Nat → Nat → Int64) (a0 : Int32) (a1 : Int32) : Option gRs := (r_X8_power_4 100 a0 a1 (nI 1) (nI 0) I L)
set_option maxHeartbeats 4000000 in
set_option maxRecDepth 100000 in
theorem s_X8_power {n f g d : Nat} {Q : gP} {I : Nat → Nat → Int32} {L : Nat → Nat → Int64} {a0 : Int32} {a1 : Int32} {z : gRs}  (hr : r_X8_power I L a0 a1 = some z) (hQ : Q (some (.int z.1)) (gKn n, gRf f g, z.2.1, z.2.2)) : gR gM (d + 0) 149 [.int a0, .int a1] (gKn n, gRf f g, I, L) Q := by
  unfold r_X8_power at hr
  show gW gM (d + 0) 0 0 k_X8_power 0 [.int a0, .int a1, .null, .null] [] (gKn n, gRf f g, I, L) Q
  refine r_const rfl (gcst 1) ?_
  refine r_istore [.int a0, .int a1, .int (nI 1), .null] rfl rfl (Nat.le_of_ble_eq_true rfl) rfl ?_
  refine r_const rfl (gcst 0) ?_
  refine r_istore [.int a0, .int a1, .int (nI 1), .int (nI 0)] rfl rfl (Nat.le_of_ble_eq_true rfl) rfl ?_
  exact t_X8_power_4  hr hQ
def r_X8_driveRow_10   : Nat → Int32 → Int32 → Int32 → Int32 → (Nat → Nat → Int32) → (Nat → Nat → Int64) → Option gRs
  | 0, _, _, _, _, _, _ => none
  | m + 1, v1, v2, v3, v4, I, L => (if v1 ≤ v4 then some ((nI 1), I, L) else ((r_X8_power I L v3 ((v1 - (nI 1)) - v4)).bind (fun z14 => (if ¬ z14.1 = 0 then (if ¬ v3 = 0 then (if ¬ (z14.2.1 57 1) = 0 then (if ¬ (z14.2.1 57 1) = 0 then ((r_X8_canDrive z14.2.1 z14.2.2 (nI 1) ((grem (v2 / z14.1) v3) / (z14.2.1 57 1)) (grem (grem (v2 / z14.1) v3) (z14.2.1 57 1))).bind (fun z19 => (if ¬ z19.1 = 0 then (if ¬ (z19.2.1 57 1) = 0 then (if ¬ (z19.2.1 57 1) = 0 then ((r_X8_driveOn z19.2.1 z19.2.2 (nI 1) ((grem (v2 / z14.1) v3) / (z19.2.1 57 1)) (grem (grem (v2 / z14.1) v3) (z19.2.1 57 1))).bind (fun z23 => (r_X8_driveRow_10  m v1 v2 v3 (v4 + (nI 1)) z23.2.1 z23.2.2))) else none) else none) else some ((nI 0), z19.2.1, z19.2.2)))) else none) else none) else none) else none))))
set_option maxHeartbeats 4000000 in
set_option maxRecDepth 100000 in
theorem t_X8_driveRow_10 {n f g d : Nat} {Q : gP} {z : gRs}    : ∀ {m : Nat} {v1 : Int32} {v2 : Int32} {v3 : Int32} {v4 : Int32} {I : Nat → Nat → Int32} {L : Nat → Nat → Int64}, r_X8_driveRow_10 m v1 v2 v3 v4 I L = some z → Q (some (.int z.1)) (gKn n, gRf f g, z.2.1, z.2.2) → gW gM (d + 4) 0 0 k_X8_driveRow 10 [.ref 57, .int v1, .int v2, .int v3, .int v4, .null] [] (gKn n, gRf f g, I, L) Q := by
  intro m
  induction m with
  | zero =>
    intro v1 v2 v3 v4 I L hr _
    cases hr
  | succ m ih =>
    intro v1 v2 v3 v4 I L hr hQ
    have hK10 : ∀ v1 v2 v3 v4 I L, r_X8_driveRow_10 m v1 v2 v3 v4 I L = some z → gW gM (d + 4) 0 0 k_X8_driveRow 10 [.ref 57, .int v1, .int v2, .int v3, .int v4, .null] [] (gKn n, gRf f g, I, L) Q := fun v1 v2 v3 v4 I L hr => ih hr hQ
    unfold r_X8_driveRow_10 at hr
    refine r_iload rfl rfl ?_
    refine r_iload rfl rfl ?_
    refine r_icmp_ge 53 rfl rfl (fun c13 => ?_) (fun c13 => ?_)
    · rw [if_pos c13] at hr
      refine r_const rfl (gcst 1) ?_
      refine r_zret rfl (Or.inr rfl) ?_
      cases hr
      exact hQ
    · rw [if_neg c13] at hr
      refine r_iload rfl rfl ?_
      refine r_iload rfl rfl ?_
      refine r_iload rfl rfl ?_
      refine r_const rfl (gcst 1) ?_
      refine r_isub rfl ?_
      refine r_iload rfl rfl ?_
      refine r_isub rfl ?_
      obtain ⟨z14, hz14, hr⟩ := gbnd hr
      refine r_invs [.int v3, .int ((v1 - (nI 1)) - v4)] rfl rfl rfl rfl (Nat.le_of_ble_eq_true rfl) ⟨rfl, rfl⟩ ?_
      refine s_X8_power  hz14 ?_
      show gW _ _ _ _ _ 21 [.ref 57, .int v1, .int v2, .int v3, .int v4, .null] [.int z14.1, .int v2] (gKn n, gRf f g, z14.2.1, z14.2.2) _
      obtain ⟨b15, hr⟩ := gopt hr
      refine r_idiv rfl b15 ?_
      refine r_iload rfl rfl ?_
      obtain ⟨b16, hr⟩ := gopt hr
      refine r_irem rfl b16 ?_
      refine r_istore [.ref 57, .int v1, .int v2, .int v3, .int v4, .int (grem (v2 / z14.1) v3)] rfl rfl (Nat.le_of_ble_eq_true rfl) rfl ?_
      refine r_aload rfl rfl ?_
      refine r_const rfl (gcst 1) ?_
      refine r_iload rfl rfl ?_
      refine r_aload rfl rfl ?_
      refine r_getI (c := 8) (k := 1) rfl rfl ⟨rfl, rfl⟩ ?_
      obtain ⟨b17, hr⟩ := gopt hr
      refine r_idiv rfl b17 ?_
      refine r_iload rfl rfl ?_
      refine r_aload rfl rfl ?_
      refine r_getI (c := 8) (k := 1) rfl rfl ⟨rfl, rfl⟩ ?_
      obtain ⟨b18, hr⟩ := gopt hr
      refine r_irem rfl b18 ?_
      obtain ⟨z19, hz19, hr⟩ := gbnd hr
      refine r_invv (a := 57) [.int (nI 1), .int ((grem (v2 / z14.1) v3) / (z14.2.1 57 1)), .int (grem (grem (v2 / z14.1) v3) (z14.2.1 57 1))] rfl rfl rfl rfl rfl (Nat.le_of_ble_eq_true rfl) ⟨rfl, rfl⟩ ?_
      refine s_X8_canDrive  hz19 ?_
      show gW _ _ _ _ _ 36 [.ref 57, .int v1, .int v2, .int v3, .int v4, .int (grem (v2 / z14.1) v3)] [.int z19.1] (gKn n, gRf f g, z19.2.1, z19.2.2) _
      refine r_if_ne 39 rfl rfl (fun c20 => ?_) (fun c20 => ?_)
      · rw [if_pos c20] at hr
        refine r_aload rfl rfl ?_
        refine r_const rfl (gcst 1) ?_
        refine r_iload rfl rfl ?_
        refine r_aload rfl rfl ?_
        refine r_getI (c := 8) (k := 1) rfl rfl ⟨rfl, rfl⟩ ?_
        obtain ⟨b21, hr⟩ := gopt hr
        refine r_idiv rfl b21 ?_
        refine r_iload rfl rfl ?_
        refine r_aload rfl rfl ?_
        refine r_getI (c := 8) (k := 1) rfl rfl ⟨rfl, rfl⟩ ?_
        obtain ⟨b22, hr⟩ := gopt hr
        refine r_irem rfl b22 ?_
        obtain ⟨z23, hz23, hr⟩ := gbnd hr
        refine r_invv (a := 57) [.int (nI 1), .int ((grem (v2 / z14.1) v3) / (z19.2.1 57 1)), .int (grem (grem (v2 / z14.1) v3) (z19.2.1 57 1))] rfl rfl rfl rfl rfl (Nat.le_of_ble_eq_true rfl) ⟨rfl, rfl⟩ ?_
        refine s_X8_driveOn  hz23 ?_
        show gW _ _ _ _ _ 50 [.ref 57, .int v1, .int v2, .int v3, .int v4, .int (grem (v2 / z14.1) v3)] [.int z23.1] (gKn n, gRf f g, z23.2.1, z23.2.2) _
        refine r_pop rfl rfl ?_
        refine r_iinc (y := (v4 + (nI 1))) [.ref 57, .int v1, .int v2, .int v3, .int (v4 + (nI 1)), .int (grem (v2 / z14.1) v3)] rfl rfl rfl (ginc _ 1) rfl ?_
        refine r_goto 10 rfl rfl ?_
        refine gforget (ls := [.ref 57, .int v1, .int v2, .int v3, .int (v4 + (nI 1)), .null]) ⟨(Or.inl rfl), ⟨(Or.inl rfl), ⟨(Or.inl rfl), ⟨(Or.inl rfl), ⟨(Or.inl rfl), ⟨(Or.inr (Or.inl ⟨rfl, _, rfl⟩)), trivial⟩⟩⟩⟩⟩⟩ ?_
        exact hK10 _ _ _ _ _ _ hr
      · rw [if_neg c20] at hr
        refine r_const rfl (gcst 0) ?_
        refine r_zret rfl (Or.inl rfl) ?_
        cases hr
        exact hQ
def r_X8_driveRow (I : Nat → Nat → Int32) (L : Nat → Nat → Int64) (a1 : Int32) (a2 : Int32) : Option gRs := ((r_X8_layTrial I L).bind (fun z24 => (r_X8_driveRow_10 100 a1 a2 ((I 57 2) * (I 57 1)) (nI 0) z24.2.1 z24.2.2)))
set_option maxHeartbeats 4000000 in
set_option maxRecDepth 100000 in
theorem s_X8_driveRow {n f g d : Nat} {Q : gP} {I : Nat → Nat → Int32} {L : Nat → Nat → Int64} {a1 : Int32} {a2 : Int32} {z : gRs}  (hr : r_X8_driveRow I L a1 a2 = some z) (hQ : Q (some (.int z.1)) (gKn n, gRf f g, z.2.1, z.2.2)) : gR gM (d + 4) 150 [.ref 57, .int a1, .int a2] (gKn n, gRf f g, I, L) Q := by
  unfold r_X8_driveRow at hr
  show gW gM (d + 4) 0 0 k_X8_driveRow 0 [.ref 57, .int a1, .int a2, .null, .null, .null] [] (gKn n, gRf f g, I, L) Q
  refine r_aload rfl rfl ?_
  refine r_getI (c := 8) (k := 2) rfl rfl ⟨rfl, rfl⟩ ?_
  refine r_aload rfl rfl ?_
  refine r_getI (c := 8) (k := 1) rfl rfl ⟨rfl, rfl⟩ ?_
  refine r_imul rfl ?_
  refine r_istore [.ref 57, .int a1, .int a2, .int ((I 57 2) * (I 57 1)), .null, .null] rfl rfl (Nat.le_of_ble_eq_true rfl) rfl ?_
  refine r_aload rfl rfl ?_
  obtain ⟨z24, hz24, hr⟩ := gbnd hr
  refine r_invv (a := 57) [] rfl rfl rfl rfl rfl (Nat.le_of_ble_eq_true rfl) ⟨rfl, rfl⟩ ?_
  refine s_X8_layTrial  hz24 ?_
  show gW _ _ _ _ _ 8 [.ref 57, .int a1, .int a2, .int ((I 57 2) * (I 57 1)), .null, .null] [] (gKn n, gRf f g, z24.2.1, z24.2.2) _
  refine r_const rfl (gcst 0) ?_
  refine r_istore [.ref 57, .int a1, .int a2, .int ((I 57 2) * (I 57 1)), .int (nI 0), .null] rfl rfl (Nat.le_of_ble_eq_true rfl) rfl ?_
  exact t_X8_driveRow_10  hr hQ
def r_X8_told_10   : Nat → Int32 → Int32 → Int32 → Int32 → Int32 → (Nat → Nat → Int32) → (Nat → Nat → Int64) → Option gRs
  | 0, _, _, _, _, _, _, _ => none
  | m + 1, v1, v2, v3, v4, v5, I, L => (if v1 ≤ v5 then some (v4, I, L) else ((r_X8_power I L v3 ((v1 - (nI 1)) - v5)).bind (fun z8 => (if ¬ z8.1 = 0 then (if ¬ v3 = 0 then (if ¬ (z8.2.1 57 1) = 0 then (if ¬ (z8.2.1 57 1) = 0 then (r_X8_told_10  m v1 v2 v3 (((((nI 100) * v4) + ((nI 10) * (((grem (v2 / z8.1) v3) / (z8.2.1 57 1)) + (nI 1)))) + (grem (grem (v2 / z8.1) v3) (z8.2.1 57 1))) + (nI 1)) (v5 + (nI 1)) z8.2.1 z8.2.2) else none) else none) else none) else none))))
set_option maxHeartbeats 4000000 in
set_option maxRecDepth 100000 in
theorem t_X8_told_10 {n f g d : Nat} {Q : gP} {z : gRs}    : ∀ {m : Nat} {v1 : Int32} {v2 : Int32} {v3 : Int32} {v4 : Int32} {v5 : Int32} {I : Nat → Nat → Int32} {L : Nat → Nat → Int64}, r_X8_told_10 m v1 v2 v3 v4 v5 I L = some z → Q (some (.int z.1)) (gKn n, gRf f g, z.2.1, z.2.2) → gW gM (d + 1) 0 0 k_X8_told 10 [.ref 57, .int v1, .int v2, .int v3, .int v4, .int v5, .null] [] (gKn n, gRf f g, I, L) Q := by
  intro m
  induction m with
  | zero =>
    intro v1 v2 v3 v4 v5 I L hr _
    cases hr
  | succ m ih =>
    intro v1 v2 v3 v4 v5 I L hr hQ
    have hK10 : ∀ v1 v2 v3 v4 v5 I L, r_X8_told_10 m v1 v2 v3 v4 v5 I L = some z → gW gM (d + 1) 0 0 k_X8_told 10 [.ref 57, .int v1, .int v2, .int v3, .int v4, .int v5, .null] [] (gKn n, gRf f g, I, L) Q := fun v1 v2 v3 v4 v5 I L hr => ih hr hQ
    unfold r_X8_told_10 at hr
    refine r_iload rfl rfl ?_
    refine r_iload rfl rfl ?_
    refine r_icmp_ge 47 rfl rfl (fun c7 => ?_) (fun c7 => ?_)
    · rw [if_pos c7] at hr
      refine r_iload rfl rfl ?_
      refine r_iret rfl ?_
      cases hr
      exact hQ
    · rw [if_neg c7] at hr
      refine r_iload rfl rfl ?_
      refine r_iload rfl rfl ?_
      refine r_iload rfl rfl ?_
      refine r_const rfl (gcst 1) ?_
      refine r_isub rfl ?_
      refine r_iload rfl rfl ?_
      refine r_isub rfl ?_
      obtain ⟨z8, hz8, hr⟩ := gbnd hr
      refine r_invs [.int v3, .int ((v1 - (nI 1)) - v5)] rfl rfl rfl rfl (Nat.le_of_ble_eq_true rfl) ⟨rfl, rfl⟩ ?_
      refine s_X8_power  hz8 ?_
      show gW _ _ _ _ _ 21 [.ref 57, .int v1, .int v2, .int v3, .int v4, .int v5, .null] [.int z8.1, .int v2] (gKn n, gRf f g, z8.2.1, z8.2.2) _
      obtain ⟨b9, hr⟩ := gopt hr
      refine r_idiv rfl b9 ?_
      refine r_iload rfl rfl ?_
      obtain ⟨b10, hr⟩ := gopt hr
      refine r_irem rfl b10 ?_
      refine r_istore [.ref 57, .int v1, .int v2, .int v3, .int v4, .int v5, .int (grem (v2 / z8.1) v3)] rfl rfl (Nat.le_of_ble_eq_true rfl) rfl ?_
      refine r_const rfl (gcst 100) ?_
      refine r_iload rfl rfl ?_
      refine r_imul rfl ?_
      refine r_const rfl (gcst 10) ?_
      refine r_iload rfl rfl ?_
      refine r_aload rfl rfl ?_
      refine r_getI (c := 8) (k := 1) rfl rfl ⟨rfl, rfl⟩ ?_
      obtain ⟨b11, hr⟩ := gopt hr
      refine r_idiv rfl b11 ?_
      refine r_const rfl (gcst 1) ?_
      refine r_iadd rfl ?_
      refine r_imul rfl ?_
      refine r_iadd rfl ?_
      refine r_iload rfl rfl ?_
      refine r_aload rfl rfl ?_
      refine r_getI (c := 8) (k := 1) rfl rfl ⟨rfl, rfl⟩ ?_
      obtain ⟨b12, hr⟩ := gopt hr
      refine r_irem rfl b12 ?_
      refine r_iadd rfl ?_
      refine r_const rfl (gcst 1) ?_
      refine r_iadd rfl ?_
      refine r_istore [.ref 57, .int v1, .int v2, .int v3, .int (((((nI 100) * v4) + ((nI 10) * (((grem (v2 / z8.1) v3) / (z8.2.1 57 1)) + (nI 1)))) + (grem (grem (v2 / z8.1) v3) (z8.2.1 57 1))) + (nI 1)), .int v5, .int (grem (v2 / z8.1) v3)] rfl rfl (Nat.le_of_ble_eq_true rfl) rfl ?_
      refine r_iinc (y := (v5 + (nI 1))) [.ref 57, .int v1, .int v2, .int v3, .int (((((nI 100) * v4) + ((nI 10) * (((grem (v2 / z8.1) v3) / (z8.2.1 57 1)) + (nI 1)))) + (grem (grem (v2 / z8.1) v3) (z8.2.1 57 1))) + (nI 1)), .int (v5 + (nI 1)), .int (grem (v2 / z8.1) v3)] rfl rfl rfl (ginc _ 1) rfl ?_
      refine r_goto 10 rfl rfl ?_
      refine gforget (ls := [.ref 57, .int v1, .int v2, .int v3, .int (((((nI 100) * v4) + ((nI 10) * (((grem (v2 / z8.1) v3) / (z8.2.1 57 1)) + (nI 1)))) + (grem (grem (v2 / z8.1) v3) (z8.2.1 57 1))) + (nI 1)), .int (v5 + (nI 1)), .null]) ⟨(Or.inl rfl), ⟨(Or.inl rfl), ⟨(Or.inl rfl), ⟨(Or.inl rfl), ⟨(Or.inl rfl), ⟨(Or.inl rfl), ⟨(Or.inr (Or.inl ⟨rfl, _, rfl⟩)), trivial⟩⟩⟩⟩⟩⟩⟩ ?_
      exact hK10 _ _ _ _ _ _ _ hr
def r_X8_told (I : Nat → Nat → Int32) (L : Nat → Nat → Int64) (a1 : Int32) (a2 : Int32) : Option gRs := (r_X8_told_10 100 a1 a2 ((I 57 2) * (I 57 1)) (nI 0) (nI 0) I L)
set_option maxHeartbeats 4000000 in
set_option maxRecDepth 100000 in
theorem s_X8_told {n f g d : Nat} {Q : gP} {I : Nat → Nat → Int32} {L : Nat → Nat → Int64} {a1 : Int32} {a2 : Int32} {z : gRs}  (hr : r_X8_told I L a1 a2 = some z) (hQ : Q (some (.int z.1)) (gKn n, gRf f g, z.2.1, z.2.2)) : gR gM (d + 1) 151 [.ref 57, .int a1, .int a2] (gKn n, gRf f g, I, L) Q := by
  unfold r_X8_told at hr
  show gW gM (d + 1) 0 0 k_X8_told 0 [.ref 57, .int a1, .int a2, .null, .null, .null, .null] [] (gKn n, gRf f g, I, L) Q
  refine r_aload rfl rfl ?_
  refine r_getI (c := 8) (k := 2) rfl rfl ⟨rfl, rfl⟩ ?_
  refine r_aload rfl rfl ?_
  refine r_getI (c := 8) (k := 1) rfl rfl ⟨rfl, rfl⟩ ?_
  refine r_imul rfl ?_
  refine r_istore [.ref 57, .int a1, .int a2, .int ((I 57 2) * (I 57 1)), .null, .null, .null] rfl rfl (Nat.le_of_ble_eq_true rfl) rfl ?_
  refine r_const rfl (gcst 0) ?_
  refine r_istore [.ref 57, .int a1, .int a2, .int ((I 57 2) * (I 57 1)), .int (nI 0), .null, .null] rfl rfl (Nat.le_of_ble_eq_true rfl) rfl ?_
  refine r_const rfl (gcst 0) ?_
  refine r_istore [.ref 57, .int a1, .int a2, .int ((I 57 2) * (I 57 1)), .int (nI 0), .int (nI 0), .null] rfl rfl (Nat.le_of_ble_eq_true rfl) rfl ?_
  exact t_X8_told_10  hr hQ
def r_X8_bestFit_27  (K7 : Int32 → Int32 → Int32 → Int32 → (Nat → Nat → Int32) → (Nat → Nat → Int64) → Option gRs) (v1 : Int32) (v2 : Int32) (v3 : Int32) (v4 : Int32) (s0 : Int32) (I : Nat → Nat → Int32) (L : Nat → Nat → Int64) : Option gRs := (K7 v1 v2 (if s0 ≤ v3 then v3 else s0) (v4 + (nI 1)) (gu2 I 57 28 (if s0 ≤ v3 then (I 57 28) else v4)) L)
set_option maxHeartbeats 4000000 in
set_option maxRecDepth 100000 in
theorem t_X8_bestFit_27 {n f g d : Nat} {Q : gP} {z : gRs}   {K7 : Int32 → Int32 → Int32 → Int32 → (Nat → Nat → Int32) → (Nat → Nat → Int64) → Option gRs} (hK7 : ∀ v1 v2 v3 v4 I L, K7 v1 v2 v3 v4 I L = some z → gW gM (d + 5) 0 0 k_X8_bestFit 7 [.ref 57, .int v1, .int v2, .int v3, .int v4, .null] [] (gKn n, gRf f g, I, L) Q) {v1 : Int32} {v2 : Int32} {v3 : Int32} {v4 : Int32} {s0 : Int32} {I : Nat → Nat → Int32} {L : Nat → Nat → Int64} (hr : r_X8_bestFit_27 K7 v1 v2 v3 v4 s0 I L = some z) (hQ : Q (some (.int z.1)) (gKn n, gRf f g, z.2.1, z.2.2)) : gW gM (d + 5) 0 0 k_X8_bestFit 27 [.ref 57, .int v1, .int v2, .int v3, .int v4, .null] [.int s0] (gKn n, gRf f g, I, L) Q := by
  unfold r_X8_bestFit_27 at hr
  refine r_istore [.ref 57, .int v1, .int v2, .int v3, .int v4, .int s0] rfl rfl (Nat.le_of_ble_eq_true rfl) rfl ?_
  refine r_aload rfl rfl ?_
  refine r_iload rfl rfl ?_
  refine r_iload rfl rfl ?_
  have j15 : gW gM (d + 5) 0 0 k_X8_bestFit 36 [.ref 57, .int v1, .int v2, .int v3, .int v4, .int s0] [.int (if s0 ≤ v3 then (I 57 28) else v4), .ref 57] (gKn n, gRf f g, I, L) Q := by
    refine r_putI (c := 8) (k := 28) rfl rfl ⟨rfl, rfl⟩ ?_
    refine r_iload rfl rfl ?_
    refine r_iload rfl rfl ?_
    have j16 : gW gM (d + 5) 0 0 k_X8_bestFit 43 [.ref 57, .int v1, .int v2, .int v3, .int v4, .int s0] [.int (if s0 ≤ v3 then v3 else s0)] (gKn n, gRf f g, (gu2 I 57 28 (if s0 ≤ v3 then (I 57 28) else v4)), L) Q := by
      refine r_istore [.ref 57, .int v1, .int v2, .int (if s0 ≤ v3 then v3 else s0), .int v4, .int s0] rfl rfl (Nat.le_of_ble_eq_true rfl) rfl ?_
      refine r_iinc (y := (v4 + (nI 1))) [.ref 57, .int v1, .int v2, .int (if s0 ≤ v3 then v3 else s0), .int (v4 + (nI 1)), .int s0] rfl rfl rfl (ginc _ 1) rfl ?_
      refine r_goto 7 rfl rfl ?_
      refine gforget (ls := [.ref 57, .int v1, .int v2, .int (if s0 ≤ v3 then v3 else s0), .int (v4 + (nI 1)), .null]) ⟨(Or.inl rfl), ⟨(Or.inl rfl), ⟨(Or.inl rfl), ⟨(Or.inl rfl), ⟨(Or.inl rfl), ⟨(Or.inr (Or.inl ⟨rfl, _, rfl⟩)), trivial⟩⟩⟩⟩⟩⟩ ?_
      exact hK7 _ _ _ _ _ _ hr
    refine r_icmp_le 42 rfl rfl (fun c14 => ?_) (fun c14 => ?_)
    · refine r_iload rfl rfl ?_
      first | contradiction | simpa only [if_pos c14] using j16
    · refine r_iload rfl rfl ?_
      refine r_goto 43 rfl rfl ?_
      first | contradiction | simpa only [if_neg c14] using j16
  refine r_icmp_le 34 rfl rfl (fun c13 => ?_) (fun c13 => ?_)
  · refine r_aload rfl rfl ?_
    refine r_getI (c := 8) (k := 28) rfl rfl ⟨rfl, rfl⟩ ?_
    first | contradiction | simpa only [if_pos c13] using j15
  · refine r_iload rfl rfl ?_
    refine r_goto 36 rfl rfl ?_
    first | contradiction | simpa only [if_neg c13] using j15
def r_X8_bestFit_7   : Nat → Int32 → Int32 → Int32 → Int32 → (Nat → Nat → Int32) → (Nat → Nat → Int64) → Option gRs
  | 0, _, _, _, _, _, _ => none
  | m + 1, v1, v2, v3, v4, I, L => ((r_X8_power I L ((I 57 2) * (I 57 1)) v2).bind (fun z17 => (if z17.1 ≤ v4 then some (v3, z17.2.1, z17.2.2) else ((r_X8_driveRow z17.2.1 z17.2.2 v2 v4).bind (fun z19 => (if z19.1 = 0 then (r_X8_bestFit_27 (r_X8_bestFit_7  m) v1 v2 v3 v4 (-9 : Int32) z19.2.1 z19.2.2) else ((r_X8_fitOn z19.2.1 z19.2.2 (nI 1) v1).bind (fun z21 => (r_X8_bestFit_27 (r_X8_bestFit_7  m) v1 v2 v3 v4 z21.1 z21.2.1 z21.2.2)))))))))
set_option maxHeartbeats 4000000 in
set_option maxRecDepth 100000 in
theorem t_X8_bestFit_7 {n f g d : Nat} {Q : gP} {z : gRs}    : ∀ {m : Nat} {v1 : Int32} {v2 : Int32} {v3 : Int32} {v4 : Int32} {I : Nat → Nat → Int32} {L : Nat → Nat → Int64}, r_X8_bestFit_7 m v1 v2 v3 v4 I L = some z → Q (some (.int z.1)) (gKn n, gRf f g, z.2.1, z.2.2) → gW gM (d + 5) 0 0 k_X8_bestFit 7 [.ref 57, .int v1, .int v2, .int v3, .int v4, .null] [] (gKn n, gRf f g, I, L) Q := by
  intro m
  induction m with
  | zero =>
    intro v1 v2 v3 v4 I L hr _
    cases hr
  | succ m ih =>
    intro v1 v2 v3 v4 I L hr hQ
    have hK7 : ∀ v1 v2 v3 v4 I L, r_X8_bestFit_7 m v1 v2 v3 v4 I L = some z → gW gM (d + 5) 0 0 k_X8_bestFit 7 [.ref 57, .int v1, .int v2, .int v3, .int v4, .null] [] (gKn n, gRf f g, I, L) Q := fun v1 v2 v3 v4 I L hr => ih hr hQ
    unfold r_X8_bestFit_7 at hr
    refine r_iload rfl rfl ?_
    refine r_aload rfl rfl ?_
    refine r_getI (c := 8) (k := 2) rfl rfl ⟨rfl, rfl⟩ ?_
    refine r_aload rfl rfl ?_
    refine r_getI (c := 8) (k := 1) rfl rfl ⟨rfl, rfl⟩ ?_
    refine r_imul rfl ?_
    refine r_iload rfl rfl ?_
    obtain ⟨z17, hz17, hr⟩ := gbnd hr
    refine r_invs [.int ((I 57 2) * (I 57 1)), .int v2] rfl rfl rfl rfl (Nat.le_of_ble_eq_true rfl) ⟨rfl, rfl⟩ ?_
    refine s_X8_power  hz17 ?_
    show gW _ _ _ _ _ 15 [.ref 57, .int v1, .int v2, .int v3, .int v4, .null] [.int z17.1, .int v4] (gKn n, gRf f g, z17.2.1, z17.2.2) _
    refine r_icmp_ge 46 rfl rfl (fun c18 => ?_) (fun c18 => ?_)
    · rw [if_pos c18] at hr
      refine r_iload rfl rfl ?_
      refine r_iret rfl ?_
      cases hr
      exact hQ
    · rw [if_neg c18] at hr
      refine r_aload rfl rfl ?_
      refine r_iload rfl rfl ?_
      refine r_iload rfl rfl ?_
      obtain ⟨z19, hz19, hr⟩ := gbnd hr
      refine r_invv (a := 57) [.int v2, .int v4] rfl rfl rfl rfl rfl (Nat.le_of_ble_eq_true rfl) ⟨rfl, rfl⟩ ?_
      refine s_X8_driveRow  hz19 ?_
      show gW _ _ _ _ _ 20 [.ref 57, .int v1, .int v2, .int v3, .int v4, .null] [.int z19.1] (gKn n, gRf f g, z19.2.1, z19.2.2) _
      refine r_if_eq 26 rfl rfl (fun c20 => ?_) (fun c20 => ?_)
      · rw [if_pos c20] at hr
        refine r_const rfl (v := -9) (by decide) ?_
        exact t_X8_bestFit_27 hK7 hr hQ
      · rw [if_neg c20] at hr
        refine r_aload rfl rfl ?_
        refine r_const rfl (gcst 1) ?_
        refine r_iload rfl rfl ?_
        obtain ⟨z21, hz21, hr⟩ := gbnd hr
        refine r_invv (a := 57) [.int (nI 1), .int v1] rfl rfl rfl rfl rfl (Nat.le_of_ble_eq_true rfl) ⟨rfl, rfl⟩ ?_
        refine s_X8_fitOn  hz21 ?_
        show gW _ _ _ _ _ 25 [.ref 57, .int v1, .int v2, .int v3, .int v4, .null] [.int z21.1] (gKn n, gRf f g, z21.2.1, z21.2.2) _
        refine r_goto 27 rfl rfl ?_
        exact t_X8_bestFit_27 hK7 hr hQ
def r_X8_bestFit (I : Nat → Nat → Int32) (L : Nat → Nat → Int64) (a1 : Int32) (a2 : Int32) : Option gRs := (r_X8_bestFit_7 4000 a1 a2 (-9 : Int32) (nI 0) (gu2 I 57 28 (nI 0)) L)
set_option maxHeartbeats 4000000 in
set_option maxRecDepth 100000 in
theorem s_X8_bestFit {n f g d : Nat} {Q : gP} {I : Nat → Nat → Int32} {L : Nat → Nat → Int64} {a1 : Int32} {a2 : Int32} {z : gRs}  (hr : r_X8_bestFit I L a1 a2 = some z) (hQ : Q (some (.int z.1)) (gKn n, gRf f g, z.2.1, z.2.2)) : gR gM (d + 5) 152 [.ref 57, .int a1, .int a2] (gKn n, gRf f g, I, L) Q := by
  unfold r_X8_bestFit at hr
  show gW gM (d + 5) 0 0 k_X8_bestFit 0 [.ref 57, .int a1, .int a2, .null, .null, .null] [] (gKn n, gRf f g, I, L) Q
  refine r_const rfl (v := -9) (by decide) ?_
  refine r_istore [.ref 57, .int a1, .int a2, .int (-9 : Int32), .null, .null] rfl rfl (Nat.le_of_ble_eq_true rfl) rfl ?_
  refine r_aload rfl rfl ?_
  refine r_const rfl (gcst 0) ?_
  refine r_putI (c := 8) (k := 28) rfl rfl ⟨rfl, rfl⟩ ?_
  refine r_const rfl (gcst 0) ?_
  refine r_istore [.ref 57, .int a1, .int a2, .int (-9 : Int32), .int (nI 0), .null] rfl rfl (Nat.le_of_ble_eq_true rfl) rfl ?_
  exact t_X8_bestFit_7  hr hQ
def r_X8_best_30   (v4 : Int32) (I : Nat → Nat → Int32) (L : Nat → Nat → Int64) : Option gRs := some (v4, I, L)
set_option maxHeartbeats 4000000 in
set_option maxRecDepth 100000 in
theorem t_X8_best_30 {n f g d : Nat} {Q : gP} {z : gRs}    {v4 : Int32} {I : Nat → Nat → Int32} {L : Nat → Nat → Int64} (hr : r_X8_best_30 v4 I L = some z) (hQ : Q (some (.int z.1)) (gKn n, gRf f g, z.2.1, z.2.2)) : gW gM (d + 6) 0 0 k_X8_best 30 [.null, .null, .null, .null, .int v4] [] (gKn n, gRf f g, I, L) Q := by
  unfold r_X8_best_30 at hr
  refine r_iload rfl rfl ?_
  refine r_iret rfl ?_
  cases hr
  exact hQ
def r_X8_best (I : Nat → Nat → Int32) (L : Nat → Nat → Int64) (a1 : Int32) (a2 : Int32) (a3 : Int32) : Option gRs := ((r_X8_isVerse I L a1).bind (fun z15 => (if ¬ z15.1 = 0 then (if ¬ (f_X8_in z15.2.1 z15.2.2 (Int32.toInt64 a2) (lN 1) (lN 3)) = 0 then ((r_X8_bestFit z15.2.1 z15.2.2 a1 a2).bind (fun z18 => (if a3 = 0 then (r_X8_best_30 z18.1 z18.2.1 z18.2.2) else (if z18.1 = (-9 : Int32) then (r_X8_best_30 z18.1 z18.2.1 z18.2.2) else ((r_X8_told z18.2.1 z18.2.2 a2 (z18.2.1 57 28)).bind (fun z21 => some (z21.1, z21.2.1, z21.2.2))))))) else some ((-2 : Int32), z15.2.1, z15.2.2)) else some ((-1 : Int32), z15.2.1, z15.2.2))))
set_option maxHeartbeats 4000000 in
set_option maxRecDepth 100000 in
theorem s_X8_best {n f g d : Nat} {Q : gP} {I : Nat → Nat → Int32} {L : Nat → Nat → Int64} {a1 : Int32} {a2 : Int32} {a3 : Int32} {z : gRs}  (hr : r_X8_best I L a1 a2 a3 = some z) (hQ : Q (some (.int z.1)) (gKn n, gRf f g, z.2.1, z.2.2)) : gR gM (d + 6) 153 [.ref 57, .int a1, .int a2, .int a3] (gKn n, gRf f g, I, L) Q := by
  unfold r_X8_best at hr
  show gW gM (d + 6) 0 0 k_X8_best 0 [.ref 57, .int a1, .int a2, .int a3, .null] [] (gKn n, gRf f g, I, L) Q
  refine r_aload rfl rfl ?_
  refine r_iload rfl rfl ?_
  obtain ⟨z15, hz15, hr⟩ := gbnd hr
  refine r_invv (a := 57) [.int a1] rfl rfl rfl rfl rfl (Nat.le_of_ble_eq_true rfl) ⟨rfl, rfl⟩ ?_
  refine s_X8_isVerse  hz15 ?_
  show gW _ _ _ _ _ 3 [.ref 57, .int a1, .int a2, .int a3, .null] [.int z15.1] (gKn n, gRf f g, z15.2.1, z15.2.2) _
  refine r_if_ne 6 rfl rfl (fun c16 => ?_) (fun c16 => ?_)
  · rw [if_pos c16] at hr
    refine r_iload rfl rfl ?_
    refine r_i2l rfl ?_
    refine r_lconst (v := lN 1) rfl rfl ?_
    refine r_lconst (v := lN 3) rfl rfl ?_
    refine r_invs [.long (Int32.toInt64 a2), .long (lN 1), .long (lN 3)] rfl rfl rfl rfl (Nat.le_of_ble_eq_true rfl) ⟨rfl, rfl⟩ ?_
    refine s_X8_in  ?_
    show gW _ _ _ _ _ 11 [.ref 57, .int a1, .int a2, .int a3, .null] [.int (f_X8_in z15.2.1 z15.2.2 (Int32.toInt64 a2) (lN 1) (lN 3))] (gKn n, gRf f g, z15.2.1, z15.2.2) _
    refine r_if_ne 14 rfl rfl (fun c17 => ?_) (fun c17 => ?_)
    · rw [if_pos c17] at hr
      refine r_aload rfl rfl ?_
      refine r_iload rfl rfl ?_
      refine r_iload rfl rfl ?_
      obtain ⟨z18, hz18, hr⟩ := gbnd hr
      refine r_invv (a := 57) [.int a1, .int a2] rfl rfl rfl rfl rfl (Nat.le_of_ble_eq_true rfl) ⟨rfl, rfl⟩ ?_
      refine s_X8_bestFit  hz18 ?_
      show gW _ _ _ _ _ 18 [.ref 57, .int a1, .int a2, .int a3, .null] [.int z18.1] (gKn n, gRf f g, z18.2.1, z18.2.2) _
      refine r_istore [.ref 57, .int a1, .int a2, .int a3, .int z18.1] rfl rfl (Nat.le_of_ble_eq_true rfl) rfl ?_
      refine r_iload rfl rfl ?_
      refine r_if_eq 30 rfl rfl (fun c19 => ?_) (fun c19 => ?_)
      · rw [if_pos c19] at hr
        refine gforget (ls := [.null, .null, .null, .null, .int z18.1]) ⟨(Or.inr (Or.inr ⟨rfl, _, rfl⟩)), ⟨(Or.inr (Or.inl ⟨rfl, _, rfl⟩)), ⟨(Or.inr (Or.inl ⟨rfl, _, rfl⟩)), ⟨(Or.inr (Or.inl ⟨rfl, _, rfl⟩)), ⟨(Or.inl rfl), trivial⟩⟩⟩⟩⟩ ?_
        exact t_X8_best_30  hr hQ
      · rw [if_neg c19] at hr
        refine r_iload rfl rfl ?_
        refine r_const rfl (v := -9) (by decide) ?_
        refine r_icmp_eq 30 rfl rfl (fun c20 => ?_) (fun c20 => ?_)
        · rw [if_pos c20] at hr
          refine gforget (ls := [.null, .null, .null, .null, .int z18.1]) ⟨(Or.inr (Or.inr ⟨rfl, _, rfl⟩)), ⟨(Or.inr (Or.inl ⟨rfl, _, rfl⟩)), ⟨(Or.inr (Or.inl ⟨rfl, _, rfl⟩)), ⟨(Or.inr (Or.inl ⟨rfl, _, rfl⟩)), ⟨(Or.inl rfl), trivial⟩⟩⟩⟩⟩ ?_
          exact t_X8_best_30  hr hQ
        · rw [if_neg c20] at hr
          refine r_aload rfl rfl ?_
          refine r_iload rfl rfl ?_
          refine r_aload rfl rfl ?_
          refine r_getI (c := 8) (k := 28) rfl rfl ⟨rfl, rfl⟩ ?_
          obtain ⟨z21, hz21, hr⟩ := gbnd hr
          refine r_invv (a := 57) [.int a2, .int (z18.2.1 57 28)] rfl rfl rfl rfl rfl (Nat.le_of_ble_eq_true rfl) ⟨rfl, rfl⟩ ?_
          refine s_X8_told  hz21 ?_
          show gW _ _ _ _ _ 29 [.ref 57, .int a1, .int a2, .int a3, .int z18.1] [.int z21.1] (gKn n, gRf f g, z21.2.1, z21.2.2) _
          refine r_goto 31 rfl rfl ?_
          refine r_iret rfl ?_
          cases hr
          exact hQ
    · rw [if_neg c17] at hr
      refine r_const rfl (v := -2) (by decide) ?_
      refine r_iret rfl ?_
      cases hr
      exact hQ
  · rw [if_neg c16] at hr
    refine r_const rfl (v := -1) (by decide) ?_
    refine r_iret rfl ?_
    cases hr
    exact hQ
def r_X8_fewest_8   : Nat → Int32 → Int32 → (Nat → Nat → Int32) → (Nat → Nat → Int64) → Option gRs
  | 0, _, _, _, _ => none
  | m + 1, v1, v2, I, L => (if (nI 4) ≤ v2 then some ((-9 : Int32), I, L) else ((r_X8_bestFit I L v1 v2).bind (fun z7 => (if ¬ z7.1 = (nI 4) then (r_X8_fewest_8  m v1 (v2 + (nI 1)) z7.2.1 z7.2.2) else some (v2, z7.2.1, z7.2.2)))))
set_option maxHeartbeats 4000000 in
set_option maxRecDepth 100000 in
theorem t_X8_fewest_8 {n f g d : Nat} {Q : gP} {z : gRs}    : ∀ {m : Nat} {v1 : Int32} {v2 : Int32} {I : Nat → Nat → Int32} {L : Nat → Nat → Int64}, r_X8_fewest_8 m v1 v2 I L = some z → Q (some (.int z.1)) (gKn n, gRf f g, z.2.1, z.2.2) → gW gM (d + 6) 0 0 k_X8_fewest 8 [.ref 57, .int v1, .int v2] [] (gKn n, gRf f g, I, L) Q := by
  intro m
  induction m with
  | zero =>
    intro v1 v2 I L hr _
    cases hr
  | succ m ih =>
    intro v1 v2 I L hr hQ
    have hK8 : ∀ v1 v2 I L, r_X8_fewest_8 m v1 v2 I L = some z → gW gM (d + 6) 0 0 k_X8_fewest 8 [.ref 57, .int v1, .int v2] [] (gKn n, gRf f g, I, L) Q := fun v1 v2 I L hr => ih hr hQ
    unfold r_X8_fewest_8 at hr
    refine r_iload rfl rfl ?_
    refine r_const rfl (gcst 4) ?_
    refine r_icmp_ge 21 rfl rfl (fun c6 => ?_) (fun c6 => ?_)
    · rw [if_pos c6] at hr
      refine r_const rfl (v := -9) (by decide) ?_
      refine r_iret rfl ?_
      cases hr
      exact hQ
    · rw [if_neg c6] at hr
      refine r_aload rfl rfl ?_
      refine r_iload rfl rfl ?_
      refine r_iload rfl rfl ?_
      obtain ⟨z7, hz7, hr⟩ := gbnd hr
      refine r_invv (a := 57) [.int v1, .int v2] rfl rfl rfl rfl rfl (Nat.le_of_ble_eq_true rfl) ⟨rfl, rfl⟩ ?_
      refine s_X8_bestFit  hz7 ?_
      show gW _ _ _ _ _ 15 [.ref 57, .int v1, .int v2] [.int z7.1] (gKn n, gRf f g, z7.2.1, z7.2.2) _
      refine r_const rfl (gcst 4) ?_
      refine r_icmp_ne 19 rfl rfl (fun c8 => ?_) (fun c8 => ?_)
      · rw [if_pos c8] at hr
        refine r_iinc (y := (v2 + (nI 1))) [.ref 57, .int v1, .int (v2 + (nI 1))] rfl rfl rfl (ginc _ 1) rfl ?_
        refine r_goto 8 rfl rfl ?_
        exact hK8 _ _ _ _ hr
      · rw [if_neg c8] at hr
        refine r_iload rfl rfl ?_
        refine r_iret rfl ?_
        cases hr
        exact hQ
def r_X8_fewest (I : Nat → Nat → Int32) (L : Nat → Nat → Int64) (a1 : Int32) : Option gRs := ((r_X8_isVerse I L a1).bind (fun z9 => (if ¬ z9.1 = 0 then (r_X8_fewest_8 100 a1 (nI 0) z9.2.1 z9.2.2) else some ((-1 : Int32), z9.2.1, z9.2.2))))
set_option maxHeartbeats 4000000 in
set_option maxRecDepth 100000 in
theorem s_X8_fewest {n f g d : Nat} {Q : gP} {I : Nat → Nat → Int32} {L : Nat → Nat → Int64} {a1 : Int32} {z : gRs}  (hr : r_X8_fewest I L a1 = some z) (hQ : Q (some (.int z.1)) (gKn n, gRf f g, z.2.1, z.2.2)) : gR gM (d + 6) 154 [.ref 57, .int a1] (gKn n, gRf f g, I, L) Q := by
  unfold r_X8_fewest at hr
  show gW gM (d + 6) 0 0 k_X8_fewest 0 [.ref 57, .int a1, .null] [] (gKn n, gRf f g, I, L) Q
  refine r_aload rfl rfl ?_
  refine r_iload rfl rfl ?_
  obtain ⟨z9, hz9, hr⟩ := gbnd hr
  refine r_invv (a := 57) [.int a1] rfl rfl rfl rfl rfl (Nat.le_of_ble_eq_true rfl) ⟨rfl, rfl⟩ ?_
  refine s_X8_isVerse  hz9 ?_
  show gW _ _ _ _ _ 3 [.ref 57, .int a1, .null] [.int z9.1] (gKn n, gRf f g, z9.2.1, z9.2.2) _
  refine r_if_ne 6 rfl rfl (fun c10 => ?_) (fun c10 => ?_)
  · rw [if_pos c10] at hr
    refine r_const rfl (gcst 0) ?_
    refine r_istore [.ref 57, .int a1, .int (nI 0)] rfl rfl (Nat.le_of_ble_eq_true rfl) rfl ?_
    exact t_X8_fewest_8  hr hQ
  · rw [if_neg c10] at hr
    refine r_const rfl (v := -1) (by decide) ?_
    refine r_iret rfl ?_
    cases hr
    exact hQ
def r_X8_tonesIn_4   : Nat → Int32 → Int32 → Int32 → Int32 → (Nat → Nat → Int32) → (Nat → Nat → Int64) → Option gRs
  | 0, _, _, _, _, _, _ => none
  | m + 1, v1, v2, v3, v4, I, L => (if v2 ≤ v4 then some ((v3 &&& (-4097 : Int32)), I, L) else (if gvp (((nI 12) * v1) + v4) 24 = true then (r_X8_tonesIn_4  m v1 v2 (v3 ||| (gshl (nI 1) (I 69 (gx (((nI 12) * v1) + v4))))) (v4 + (nI 1)) I L) else none))
set_option maxHeartbeats 4000000 in
set_option maxRecDepth 100000 in
theorem t_X8_tonesIn_4 {n f g d : Nat} {Q : gP} {z : gRs}    : ∀ {m : Nat} {v1 : Int32} {v2 : Int32} {v3 : Int32} {v4 : Int32} {I : Nat → Nat → Int32} {L : Nat → Nat → Int64}, r_X8_tonesIn_4 m v1 v2 v3 v4 I L = some z → Q (some (.int z.1)) (gKn n, gRf f g, z.2.1, z.2.2) → gW gM (d + 0) 0 0 k_X8_tonesIn 4 [.ref 57, .int v1, .int v2, .int v3, .int v4] [] (gKn n, gRf f g, I, L) Q := by
  intro m
  induction m with
  | zero =>
    intro v1 v2 v3 v4 I L hr _
    cases hr
  | succ m ih =>
    intro v1 v2 v3 v4 I L hr hQ
    have hK4 : ∀ v1 v2 v3 v4 I L, r_X8_tonesIn_4 m v1 v2 v3 v4 I L = some z → gW gM (d + 0) 0 0 k_X8_tonesIn 4 [.ref 57, .int v1, .int v2, .int v3, .int v4] [] (gKn n, gRf f g, I, L) Q := fun v1 v2 v3 v4 I L hr => ih hr hQ
    unfold r_X8_tonesIn_4 at hr
    refine r_iload rfl rfl ?_
    refine r_iload rfl rfl ?_
    refine r_icmp_ge 22 rfl rfl (fun c3 => ?_) (fun c3 => ?_)
    · rw [if_pos c3] at hr
      refine r_iload rfl rfl ?_
      refine r_const rfl (v := -4097) (by decide) ?_
      refine r_iand rfl ?_
      refine r_iret rfl ?_
      cases hr
      exact hQ
    · rw [if_neg c3] at hr
      refine r_iload rfl rfl ?_
      refine r_const rfl (gcst 1) ?_
      refine r_aload rfl rfl ?_
      refine r_getR (c := 8) (k := 23) (v := 69) rfl rfl ⟨rfl, rfl⟩ rfl ?_
      refine r_const rfl (gcst 12) ?_
      refine r_iload rfl rfl ?_
      refine r_imul rfl ?_
      refine r_iload rfl rfl ?_
      refine r_iadd rfl ?_
      obtain ⟨b4, hr⟩ := gopt hr
      refine r_iaload (n := 24) rfl rfl (gvp_in b4) ?_
      refine r_ishl rfl ?_
      refine r_ior rfl ?_
      refine r_istore [.ref 57, .int v1, .int v2, .int (v3 ||| (gshl (nI 1) (I 69 (gx (((nI 12) * v1) + v4))))), .int v4] rfl rfl (Nat.le_of_ble_eq_true rfl) rfl ?_
      refine r_iinc (y := (v4 + (nI 1))) [.ref 57, .int v1, .int v2, .int (v3 ||| (gshl (nI 1) (I 69 (gx (((nI 12) * v1) + v4))))), .int (v4 + (nI 1))] rfl rfl rfl (ginc _ 1) rfl ?_
      refine r_goto 4 rfl rfl ?_
      exact hK4 _ _ _ _ _ _ hr
def r_X8_tonesIn (I : Nat → Nat → Int32) (L : Nat → Nat → Int64) (a1 : Int32) (a2 : Int32) : Option gRs := (r_X8_tonesIn_4 100 a1 a2 (nI 0) (nI 0) I L)
set_option maxHeartbeats 4000000 in
set_option maxRecDepth 100000 in
theorem s_X8_tonesIn {n f g d : Nat} {Q : gP} {I : Nat → Nat → Int32} {L : Nat → Nat → Int64} {a1 : Int32} {a2 : Int32} {z : gRs}  (hr : r_X8_tonesIn I L a1 a2 = some z) (hQ : Q (some (.int z.1)) (gKn n, gRf f g, z.2.1, z.2.2)) : gR gM (d + 0) 155 [.ref 57, .int a1, .int a2] (gKn n, gRf f g, I, L) Q := by
  unfold r_X8_tonesIn at hr
  show gW gM (d + 0) 0 0 k_X8_tonesIn 0 [.ref 57, .int a1, .int a2, .null, .null] [] (gKn n, gRf f g, I, L) Q
  refine r_const rfl (gcst 0) ?_
  refine r_istore [.ref 57, .int a1, .int a2, .int (nI 0), .null] rfl rfl (Nat.le_of_ble_eq_true rfl) rfl ?_
  refine r_const rfl (gcst 0) ?_
  refine r_istore [.ref 57, .int a1, .int a2, .int (nI 0), .int (nI 0)] rfl rfl (Nat.le_of_ble_eq_true rfl) rfl ?_
  exact t_X8_tonesIn_4  hr hQ
def r_X8_has_64  (K40 : Int32 → Int32 → Int32 → Int32 → (Nat → Nat → Int32) → (Nat → Nat → Int64) → Option gRs) (v2 : Int32) (v3 : Int32) (v5 : Int32) (s0 : Int32) (s1 : Int32) (I : Nat → Nat → Int32) (L : Nat → Nat → Int64) : Option gRs := (K40 v2 v3 (s0 ||| s1) (v5 + (nI 1)) I L)
set_option maxHeartbeats 4000000 in
set_option maxRecDepth 100000 in
theorem t_X8_has_64 {n f g d : Nat} {Q : gP} {z : gRs}   {K40 : Int32 → Int32 → Int32 → Int32 → (Nat → Nat → Int32) → (Nat → Nat → Int64) → Option gRs} (hK40 : ∀ v2 v3 v4 v5 I L, K40 v2 v3 v4 v5 I L = some z → gW gM (d + 3) 0 0 k_X8_has 40 [.ref 57, .null, .int v2, .int v3, .int v4, .int v5] [] (gKn n, gRf f g, I, L) Q) {v2 : Int32} {v3 : Int32} {v5 : Int32} {s0 : Int32} {s1 : Int32} {I : Nat → Nat → Int32} {L : Nat → Nat → Int64} (hr : r_X8_has_64 K40 v2 v3 v5 s0 s1 I L = some z) (hQ : Q (some (.int z.1)) (gKn n, gRf f g, z.2.1, z.2.2)) : gW gM (d + 3) 0 0 k_X8_has 64 [.ref 57, .null, .int v2, .int v3, .null, .int v5] [.int s1, .int s0] (gKn n, gRf f g, I, L) Q := by
  unfold r_X8_has_64 at hr
  refine r_ior rfl ?_
  refine r_istore [.ref 57, .null, .int v2, .int v3, .int (s0 ||| s1), .int v5] rfl rfl (Nat.le_of_ble_eq_true rfl) rfl ?_
  refine r_iinc (y := (v5 + (nI 1))) [.ref 57, .null, .int v2, .int v3, .int (s0 ||| s1), .int (v5 + (nI 1))] rfl rfl rfl (ginc _ 1) rfl ?_
  refine r_goto 40 rfl rfl ?_
  exact hK40 _ _ _ _ _ _ hr
def r_X8_has_40   : Nat → Int32 → Int32 → Int32 → Int32 → (Nat → Nat → Int32) → (Nat → Nat → Int64) → Option gRs
  | 0, _, _, _, _, _, _ => none
  | m + 1, v2, v3, v4, v5, I, L => (if (I 57 2) ≤ v5 then some (v4, I, L) else ((r_X8_laySong I L (nI 0) (nI 0) v5 v2).bind (fun z26 => ((r_X8_tonesIn z26.2.1 z26.2.2 (nI 0) z26.1).bind (fun z27 => (if ¬ (v3 &&& (z27.1 ^^^ (-1 : Int32))) = 0 then (r_X8_has_64 (r_X8_has_40  m) v2 v3 v5 v4 (nI 0) z27.2.1 z27.2.2) else (r_X8_has_64 (r_X8_has_40  m) v2 v3 v5 v4 (gshl (nI 1) v5) z27.2.1 z27.2.2)))))))
set_option maxHeartbeats 4000000 in
set_option maxRecDepth 100000 in
theorem t_X8_has_40 {n f g d : Nat} {Q : gP} {z : gRs}    : ∀ {m : Nat} {v2 : Int32} {v3 : Int32} {v4 : Int32} {v5 : Int32} {I : Nat → Nat → Int32} {L : Nat → Nat → Int64}, r_X8_has_40 m v2 v3 v4 v5 I L = some z → Q (some (.int z.1)) (gKn n, gRf f g, z.2.1, z.2.2) → gW gM (d + 3) 0 0 k_X8_has 40 [.ref 57, .null, .int v2, .int v3, .int v4, .int v5] [] (gKn n, gRf f g, I, L) Q := by
  intro m
  induction m with
  | zero =>
    intro v2 v3 v4 v5 I L hr _
    cases hr
  | succ m ih =>
    intro v2 v3 v4 v5 I L hr hQ
    have hK40 : ∀ v2 v3 v4 v5 I L, r_X8_has_40 m v2 v3 v4 v5 I L = some z → gW gM (d + 3) 0 0 k_X8_has 40 [.ref 57, .null, .int v2, .int v3, .int v4, .int v5] [] (gKn n, gRf f g, I, L) Q := fun v2 v3 v4 v5 I L hr => ih hr hQ
    unfold r_X8_has_40 at hr
    refine r_iload rfl rfl ?_
    refine r_aload rfl rfl ?_
    refine r_getI (c := 8) (k := 2) rfl rfl ⟨rfl, rfl⟩ ?_
    refine r_icmp_ge 68 rfl rfl (fun c25 => ?_) (fun c25 => ?_)
    · rw [if_pos c25] at hr
      refine r_iload rfl rfl ?_
      refine r_iret rfl ?_
      cases hr
      exact hQ
    · rw [if_neg c25] at hr
      refine r_iload rfl rfl ?_
      refine r_iload rfl rfl ?_
      refine r_aload rfl rfl ?_
      refine r_const rfl (gcst 0) ?_
      refine r_aload rfl rfl ?_
      refine r_const rfl (gcst 0) ?_
      refine r_const rfl (gcst 0) ?_
      refine r_iload rfl rfl ?_
      refine r_iload rfl rfl ?_
      obtain ⟨z26, hz26, hr⟩ := gbnd hr
      refine r_invv (a := 57) [.int (nI 0), .int (nI 0), .int v5, .int v2] rfl rfl rfl rfl rfl (Nat.le_of_ble_eq_true rfl) ⟨rfl, rfl⟩ ?_
      refine s_X8_laySong  hz26 ?_
      show gW _ _ _ _ _ 54 [.ref 57, .null, .int v2, .int v3, .int v4, .int v5] [.int z26.1, .int (nI 0), .ref 57, .int v3, .int v4] (gKn n, gRf f g, z26.2.1, z26.2.2) _
      obtain ⟨z27, hz27, hr⟩ := gbnd hr
      refine r_invv (a := 57) [.int (nI 0), .int z26.1] rfl rfl rfl rfl rfl (Nat.le_of_ble_eq_true rfl) ⟨rfl, rfl⟩ ?_
      refine s_X8_tonesIn  hz27 ?_
      show gW _ _ _ _ _ 55 [.ref 57, .null, .int v2, .int v3, .int v4, .int v5] [.int z27.1, .int v3, .int v4] (gKn n, gRf f g, z27.2.1, z27.2.2) _
      refine r_const rfl (v := -1) (by decide) ?_
      refine r_ixor rfl ?_
      refine r_iand rfl ?_
      refine r_if_ne 63 rfl rfl (fun c28 => ?_) (fun c28 => ?_)
      · rw [if_pos c28] at hr
        refine r_const rfl (gcst 0) ?_
        refine gforget (ls := [.ref 57, .null, .int v2, .int v3, .null, .int v5]) ⟨(Or.inl rfl), ⟨(Or.inl rfl), ⟨(Or.inl rfl), ⟨(Or.inl rfl), ⟨(Or.inr (Or.inl ⟨rfl, _, rfl⟩)), ⟨(Or.inl rfl), trivial⟩⟩⟩⟩⟩⟩ ?_
        exact t_X8_has_64 hK40 hr hQ
      · rw [if_neg c28] at hr
        refine r_const rfl (gcst 1) ?_
        refine r_iload rfl rfl ?_
        refine r_ishl rfl ?_
        refine r_goto 64 rfl rfl ?_
        refine gforget (ls := [.ref 57, .null, .int v2, .int v3, .null, .int v5]) ⟨(Or.inl rfl), ⟨(Or.inl rfl), ⟨(Or.inl rfl), ⟨(Or.inl rfl), ⟨(Or.inr (Or.inl ⟨rfl, _, rfl⟩)), ⟨(Or.inl rfl), trivial⟩⟩⟩⟩⟩⟩ ?_
        exact t_X8_has_64 hK40 hr hQ
def r_X8_has_14   : Nat → Int32 → Int32 → Int32 → Int32 → (Nat → Nat → Int32) → (Nat → Nat → Int64) → Option gRs
  | 0, _, _, _, _, _, _ => none
  | m + 1, v1, v2, v3, v4, I, L => (if (nI 4) ≤ v4 then (r_X8_has_40 100 v2 (v3 &&& (-4097 : Int32)) (nI 0) (nI 0) I L) else (if gvp (((nI 4) * v1) + v4) 8 = true then (r_X8_has_14  m v1 v2 (v3 ||| (gshl (nI 1) (I 62 (gx (((nI 4) * v1) + v4))))) (v4 + (nI 1)) I L) else none))
set_option maxHeartbeats 4000000 in
set_option maxRecDepth 100000 in
theorem t_X8_has_14 {n f g d : Nat} {Q : gP} {z : gRs}    : ∀ {m : Nat} {v1 : Int32} {v2 : Int32} {v3 : Int32} {v4 : Int32} {I : Nat → Nat → Int32} {L : Nat → Nat → Int64}, r_X8_has_14 m v1 v2 v3 v4 I L = some z → Q (some (.int z.1)) (gKn n, gRf f g, z.2.1, z.2.2) → gW gM (d + 3) 0 0 k_X8_has 14 [.ref 57, .int v1, .int v2, .int v3, .int v4, .null] [] (gKn n, gRf f g, I, L) Q := by
  intro m
  induction m with
  | zero =>
    intro v1 v2 v3 v4 I L hr _
    cases hr
  | succ m ih =>
    intro v1 v2 v3 v4 I L hr hQ
    have hK14 : ∀ v1 v2 v3 v4 I L, r_X8_has_14 m v1 v2 v3 v4 I L = some z → gW gM (d + 3) 0 0 k_X8_has 14 [.ref 57, .int v1, .int v2, .int v3, .int v4, .null] [] (gKn n, gRf f g, I, L) Q := fun v1 v2 v3 v4 I L hr => ih hr hQ
    unfold r_X8_has_14 at hr
    refine r_iload rfl rfl ?_
    refine r_const rfl (gcst 4) ?_
    refine r_icmp_ge 32 rfl rfl (fun c29 => ?_) (fun c29 => ?_)
    · rw [if_pos c29] at hr
      refine r_iload rfl rfl ?_
      refine r_const rfl (v := -4097) (by decide) ?_
      refine r_iand rfl ?_
      refine r_istore [.ref 57, .int v1, .int v2, .int (v3 &&& (-4097 : Int32)), .int v4, .null] rfl rfl (Nat.le_of_ble_eq_true rfl) rfl ?_
      refine r_const rfl (gcst 0) ?_
      refine r_istore [.ref 57, .int v1, .int v2, .int (v3 &&& (-4097 : Int32)), .int (nI 0), .null] rfl rfl (Nat.le_of_ble_eq_true rfl) rfl ?_
      refine r_const rfl (gcst 0) ?_
      refine r_istore [.ref 57, .int v1, .int v2, .int (v3 &&& (-4097 : Int32)), .int (nI 0), .int (nI 0)] rfl rfl (Nat.le_of_ble_eq_true rfl) rfl ?_
      refine gforget (ls := [.ref 57, .null, .int v2, .int (v3 &&& (-4097 : Int32)), .int (nI 0), .int (nI 0)]) ⟨(Or.inl rfl), ⟨(Or.inr (Or.inl ⟨rfl, _, rfl⟩)), ⟨(Or.inl rfl), ⟨(Or.inl rfl), ⟨(Or.inl rfl), ⟨(Or.inl rfl), trivial⟩⟩⟩⟩⟩⟩ ?_
      exact t_X8_has_40  hr hQ
    · rw [if_neg c29] at hr
      refine r_iload rfl rfl ?_
      refine r_const rfl (gcst 1) ?_
      refine r_aload rfl rfl ?_
      refine r_getR (c := 8) (k := 8) (v := 62) rfl rfl ⟨rfl, rfl⟩ rfl ?_
      refine r_const rfl (gcst 4) ?_
      refine r_iload rfl rfl ?_
      refine r_imul rfl ?_
      refine r_iload rfl rfl ?_
      refine r_iadd rfl ?_
      obtain ⟨b30, hr⟩ := gopt hr
      refine r_iaload (n := 8) rfl rfl (gvp_in b30) ?_
      refine r_ishl rfl ?_
      refine r_ior rfl ?_
      refine r_istore [.ref 57, .int v1, .int v2, .int (v3 ||| (gshl (nI 1) (I 62 (gx (((nI 4) * v1) + v4))))), .int v4, .null] rfl rfl (Nat.le_of_ble_eq_true rfl) rfl ?_
      refine r_iinc (y := (v4 + (nI 1))) [.ref 57, .int v1, .int v2, .int (v3 ||| (gshl (nI 1) (I 62 (gx (((nI 4) * v1) + v4))))), .int (v4 + (nI 1)), .null] rfl rfl rfl (ginc _ 1) rfl ?_
      refine r_goto 14 rfl rfl ?_
      exact hK14 _ _ _ _ _ _ hr
def r_X8_has_8    (I : Nat → Nat → Int32) (L : Nat → Nat → Int64) : Option gRs := some ((-1 : Int32), I, L)
set_option maxHeartbeats 4000000 in
set_option maxRecDepth 100000 in
theorem t_X8_has_8 {n f g d : Nat} {Q : gP} {z : gRs}     {I : Nat → Nat → Int32} {L : Nat → Nat → Int64} (hr : r_X8_has_8 I L = some z) (hQ : Q (some (.int z.1)) (gKn n, gRf f g, z.2.1, z.2.2)) : gW gM (d + 3) 0 0 k_X8_has 8 [.null, .null, .null, .null, .null, .null] [] (gKn n, gRf f g, I, L) Q := by
  unfold r_X8_has_8 at hr
  refine r_const rfl (v := -1) (by decide) ?_
  refine r_iret rfl ?_
  cases hr
  exact hQ
def r_X8_has (I : Nat → Nat → Int32) (L : Nat → Nat → Int64) (a1 : Int32) (a2 : Int32) : Option gRs := ((r_X8_isVerse I L a1).bind (fun z31 => (if z31.1 = 0 then (r_X8_has_8 z31.2.1 z31.2.2) else ((r_X8_isLane z31.2.1 z31.2.2 a2).bind (fun z33 => (if ¬ z33.1 = 0 then (r_X8_has_14 100 a1 a2 (nI 0) (nI 0) z33.2.1 z33.2.2) else (r_X8_has_8 z33.2.1 z33.2.2)))))))
set_option maxHeartbeats 4000000 in
set_option maxRecDepth 100000 in
theorem s_X8_has {n f g d : Nat} {Q : gP} {I : Nat → Nat → Int32} {L : Nat → Nat → Int64} {a1 : Int32} {a2 : Int32} {z : gRs}  (hr : r_X8_has I L a1 a2 = some z) (hQ : Q (some (.int z.1)) (gKn n, gRf f g, z.2.1, z.2.2)) : gR gM (d + 3) 156 [.ref 57, .int a1, .int a2] (gKn n, gRf f g, I, L) Q := by
  unfold r_X8_has at hr
  show gW gM (d + 3) 0 0 k_X8_has 0 [.ref 57, .int a1, .int a2, .null, .null, .null] [] (gKn n, gRf f g, I, L) Q
  refine r_aload rfl rfl ?_
  refine r_iload rfl rfl ?_
  obtain ⟨z31, hz31, hr⟩ := gbnd hr
  refine r_invv (a := 57) [.int a1] rfl rfl rfl rfl rfl (Nat.le_of_ble_eq_true rfl) ⟨rfl, rfl⟩ ?_
  refine s_X8_isVerse  hz31 ?_
  show gW _ _ _ _ _ 3 [.ref 57, .int a1, .int a2, .null, .null, .null] [.int z31.1] (gKn n, gRf f g, z31.2.1, z31.2.2) _
  refine r_if_eq 8 rfl rfl (fun c32 => ?_) (fun c32 => ?_)
  · rw [if_pos c32] at hr
    refine gforget (ls := [.null, .null, .null, .null, .null, .null]) ⟨(Or.inr (Or.inr ⟨rfl, _, rfl⟩)), ⟨(Or.inr (Or.inl ⟨rfl, _, rfl⟩)), ⟨(Or.inr (Or.inl ⟨rfl, _, rfl⟩)), ⟨(Or.inl rfl), ⟨(Or.inl rfl), ⟨(Or.inl rfl), trivial⟩⟩⟩⟩⟩⟩ ?_
    exact t_X8_has_8  hr hQ
  · rw [if_neg c32] at hr
    refine r_aload rfl rfl ?_
    refine r_iload rfl rfl ?_
    obtain ⟨z33, hz33, hr⟩ := gbnd hr
    refine r_invv (a := 57) [.int a2] rfl rfl rfl rfl rfl (Nat.le_of_ble_eq_true rfl) ⟨rfl, rfl⟩ ?_
    refine s_X8_isLane  hz33 ?_
    show gW _ _ _ _ _ 7 [.ref 57, .int a1, .int a2, .null, .null, .null] [.int z33.1] (gKn n, gRf f g, z33.2.1, z33.2.2) _
    refine r_if_ne 10 rfl rfl (fun c34 => ?_) (fun c34 => ?_)
    · rw [if_pos c34] at hr
      refine r_const rfl (gcst 0) ?_
      refine r_istore [.ref 57, .int a1, .int a2, .int (nI 0), .null, .null] rfl rfl (Nat.le_of_ble_eq_true rfl) rfl ?_
      refine r_const rfl (gcst 0) ?_
      refine r_istore [.ref 57, .int a1, .int a2, .int (nI 0), .int (nI 0), .null] rfl rfl (Nat.le_of_ble_eq_true rfl) rfl ?_
      exact t_X8_has_14  hr hQ
    · rw [if_neg c34] at hr
      refine gforget (ls := [.null, .null, .null, .null, .null, .null]) ⟨(Or.inr (Or.inr ⟨rfl, _, rfl⟩)), ⟨(Or.inr (Or.inl ⟨rfl, _, rfl⟩)), ⟨(Or.inr (Or.inl ⟨rfl, _, rfl⟩)), ⟨(Or.inl rfl), ⟨(Or.inl rfl), ⟨(Or.inl rfl), trivial⟩⟩⟩⟩⟩⟩ ?_
      exact t_X8_has_8  hr hQ
def r_X8_isSilent_37   (s0 : Int32) (I : Nat → Nat → Int32) (L : Nat → Nat → Int64) : Option gRs := (if (s0 = 0 ∨ s0 = 1) then some (s0, I, L) else none)
set_option maxHeartbeats 4000000 in
set_option maxRecDepth 100000 in
theorem t_X8_isSilent_37 {n f g d : Nat} {Q : gP} {z : gRs}    {s0 : Int32} {I : Nat → Nat → Int32} {L : Nat → Nat → Int64} (hr : r_X8_isSilent_37 s0 I L = some z) (hQ : Q (some (.int z.1)) (gKn n, gRf f g, z.2.1, z.2.2)) : gW gM (d + 3) 0 0 k_X8_isSilent 37 [.null, .null, .null, .null, .null] [.int s0] (gKn n, gRf f g, I, L) Q := by
  unfold r_X8_isSilent_37 at hr
  obtain ⟨b12, hr⟩ := gopt hr
  refine r_zret rfl b12 ?_
  cases hr
  exact hQ
def r_X8_isSilent_14   : Nat → Int32 → Int32 → Int32 → (Nat → Nat → Int32) → (Nat → Nat → Int64) → Option gRs
  | 0, _, _, _, _, _ => none
  | m + 1, v1, v3, v4, I, L => (if (I 57 2) ≤ v4 then (if ¬ v3 = 0 then (r_X8_isSilent_37 (nI 0) I L) else (r_X8_isSilent_37 (nI 1) I L)) else ((r_X8_laySong I L (nI 1) (nI 0) v4 v1).bind (fun z15 => ((r_X8_loud z15.2.1 z15.2.2 (nI 0) z15.1).bind (fun z16 => (r_X8_isSilent_14  m v1 (v3 + z16.1) (v4 + (nI 1)) z16.2.1 z16.2.2))))))
set_option maxHeartbeats 4000000 in
set_option maxRecDepth 100000 in
theorem t_X8_isSilent_14 {n f g d : Nat} {Q : gP} {z : gRs}    : ∀ {m : Nat} {v1 : Int32} {v3 : Int32} {v4 : Int32} {I : Nat → Nat → Int32} {L : Nat → Nat → Int64}, r_X8_isSilent_14 m v1 v3 v4 I L = some z → Q (some (.int z.1)) (gKn n, gRf f g, z.2.1, z.2.2) → gW gM (d + 3) 0 0 k_X8_isSilent 14 [.ref 57, .int v1, .null, .int v3, .int v4] [] (gKn n, gRf f g, I, L) Q := by
  intro m
  induction m with
  | zero =>
    intro v1 v3 v4 I L hr _
    cases hr
  | succ m ih =>
    intro v1 v3 v4 I L hr hQ
    have hK14 : ∀ v1 v3 v4 I L, r_X8_isSilent_14 m v1 v3 v4 I L = some z → gW gM (d + 3) 0 0 k_X8_isSilent 14 [.ref 57, .int v1, .null, .int v3, .int v4] [] (gKn n, gRf f g, I, L) Q := fun v1 v3 v4 I L hr => ih hr hQ
    unfold r_X8_isSilent_14 at hr
    refine r_iload rfl rfl ?_
    refine r_aload rfl rfl ?_
    refine r_getI (c := 8) (k := 2) rfl rfl ⟨rfl, rfl⟩ ?_
    refine r_icmp_ge 32 rfl rfl (fun c13 => ?_) (fun c13 => ?_)
    · rw [if_pos c13] at hr
      refine r_iload rfl rfl ?_
      refine r_if_ne 36 rfl rfl (fun c14 => ?_) (fun c14 => ?_)
      · rw [if_pos c14] at hr
        refine r_const rfl (gcst 0) ?_
        refine gforget (ls := [.null, .null, .null, .null, .null]) ⟨(Or.inr (Or.inr ⟨rfl, _, rfl⟩)), ⟨(Or.inr (Or.inl ⟨rfl, _, rfl⟩)), ⟨(Or.inl rfl), ⟨(Or.inr (Or.inl ⟨rfl, _, rfl⟩)), ⟨(Or.inr (Or.inl ⟨rfl, _, rfl⟩)), trivial⟩⟩⟩⟩⟩ ?_
        exact t_X8_isSilent_37  hr hQ
      · rw [if_neg c14] at hr
        refine r_const rfl (gcst 1) ?_
        refine r_goto 37 rfl rfl ?_
        refine gforget (ls := [.null, .null, .null, .null, .null]) ⟨(Or.inr (Or.inr ⟨rfl, _, rfl⟩)), ⟨(Or.inr (Or.inl ⟨rfl, _, rfl⟩)), ⟨(Or.inl rfl), ⟨(Or.inr (Or.inl ⟨rfl, _, rfl⟩)), ⟨(Or.inr (Or.inl ⟨rfl, _, rfl⟩)), trivial⟩⟩⟩⟩⟩ ?_
        exact t_X8_isSilent_37  hr hQ
    · rw [if_neg c13] at hr
      refine r_iload rfl rfl ?_
      refine r_aload rfl rfl ?_
      refine r_const rfl (gcst 0) ?_
      refine r_aload rfl rfl ?_
      refine r_const rfl (gcst 1) ?_
      refine r_const rfl (gcst 0) ?_
      refine r_iload rfl rfl ?_
      refine r_iload rfl rfl ?_
      obtain ⟨z15, hz15, hr⟩ := gbnd hr
      refine r_invv (a := 57) [.int (nI 1), .int (nI 0), .int v4, .int v1] rfl rfl rfl rfl rfl (Nat.le_of_ble_eq_true rfl) ⟨rfl, rfl⟩ ?_
      refine s_X8_laySong  hz15 ?_
      show gW _ _ _ _ _ 27 [.ref 57, .int v1, .null, .int v3, .int v4] [.int z15.1, .int (nI 0), .ref 57, .int v3] (gKn n, gRf f g, z15.2.1, z15.2.2) _
      obtain ⟨z16, hz16, hr⟩ := gbnd hr
      refine r_invv (a := 57) [.int (nI 0), .int z15.1] rfl rfl rfl rfl rfl (Nat.le_of_ble_eq_true rfl) ⟨rfl, rfl⟩ ?_
      refine s_X8_loud  hz16 ?_
      show gW _ _ _ _ _ 28 [.ref 57, .int v1, .null, .int v3, .int v4] [.int z16.1, .int v3] (gKn n, gRf f g, z16.2.1, z16.2.2) _
      refine r_iadd rfl ?_
      refine r_istore [.ref 57, .int v1, .null, .int (v3 + z16.1), .int v4] rfl rfl (Nat.le_of_ble_eq_true rfl) rfl ?_
      refine r_iinc (y := (v4 + (nI 1))) [.ref 57, .int v1, .null, .int (v3 + z16.1), .int (v4 + (nI 1))] rfl rfl rfl (ginc _ 1) rfl ?_
      refine r_goto 14 rfl rfl ?_
      exact hK14 _ _ _ _ _ hr
def r_X8_isSilent (I : Nat → Nat → Int32) (L : Nat → Nat → Int64) (a1 : Int32) (a2 : Int32) : Option gRs := ((r_X8_layTrial I L).bind (fun z17 => (r_X8_isSilent_14 100 a1 (nI 0) (nI 0) (gu2 z17.2.1 63 (gx (nI 38)) ((z17.2.1 63 (gx (nI 38))) ||| a2)) z17.2.2)))
set_option maxHeartbeats 4000000 in
set_option maxRecDepth 100000 in
theorem s_X8_isSilent {n f g d : Nat} {Q : gP} {I : Nat → Nat → Int32} {L : Nat → Nat → Int64} {a1 : Int32} {a2 : Int32} {z : gRs}  (hr : r_X8_isSilent I L a1 a2 = some z) (hQ : Q (some (.int z.1)) (gKn n, gRf f g, z.2.1, z.2.2)) : gR gM (d + 3) 157 [.ref 57, .int a1, .int a2] (gKn n, gRf f g, I, L) Q := by
  unfold r_X8_isSilent at hr
  show gW gM (d + 3) 0 0 k_X8_isSilent 0 [.ref 57, .int a1, .int a2, .null, .null] [] (gKn n, gRf f g, I, L) Q
  refine r_aload rfl rfl ?_
  obtain ⟨z17, hz17, hr⟩ := gbnd hr
  refine r_invv (a := 57) [] rfl rfl rfl rfl rfl (Nat.le_of_ble_eq_true rfl) ⟨rfl, rfl⟩ ?_
  refine s_X8_layTrial  hz17 ?_
  show gW _ _ _ _ _ 2 [.ref 57, .int a1, .int a2, .null, .null] [] (gKn n, gRf f g, z17.2.1, z17.2.2) _
  refine r_aload rfl rfl ?_
  refine r_getR (c := 8) (k := 9) (v := 63) rfl rfl ⟨rfl, rfl⟩ rfl ?_
  refine r_const rfl (gcst 38) ?_
  refine r_dup2 rfl rfl rfl ?_
  refine r_iaload (n := 54) rfl rfl (vp_in_nI (n := 38) (N := 54) (by decide) (by decide)) ?_
  refine r_iload rfl rfl ?_
  refine r_ior rfl ?_
  refine r_iastore (n := 54) rfl rfl (vp_in_nI (n := 38) (N := 54) (by decide) (by decide)) (by decide) ?_
  refine r_const rfl (gcst 0) ?_
  refine r_istore [.ref 57, .int a1, .int a2, .int (nI 0), .null] rfl rfl (Nat.le_of_ble_eq_true rfl) rfl ?_
  refine r_const rfl (gcst 0) ?_
  refine r_istore [.ref 57, .int a1, .int a2, .int (nI 0), .int (nI 0)] rfl rfl (Nat.le_of_ble_eq_true rfl) rfl ?_
  refine gforget (ls := [.ref 57, .int a1, .null, .int (nI 0), .int (nI 0)]) ⟨(Or.inl rfl), ⟨(Or.inl rfl), ⟨(Or.inr (Or.inl ⟨rfl, _, rfl⟩)), ⟨(Or.inl rfl), ⟨(Or.inl rfl), trivial⟩⟩⟩⟩⟩ ?_
  exact t_X8_isSilent_14  hr hQ
def r_X8_silence_38  (K10 : Int32 → Int32 → Int32 → (Nat → Nat → Int32) → (Nat → Nat → Int64) → Option gRs) (v1 : Int32) (v3 : Int32) (s0 : Int32) (I : Nat → Nat → Int32) (L : Nat → Nat → Int64) : Option gRs := (K10 v1 s0 (v3 + (nI 1)) I L)
set_option maxHeartbeats 4000000 in
set_option maxRecDepth 100000 in
theorem t_X8_silence_38 {n f g d : Nat} {Q : gP} {z : gRs}   {K10 : Int32 → Int32 → Int32 → (Nat → Nat → Int32) → (Nat → Nat → Int64) → Option gRs} (hK10 : ∀ v1 v2 v3 I L, K10 v1 v2 v3 I L = some z → gW gM (d + 4) 0 0 k_X8_silence 10 [.ref 57, .int v1, .int v2, .int v3, .null] [] (gKn n, gRf f g, I, L) Q) {v1 : Int32} {v3 : Int32} {s0 : Int32} {I : Nat → Nat → Int32} {L : Nat → Nat → Int64} (hr : r_X8_silence_38 K10 v1 v3 s0 I L = some z) (hQ : Q (some (.int z.1)) (gKn n, gRf f g, z.2.1, z.2.2)) : gW gM (d + 4) 0 0 k_X8_silence 38 [.ref 57, .int v1, .null, .int v3, .null] [.int s0] (gKn n, gRf f g, I, L) Q := by
  unfold r_X8_silence_38 at hr
  refine r_istore [.ref 57, .int v1, .int s0, .int v3, .null] rfl rfl (Nat.le_of_ble_eq_true rfl) rfl ?_
  refine r_iinc (y := (v3 + (nI 1))) [.ref 57, .int v1, .int s0, .int (v3 + (nI 1)), .null] rfl rfl rfl (ginc _ 1) rfl ?_
  refine r_goto 10 rfl rfl ?_
  exact hK10 _ _ _ _ _ hr
def r_X8_silence_24  (K10 : Int32 → Int32 → Int32 → (Nat → Nat → Int32) → (Nat → Nat → Int64) → Option gRs) (v1 : Int32) (v2 : Int32) (v3 : Int32) (I : Nat → Nat → Int32) (L : Nat → Nat → Int64) : Option gRs := (if (nI 1) = 0 then (r_X8_silence_38 K10 v1 v3 v2 I L) else ((r_X8_isSilent I L v1 v3).bind (fun z25 => (if z25.1 = 0 then (r_X8_silence_38 K10 v1 v3 v2 z25.2.1 z25.2.2) else (r_X8_silence_38 K10 v1 v3 v3 z25.2.1 z25.2.2)))))
set_option maxHeartbeats 4000000 in
set_option maxRecDepth 100000 in
theorem t_X8_silence_24 {n f g d : Nat} {Q : gP} {z : gRs}   {K10 : Int32 → Int32 → Int32 → (Nat → Nat → Int32) → (Nat → Nat → Int64) → Option gRs} (hK10 : ∀ v1 v2 v3 I L, K10 v1 v2 v3 I L = some z → gW gM (d + 4) 0 0 k_X8_silence 10 [.ref 57, .int v1, .int v2, .int v3, .null] [] (gKn n, gRf f g, I, L) Q) {v1 : Int32} {v2 : Int32} {v3 : Int32} {I : Nat → Nat → Int32} {L : Nat → Nat → Int64} (hr : r_X8_silence_24 K10 v1 v2 v3 I L = some z) (hQ : Q (some (.int z.1)) (gKn n, gRf f g, z.2.1, z.2.2)) : gW gM (d + 4) 0 0 k_X8_silence 24 [.ref 57, .int v1, .int v2, .int v3, .null] [] (gKn n, gRf f g, I, L) Q := by
  unfold r_X8_silence_24 at hr
  refine r_const rfl (gcst 1) ?_
  refine r_goto 27 rfl rfl ?_
  refine r_istore [.ref 57, .int v1, .int v2, .int v3, .int (nI 1)] rfl rfl (Nat.le_of_ble_eq_true rfl) rfl ?_
  refine r_iload rfl rfl ?_
  refine r_if_eq 37 rfl rfl (fun c24 => ?_) (fun c24 => ?_)
  · rw [if_pos c24] at hr
    refine r_iload rfl rfl ?_
    refine gforget (ls := [.ref 57, .int v1, .null, .int v3, .null]) ⟨(Or.inl rfl), ⟨(Or.inl rfl), ⟨(Or.inr (Or.inl ⟨rfl, _, rfl⟩)), ⟨(Or.inl rfl), ⟨(Or.inr (Or.inl ⟨rfl, _, rfl⟩)), trivial⟩⟩⟩⟩⟩ ?_
    exact t_X8_silence_38 hK10 hr hQ
  · rw [if_neg c24] at hr
    refine r_aload rfl rfl ?_
    refine r_iload rfl rfl ?_
    refine r_iload rfl rfl ?_
    obtain ⟨z25, hz25, hr⟩ := gbnd hr
    refine r_invv (a := 57) [.int v1, .int v3] rfl rfl rfl rfl rfl (Nat.le_of_ble_eq_true rfl) ⟨rfl, rfl⟩ ?_
    refine s_X8_isSilent  hz25 ?_
    show gW _ _ _ _ _ 34 [.ref 57, .int v1, .int v2, .int v3, .int (nI 1)] [.int z25.1] (gKn n, gRf f g, z25.2.1, z25.2.2) _
    refine r_if_eq 37 rfl rfl (fun c26 => ?_) (fun c26 => ?_)
    · rw [if_pos c26] at hr
      refine r_iload rfl rfl ?_
      refine gforget (ls := [.ref 57, .int v1, .null, .int v3, .null]) ⟨(Or.inl rfl), ⟨(Or.inl rfl), ⟨(Or.inr (Or.inl ⟨rfl, _, rfl⟩)), ⟨(Or.inl rfl), ⟨(Or.inr (Or.inl ⟨rfl, _, rfl⟩)), trivial⟩⟩⟩⟩⟩ ?_
      exact t_X8_silence_38 hK10 hr hQ
    · rw [if_neg c26] at hr
      refine r_iload rfl rfl ?_
      refine r_goto 38 rfl rfl ?_
      refine gforget (ls := [.ref 57, .int v1, .null, .int v3, .null]) ⟨(Or.inl rfl), ⟨(Or.inl rfl), ⟨(Or.inr (Or.inl ⟨rfl, _, rfl⟩)), ⟨(Or.inl rfl), ⟨(Or.inr (Or.inl ⟨rfl, _, rfl⟩)), trivial⟩⟩⟩⟩⟩ ?_
      exact t_X8_silence_38 hK10 hr hQ
def r_X8_silence_10   : Nat → Int32 → Int32 → Int32 → (Nat → Nat → Int32) → (Nat → Nat → Int64) → Option gRs
  | 0, _, _, _, _, _ => none
  | m + 1, v1, v2, v3, I, L => (if (gshl (nI 1) (I 57 0)) ≤ v3 then some (v2, I, L) else (if v2 = (-9 : Int32) then (r_X8_silence_24 (r_X8_silence_10  m) v1 v2 v3 I L) else ((r_X8_ones I L v3).bind (fun z29 => ((r_X8_ones z29.2.1 z29.2.2 v2).bind (fun z30 => (if z30.1 ≤ z29.1 then (if (nI 0) = 0 then (r_X8_silence_38 (r_X8_silence_10  m) v1 v3 v2 z30.2.1 z30.2.2) else ((r_X8_isSilent z30.2.1 z30.2.2 v1 v3).bind (fun z33 => (if z33.1 = 0 then (r_X8_silence_38 (r_X8_silence_10  m) v1 v3 v2 z33.2.1 z33.2.2) else (r_X8_silence_38 (r_X8_silence_10  m) v1 v3 v3 z33.2.1 z33.2.2))))) else (r_X8_silence_24 (r_X8_silence_10  m) v1 v2 v3 z30.2.1 z30.2.2))))))))
set_option maxHeartbeats 4000000 in
set_option maxRecDepth 100000 in
theorem t_X8_silence_10 {n f g d : Nat} {Q : gP} {z : gRs}    : ∀ {m : Nat} {v1 : Int32} {v2 : Int32} {v3 : Int32} {I : Nat → Nat → Int32} {L : Nat → Nat → Int64}, r_X8_silence_10 m v1 v2 v3 I L = some z → Q (some (.int z.1)) (gKn n, gRf f g, z.2.1, z.2.2) → gW gM (d + 4) 0 0 k_X8_silence 10 [.ref 57, .int v1, .int v2, .int v3, .null] [] (gKn n, gRf f g, I, L) Q := by
  intro m
  induction m with
  | zero =>
    intro v1 v2 v3 I L hr _
    cases hr
  | succ m ih =>
    intro v1 v2 v3 I L hr hQ
    have hK10 : ∀ v1 v2 v3 I L, r_X8_silence_10 m v1 v2 v3 I L = some z → gW gM (d + 4) 0 0 k_X8_silence 10 [.ref 57, .int v1, .int v2, .int v3, .null] [] (gKn n, gRf f g, I, L) Q := fun v1 v2 v3 I L hr => ih hr hQ
    unfold r_X8_silence_10 at hr
    refine r_iload rfl rfl ?_
    refine r_const rfl (gcst 1) ?_
    refine r_aload rfl rfl ?_
    refine r_getI (c := 8) (k := 0) rfl rfl ⟨rfl, rfl⟩ ?_
    refine r_ishl rfl ?_
    refine r_icmp_ge 41 rfl rfl (fun c27 => ?_) (fun c27 => ?_)
    · rw [if_pos c27] at hr
      refine r_iload rfl rfl ?_
      refine r_iret rfl ?_
      cases hr
      exact hQ
    · rw [if_neg c27] at hr
      refine r_iload rfl rfl ?_
      refine r_const rfl (v := -9) (by decide) ?_
      refine r_icmp_eq 24 rfl rfl (fun c28 => ?_) (fun c28 => ?_)
      · rw [if_pos c28] at hr
        exact t_X8_silence_24 hK10 hr hQ
      · rw [if_neg c28] at hr
        refine r_iload rfl rfl ?_
        obtain ⟨z29, hz29, hr⟩ := gbnd hr
        refine r_invs [.int v3] rfl rfl rfl rfl (Nat.le_of_ble_eq_true rfl) ⟨rfl, rfl⟩ ?_
        refine s_X8_ones  hz29 ?_
        show gW _ _ _ _ _ 21 [.ref 57, .int v1, .int v2, .int v3, .null] [.int z29.1] (gKn n, gRf f g, z29.2.1, z29.2.2) _
        refine r_iload rfl rfl ?_
        obtain ⟨z30, hz30, hr⟩ := gbnd hr
        refine r_invs [.int v2] rfl rfl rfl rfl (Nat.le_of_ble_eq_true rfl) ⟨rfl, rfl⟩ ?_
        refine s_X8_ones  hz30 ?_
        show gW _ _ _ _ _ 23 [.ref 57, .int v1, .int v2, .int v3, .null] [.int z30.1, .int z29.1] (gKn n, gRf f g, z30.2.1, z30.2.2) _
        refine r_icmp_ge 26 rfl rfl (fun c31 => ?_) (fun c31 => ?_)
        · rw [if_pos c31] at hr
          refine r_const rfl (gcst 0) ?_
          refine r_istore [.ref 57, .int v1, .int v2, .int v3, .int (nI 0)] rfl rfl (Nat.le_of_ble_eq_true rfl) rfl ?_
          refine r_iload rfl rfl ?_
          refine r_if_eq 37 rfl rfl (fun c32 => ?_) (fun c32 => ?_)
          · rw [if_pos c32] at hr
            refine r_iload rfl rfl ?_
            refine gforget (ls := [.ref 57, .int v1, .null, .int v3, .null]) ⟨(Or.inl rfl), ⟨(Or.inl rfl), ⟨(Or.inr (Or.inl ⟨rfl, _, rfl⟩)), ⟨(Or.inl rfl), ⟨(Or.inr (Or.inl ⟨rfl, _, rfl⟩)), trivial⟩⟩⟩⟩⟩ ?_
            exact t_X8_silence_38 hK10 hr hQ
          · rw [if_neg c32] at hr
            refine r_aload rfl rfl ?_
            refine r_iload rfl rfl ?_
            refine r_iload rfl rfl ?_
            obtain ⟨z33, hz33, hr⟩ := gbnd hr
            refine r_invv (a := 57) [.int v1, .int v3] rfl rfl rfl rfl rfl (Nat.le_of_ble_eq_true rfl) ⟨rfl, rfl⟩ ?_
            refine s_X8_isSilent  hz33 ?_
            show gW _ _ _ _ _ 34 [.ref 57, .int v1, .int v2, .int v3, .int (nI 0)] [.int z33.1] (gKn n, gRf f g, z33.2.1, z33.2.2) _
            refine r_if_eq 37 rfl rfl (fun c34 => ?_) (fun c34 => ?_)
            · rw [if_pos c34] at hr
              refine r_iload rfl rfl ?_
              refine gforget (ls := [.ref 57, .int v1, .null, .int v3, .null]) ⟨(Or.inl rfl), ⟨(Or.inl rfl), ⟨(Or.inr (Or.inl ⟨rfl, _, rfl⟩)), ⟨(Or.inl rfl), ⟨(Or.inr (Or.inl ⟨rfl, _, rfl⟩)), trivial⟩⟩⟩⟩⟩ ?_
              exact t_X8_silence_38 hK10 hr hQ
            · rw [if_neg c34] at hr
              refine r_iload rfl rfl ?_
              refine r_goto 38 rfl rfl ?_
              refine gforget (ls := [.ref 57, .int v1, .null, .int v3, .null]) ⟨(Or.inl rfl), ⟨(Or.inl rfl), ⟨(Or.inr (Or.inl ⟨rfl, _, rfl⟩)), ⟨(Or.inl rfl), ⟨(Or.inr (Or.inl ⟨rfl, _, rfl⟩)), trivial⟩⟩⟩⟩⟩ ?_
              exact t_X8_silence_38 hK10 hr hQ
        · rw [if_neg c31] at hr
          exact t_X8_silence_24 hK10 hr hQ
def r_X8_silence (I : Nat → Nat → Int32) (L : Nat → Nat → Int64) (a1 : Int32) : Option gRs := ((r_X8_isLane I L a1).bind (fun z35 => (if ¬ z35.1 = 0 then (r_X8_silence_10 100 a1 (-9 : Int32) (nI 0) z35.2.1 z35.2.2) else some ((-1 : Int32), z35.2.1, z35.2.2))))
set_option maxHeartbeats 4000000 in
set_option maxRecDepth 100000 in
theorem s_X8_silence {n f g d : Nat} {Q : gP} {I : Nat → Nat → Int32} {L : Nat → Nat → Int64} {a1 : Int32} {z : gRs}  (hr : r_X8_silence I L a1 = some z) (hQ : Q (some (.int z.1)) (gKn n, gRf f g, z.2.1, z.2.2)) : gR gM (d + 4) 158 [.ref 57, .int a1] (gKn n, gRf f g, I, L) Q := by
  unfold r_X8_silence at hr
  show gW gM (d + 4) 0 0 k_X8_silence 0 [.ref 57, .int a1, .null, .null, .null] [] (gKn n, gRf f g, I, L) Q
  refine r_aload rfl rfl ?_
  refine r_iload rfl rfl ?_
  obtain ⟨z35, hz35, hr⟩ := gbnd hr
  refine r_invv (a := 57) [.int a1] rfl rfl rfl rfl rfl (Nat.le_of_ble_eq_true rfl) ⟨rfl, rfl⟩ ?_
  refine s_X8_isLane  hz35 ?_
  show gW _ _ _ _ _ 3 [.ref 57, .int a1, .null, .null, .null] [.int z35.1] (gKn n, gRf f g, z35.2.1, z35.2.2) _
  refine r_if_ne 6 rfl rfl (fun c36 => ?_) (fun c36 => ?_)
  · rw [if_pos c36] at hr
    refine r_const rfl (v := -9) (by decide) ?_
    refine r_istore [.ref 57, .int a1, .int (-9 : Int32), .null, .null] rfl rfl (Nat.le_of_ble_eq_true rfl) rfl ?_
    refine r_const rfl (gcst 0) ?_
    refine r_istore [.ref 57, .int a1, .int (-9 : Int32), .int (nI 0), .null] rfl rfl (Nat.le_of_ble_eq_true rfl) rfl ?_
    exact t_X8_silence_10  hr hQ
  · rw [if_neg c36] at hr
    refine r_const rfl (v := -1) (by decide) ?_
    refine r_iret rfl ?_
    cases hr
    exact hQ
def r_X8_tryThing_60   (v1 : Int32) (v2 : Int32) (s0 : Int32) (I : Nat → Nat → Int32) (L : Nat → Nat → Int64) : Option gRs := (if (s0 = 0 ∨ s0 = 1) then some (s0, (if s0 = 0 then (if s0 = 0 then (if s0 = 0 then I else (if ¬ v1 = (nI 7) then I else (gu2 I 63 (gx (nI 39)) ((I 63 (gx (nI 39))) &&& ((gshl (nI 1) v2) ^^^ (-1 : Int32)))))) else (if ¬ v1 = (nI 6) then (if s0 = 0 then I else (if ¬ v1 = (nI 7) then I else (gu2 I 63 (gx (nI 39)) ((I 63 (gx (nI 39))) &&& ((gshl (nI 1) v2) ^^^ (-1 : Int32)))))) else (gu2 I 63 (gx (nI 38)) ((I 63 (gx (nI 38))) ^^^ (gshl (nI 1) v2))))) else (if ¬ v1 = (nI 5) then (if s0 = 0 then (if s0 = 0 then I else (if ¬ v1 = (nI 7) then I else (gu2 I 63 (gx (nI 39)) ((I 63 (gx (nI 39))) &&& ((gshl (nI 1) v2) ^^^ (-1 : Int32)))))) else (if ¬ v1 = (nI 6) then (if s0 = 0 then I else (if ¬ v1 = (nI 7) then I else (gu2 I 63 (gx (nI 39)) ((I 63 (gx (nI 39))) &&& ((gshl (nI 1) v2) ^^^ (-1 : Int32)))))) else (gu2 I 63 (gx (nI 38)) ((I 63 (gx (nI 38))) ^^^ (gshl (nI 1) v2))))) else (gu2 I 63 (gx (nI 37)) ((I 63 (gx (nI 37))) ^^^ (gshl (nI 1) v2))))), L) else none)
set_option maxHeartbeats 4000000 in
set_option maxRecDepth 100000 in
theorem t_X8_tryThing_60 {n f g d : Nat} {Q : gP} {z : gRs}    {v1 : Int32} {v2 : Int32} {s0 : Int32} {I : Nat → Nat → Int32} {L : Nat → Nat → Int64} (hr : r_X8_tryThing_60 v1 v2 s0 I L = some z) (hQ : Q (some (.int z.1)) (gKn n, gRf f g, z.2.1, z.2.2)) : gW gM (d + 4) 0 0 k_X8_tryThing 60 [.ref 57, .int v1, .int v2, .null] [.int s0] (gKn n, gRf f g, I, L) Q := by
  unfold r_X8_tryThing_60 at hr
  refine r_istore [.ref 57, .int v1, .int v2, .int s0] rfl rfl (Nat.le_of_ble_eq_true rfl) rfl ?_
  refine r_iload rfl rfl ?_
  have j92 : gW gM (d + 4) 0 0 k_X8_tryThing 110 [.ref 57, .int v1, .int v2, .int s0] [] (gKn n, gRf f g, (if s0 = 0 then (if s0 = 0 then (if s0 = 0 then I else (if ¬ v1 = (nI 7) then I else (gu2 I 63 (gx (nI 39)) ((I 63 (gx (nI 39))) &&& ((gshl (nI 1) v2) ^^^ (-1 : Int32)))))) else (if ¬ v1 = (nI 6) then (if s0 = 0 then I else (if ¬ v1 = (nI 7) then I else (gu2 I 63 (gx (nI 39)) ((I 63 (gx (nI 39))) &&& ((gshl (nI 1) v2) ^^^ (-1 : Int32)))))) else (gu2 I 63 (gx (nI 38)) ((I 63 (gx (nI 38))) ^^^ (gshl (nI 1) v2))))) else (if ¬ v1 = (nI 5) then (if s0 = 0 then (if s0 = 0 then I else (if ¬ v1 = (nI 7) then I else (gu2 I 63 (gx (nI 39)) ((I 63 (gx (nI 39))) &&& ((gshl (nI 1) v2) ^^^ (-1 : Int32)))))) else (if ¬ v1 = (nI 6) then (if s0 = 0 then I else (if ¬ v1 = (nI 7) then I else (gu2 I 63 (gx (nI 39)) ((I 63 (gx (nI 39))) &&& ((gshl (nI 1) v2) ^^^ (-1 : Int32)))))) else (gu2 I 63 (gx (nI 38)) ((I 63 (gx (nI 38))) ^^^ (gshl (nI 1) v2))))) else (gu2 I 63 (gx (nI 37)) ((I 63 (gx (nI 37))) ^^^ (gshl (nI 1) v2))))), L) Q := by
    refine r_iload rfl rfl ?_
    obtain ⟨b91, hr⟩ := gopt hr
    refine r_zret rfl b91 ?_
    cases hr
    exact hQ
  refine r_if_eq 77 rfl rfl (fun c77 => ?_) (fun c77 => ?_)
  · refine r_iload rfl rfl ?_
    refine r_if_eq 93 rfl rfl (fun c78 => ?_) (fun c78 => ?_)
    · refine r_iload rfl rfl ?_
      refine r_if_eq 110 rfl rfl (fun c79 => ?_) (fun c79 => ?_)
      · first | contradiction | simpa only [if_pos c77, if_pos c78, if_pos c79] using j92
      · refine r_iload rfl rfl ?_
        refine r_const rfl (gcst 7) ?_
        refine r_icmp_ne 110 rfl rfl (fun c80 => ?_) (fun c80 => ?_)
        · first | contradiction | simpa only [if_pos c77, if_pos c78, if_neg c79, if_pos c80] using j92
        · refine r_aload rfl rfl ?_
          refine r_getR (c := 8) (k := 9) (v := 63) rfl rfl ⟨rfl, rfl⟩ rfl ?_
          refine r_const rfl (gcst 39) ?_
          refine r_dup2 rfl rfl rfl ?_
          refine r_iaload (n := 54) rfl rfl (vp_in_nI (n := 39) (N := 54) (by decide) (by decide)) ?_
          refine r_const rfl (gcst 1) ?_
          refine r_iload rfl rfl ?_
          refine r_ishl rfl ?_
          refine r_const rfl (v := -1) (by decide) ?_
          refine r_ixor rfl ?_
          refine r_iand rfl ?_
          refine r_iastore (n := 54) rfl rfl (vp_in_nI (n := 39) (N := 54) (by decide) (by decide)) (by decide) ?_
          first | contradiction | simpa only [if_pos c77, if_pos c78, if_neg c79, if_neg c80] using j92
    · refine r_iload rfl rfl ?_
      refine r_const rfl (gcst 6) ?_
      refine r_icmp_ne 93 rfl rfl (fun c81 => ?_) (fun c81 => ?_)
      · refine r_iload rfl rfl ?_
        refine r_if_eq 110 rfl rfl (fun c82 => ?_) (fun c82 => ?_)
        · first | contradiction | simpa only [if_pos c77, if_neg c78, if_pos c81, if_pos c82] using j92
        · refine r_iload rfl rfl ?_
          refine r_const rfl (gcst 7) ?_
          refine r_icmp_ne 110 rfl rfl (fun c83 => ?_) (fun c83 => ?_)
          · first | contradiction | simpa only [if_pos c77, if_neg c78, if_pos c81, if_neg c82, if_pos c83] using j92
          · refine r_aload rfl rfl ?_
            refine r_getR (c := 8) (k := 9) (v := 63) rfl rfl ⟨rfl, rfl⟩ rfl ?_
            refine r_const rfl (gcst 39) ?_
            refine r_dup2 rfl rfl rfl ?_
            refine r_iaload (n := 54) rfl rfl (vp_in_nI (n := 39) (N := 54) (by decide) (by decide)) ?_
            refine r_const rfl (gcst 1) ?_
            refine r_iload rfl rfl ?_
            refine r_ishl rfl ?_
            refine r_const rfl (v := -1) (by decide) ?_
            refine r_ixor rfl ?_
            refine r_iand rfl ?_
            refine r_iastore (n := 54) rfl rfl (vp_in_nI (n := 39) (N := 54) (by decide) (by decide)) (by decide) ?_
            first | contradiction | simpa only [if_pos c77, if_neg c78, if_pos c81, if_neg c82, if_neg c83] using j92
      · refine r_aload rfl rfl ?_
        refine r_getR (c := 8) (k := 9) (v := 63) rfl rfl ⟨rfl, rfl⟩ rfl ?_
        refine r_const rfl (gcst 38) ?_
        refine r_dup2 rfl rfl rfl ?_
        refine r_iaload (n := 54) rfl rfl (vp_in_nI (n := 38) (N := 54) (by decide) (by decide)) ?_
        refine r_const rfl (gcst 1) ?_
        refine r_iload rfl rfl ?_
        refine r_ishl rfl ?_
        refine r_ixor rfl ?_
        refine r_iastore (n := 54) rfl rfl (vp_in_nI (n := 38) (N := 54) (by decide) (by decide)) (by decide) ?_
        refine r_goto 110 rfl rfl ?_
        first | contradiction | simpa only [if_pos c77, if_neg c78, if_neg c81] using j92
  · refine r_iload rfl rfl ?_
    refine r_const rfl (gcst 5) ?_
    refine r_icmp_ne 77 rfl rfl (fun c84 => ?_) (fun c84 => ?_)
    · refine r_iload rfl rfl ?_
      refine r_if_eq 93 rfl rfl (fun c85 => ?_) (fun c85 => ?_)
      · refine r_iload rfl rfl ?_
        refine r_if_eq 110 rfl rfl (fun c86 => ?_) (fun c86 => ?_)
        · first | contradiction | simpa only [if_neg c77, if_pos c84, if_pos c85, if_pos c86] using j92
        · refine r_iload rfl rfl ?_
          refine r_const rfl (gcst 7) ?_
          refine r_icmp_ne 110 rfl rfl (fun c87 => ?_) (fun c87 => ?_)
          · first | contradiction | simpa only [if_neg c77, if_pos c84, if_pos c85, if_neg c86, if_pos c87] using j92
          · refine r_aload rfl rfl ?_
            refine r_getR (c := 8) (k := 9) (v := 63) rfl rfl ⟨rfl, rfl⟩ rfl ?_
            refine r_const rfl (gcst 39) ?_
            refine r_dup2 rfl rfl rfl ?_
            refine r_iaload (n := 54) rfl rfl (vp_in_nI (n := 39) (N := 54) (by decide) (by decide)) ?_
            refine r_const rfl (gcst 1) ?_
            refine r_iload rfl rfl ?_
            refine r_ishl rfl ?_
            refine r_const rfl (v := -1) (by decide) ?_
            refine r_ixor rfl ?_
            refine r_iand rfl ?_
            refine r_iastore (n := 54) rfl rfl (vp_in_nI (n := 39) (N := 54) (by decide) (by decide)) (by decide) ?_
            first | contradiction | simpa only [if_neg c77, if_pos c84, if_pos c85, if_neg c86, if_neg c87] using j92
      · refine r_iload rfl rfl ?_
        refine r_const rfl (gcst 6) ?_
        refine r_icmp_ne 93 rfl rfl (fun c88 => ?_) (fun c88 => ?_)
        · refine r_iload rfl rfl ?_
          refine r_if_eq 110 rfl rfl (fun c89 => ?_) (fun c89 => ?_)
          · first | contradiction | simpa only [if_neg c77, if_pos c84, if_neg c85, if_pos c88, if_pos c89] using j92
          · refine r_iload rfl rfl ?_
            refine r_const rfl (gcst 7) ?_
            refine r_icmp_ne 110 rfl rfl (fun c90 => ?_) (fun c90 => ?_)
            · first | contradiction | simpa only [if_neg c77, if_pos c84, if_neg c85, if_pos c88, if_neg c89, if_pos c90] using j92
            · refine r_aload rfl rfl ?_
              refine r_getR (c := 8) (k := 9) (v := 63) rfl rfl ⟨rfl, rfl⟩ rfl ?_
              refine r_const rfl (gcst 39) ?_
              refine r_dup2 rfl rfl rfl ?_
              refine r_iaload (n := 54) rfl rfl (vp_in_nI (n := 39) (N := 54) (by decide) (by decide)) ?_
              refine r_const rfl (gcst 1) ?_
              refine r_iload rfl rfl ?_
              refine r_ishl rfl ?_
              refine r_const rfl (v := -1) (by decide) ?_
              refine r_ixor rfl ?_
              refine r_iand rfl ?_
              refine r_iastore (n := 54) rfl rfl (vp_in_nI (n := 39) (N := 54) (by decide) (by decide)) (by decide) ?_
              first | contradiction | simpa only [if_neg c77, if_pos c84, if_neg c85, if_pos c88, if_neg c89, if_neg c90] using j92
        · refine r_aload rfl rfl ?_
          refine r_getR (c := 8) (k := 9) (v := 63) rfl rfl ⟨rfl, rfl⟩ rfl ?_
          refine r_const rfl (gcst 38) ?_
          refine r_dup2 rfl rfl rfl ?_
          refine r_iaload (n := 54) rfl rfl (vp_in_nI (n := 38) (N := 54) (by decide) (by decide)) ?_
          refine r_const rfl (gcst 1) ?_
          refine r_iload rfl rfl ?_
          refine r_ishl rfl ?_
          refine r_ixor rfl ?_
          refine r_iastore (n := 54) rfl rfl (vp_in_nI (n := 38) (N := 54) (by decide) (by decide)) (by decide) ?_
          refine r_goto 110 rfl rfl ?_
          first | contradiction | simpa only [if_neg c77, if_pos c84, if_neg c85, if_neg c88] using j92
    · refine r_aload rfl rfl ?_
      refine r_getR (c := 8) (k := 9) (v := 63) rfl rfl ⟨rfl, rfl⟩ rfl ?_
      refine r_const rfl (gcst 37) ?_
      refine r_dup2 rfl rfl rfl ?_
      refine r_iaload (n := 54) rfl rfl (vp_in_nI (n := 37) (N := 54) (by decide) (by decide)) ?_
      refine r_const rfl (gcst 1) ?_
      refine r_iload rfl rfl ?_
      refine r_ishl rfl ?_
      refine r_ixor rfl ?_
      refine r_iastore (n := 54) rfl rfl (vp_in_nI (n := 37) (N := 54) (by decide) (by decide)) (by decide) ?_
      refine r_goto 110 rfl rfl ?_
      first | contradiction | simpa only [if_neg c77, if_neg c84] using j92
def r_X8_tryThing_59   (v1 : Int32) (v2 : Int32) (I : Nat → Nat → Int32) (L : Nat → Nat → Int64) : Option gRs := (r_X8_tryThing_60 v1 v2 (nI 0) I L)
set_option maxHeartbeats 4000000 in
set_option maxRecDepth 100000 in
theorem t_X8_tryThing_59 {n f g d : Nat} {Q : gP} {z : gRs}    {v1 : Int32} {v2 : Int32} {I : Nat → Nat → Int32} {L : Nat → Nat → Int64} (hr : r_X8_tryThing_59 v1 v2 I L = some z) (hQ : Q (some (.int z.1)) (gKn n, gRf f g, z.2.1, z.2.2)) : gW gM (d + 4) 0 0 k_X8_tryThing 59 [.ref 57, .int v1, .int v2, .null] [] (gKn n, gRf f g, I, L) Q := by
  unfold r_X8_tryThing_59 at hr
  refine r_const rfl (gcst 0) ?_
  exact t_X8_tryThing_60  hr hQ
def r_X8_tryThing_42   (v1 : Int32) (v2 : Int32) (I : Nat → Nat → Int32) (L : Nat → Nat → Int64) : Option gRs := (r_X8_tryThing_60 v1 v2 (nI 0) I L)
set_option maxHeartbeats 4000000 in
set_option maxRecDepth 100000 in
theorem t_X8_tryThing_42 {n f g d : Nat} {Q : gP} {z : gRs}    {v1 : Int32} {v2 : Int32} {I : Nat → Nat → Int32} {L : Nat → Nat → Int64} (hr : r_X8_tryThing_42 v1 v2 I L = some z) (hQ : Q (some (.int z.1)) (gKn n, gRf f g, z.2.1, z.2.2)) : gW gM (d + 4) 0 0 k_X8_tryThing 42 [.ref 57, .int v1, .int v2, .null] [] (gKn n, gRf f g, I, L) Q := by
  unfold r_X8_tryThing_42 at hr
  refine r_const rfl (gcst 0) ?_
  refine r_goto 60 rfl rfl ?_
  exact t_X8_tryThing_60  hr hQ
def r_X8_tryThing_17   (v3 : Int32) (I : Nat → Nat → Int32) (L : Nat → Nat → Int64) : Option gRs := (if (v3 = 0 ∨ v3 = 1) then some (v3, I, L) else none)
set_option maxHeartbeats 4000000 in
set_option maxRecDepth 100000 in
theorem t_X8_tryThing_17 {n f g d : Nat} {Q : gP} {z : gRs}    {v3 : Int32} {I : Nat → Nat → Int32} {L : Nat → Nat → Int64} (hr : r_X8_tryThing_17 v3 I L = some z) (hQ : Q (some (.int z.1)) (gKn n, gRf f g, z.2.1, z.2.2)) : gW gM (d + 4) 0 0 k_X8_tryThing 17 [.null, .null, .null, .int v3] [] (gKn n, gRf f g, I, L) Q := by
  unfold r_X8_tryThing_17 at hr
  refine r_iload rfl rfl ?_
  obtain ⟨b93, hr⟩ := gopt hr
  refine r_zret rfl b93 ?_
  cases hr
  exact hQ
def r_X8_tryThing (I : Nat → Nat → Int32) (L : Nat → Nat → Int64) (a1 : Int32) (a2 : Int32) : Option gRs := (if (nI 5) ≤ a1 then (if (nI 7) ≤ a1 then (if ¬ a1 = (nI 7) then (if ¬ a1 = (nI 8) then (r_X8_tryThing_59 a1 a2 I L) else ((r_X8_isVerse I L a2).bind (fun z98 => (if z98.1 = 0 then (r_X8_tryThing_59 a1 a2 z98.2.1 z98.2.2) else ((r_X8_fitOn z98.2.1 z98.2.2 (nI 1) a2).bind (fun z100 => (if z100.1 ≤ (nI 2) then (r_X8_tryThing_59 a1 a2 z100.2.1 z100.2.2) else (r_X8_tryThing_60 a1 a2 (nI 1) z100.2.1 z100.2.2)))))))) else ((r_X8_isBeast I L a2).bind (fun z102 => (if z102.1 = 0 then (r_X8_tryThing_42 a1 a2 z102.2.1 z102.2.2) else (if (f_X8_bit z102.2.1 z102.2.2 (z102.2.1 63 (gx (nI 39))) a2) = 0 then (r_X8_tryThing_42 a1 a2 z102.2.1 z102.2.2) else (r_X8_tryThing_60 a1 a2 (nI 1) z102.2.1 z102.2.2)))))) else ((r_X8_isGate I L a2).bind (fun z105 => (r_X8_tryThing_60 a1 a2 z105.1 z105.2.1 z105.2.2)))) else ((r_X8_canDrive I L (nI 1) a1 a2).bind (fun z106 => (if z106.1 = 0 then (r_X8_tryThing_17 z106.1 z106.2.1 z106.2.2) else ((r_X8_driveOn z106.2.1 z106.2.2 (nI 1) a1 a2).bind (fun z108 => (r_X8_tryThing_17 z106.1 z108.2.1 z108.2.2)))))))
set_option maxHeartbeats 4000000 in
set_option maxRecDepth 100000 in
theorem s_X8_tryThing {n f g d : Nat} {Q : gP} {I : Nat → Nat → Int32} {L : Nat → Nat → Int64} {a1 : Int32} {a2 : Int32} {z : gRs}  (hr : r_X8_tryThing I L a1 a2 = some z) (hQ : Q (some (.int z.1)) (gKn n, gRf f g, z.2.1, z.2.2)) : gR gM (d + 4) 159 [.ref 57, .int a1, .int a2] (gKn n, gRf f g, I, L) Q := by
  unfold r_X8_tryThing at hr
  show gW gM (d + 4) 0 0 k_X8_tryThing 0 [.ref 57, .int a1, .int a2, .null] [] (gKn n, gRf f g, I, L) Q
  refine r_iload rfl rfl ?_
  refine r_const rfl (gcst 5) ?_
  refine r_icmp_ge 19 rfl rfl (fun c94 => ?_) (fun c94 => ?_)
  · rw [if_pos c94] at hr
    refine r_iload rfl rfl ?_
    refine r_const rfl (gcst 7) ?_
    refine r_icmp_ge 26 rfl rfl (fun c95 => ?_) (fun c95 => ?_)
    · rw [if_pos c95] at hr
      refine r_iload rfl rfl ?_
      refine r_const rfl (gcst 7) ?_
      refine r_icmp_ne 44 rfl rfl (fun c96 => ?_) (fun c96 => ?_)
      · rw [if_pos c96] at hr
        refine r_iload rfl rfl ?_
        refine r_const rfl (gcst 8) ?_
        refine r_icmp_ne 59 rfl rfl (fun c97 => ?_) (fun c97 => ?_)
        · rw [if_pos c97] at hr
          exact t_X8_tryThing_59  hr hQ
        · rw [if_neg c97] at hr
          refine r_aload rfl rfl ?_
          refine r_iload rfl rfl ?_
          obtain ⟨z98, hz98, hr⟩ := gbnd hr
          refine r_invv (a := 57) [.int a2] rfl rfl rfl rfl rfl (Nat.le_of_ble_eq_true rfl) ⟨rfl, rfl⟩ ?_
          refine s_X8_isVerse  hz98 ?_
          show gW _ _ _ _ _ 50 [.ref 57, .int a1, .int a2, .null] [.int z98.1] (gKn n, gRf f g, z98.2.1, z98.2.2) _
          refine r_if_eq 59 rfl rfl (fun c99 => ?_) (fun c99 => ?_)
          · rw [if_pos c99] at hr
            exact t_X8_tryThing_59  hr hQ
          · rw [if_neg c99] at hr
            refine r_aload rfl rfl ?_
            refine r_const rfl (gcst 1) ?_
            refine r_iload rfl rfl ?_
            obtain ⟨z100, hz100, hr⟩ := gbnd hr
            refine r_invv (a := 57) [.int (nI 1), .int a2] rfl rfl rfl rfl rfl (Nat.le_of_ble_eq_true rfl) ⟨rfl, rfl⟩ ?_
            refine s_X8_fitOn  hz100 ?_
            show gW _ _ _ _ _ 55 [.ref 57, .int a1, .int a2, .null] [.int z100.1] (gKn n, gRf f g, z100.2.1, z100.2.2) _
            refine r_const rfl (gcst 2) ?_
            refine r_icmp_le 59 rfl rfl (fun c101 => ?_) (fun c101 => ?_)
            · rw [if_pos c101] at hr
              exact t_X8_tryThing_59  hr hQ
            · rw [if_neg c101] at hr
              refine r_const rfl (gcst 1) ?_
              refine r_goto 60 rfl rfl ?_
              exact t_X8_tryThing_60  hr hQ
      · rw [if_neg c96] at hr
        refine r_aload rfl rfl ?_
        refine r_iload rfl rfl ?_
        obtain ⟨z102, hz102, hr⟩ := gbnd hr
        refine r_invv (a := 57) [.int a2] rfl rfl rfl rfl rfl (Nat.le_of_ble_eq_true rfl) ⟨rfl, rfl⟩ ?_
        refine s_X8_isBeast  hz102 ?_
        show gW _ _ _ _ _ 32 [.ref 57, .int a1, .int a2, .null] [.int z102.1] (gKn n, gRf f g, z102.2.1, z102.2.2) _
        refine r_if_eq 42 rfl rfl (fun c103 => ?_) (fun c103 => ?_)
        · rw [if_pos c103] at hr
          exact t_X8_tryThing_42  hr hQ
        · rw [if_neg c103] at hr
          refine r_aload rfl rfl ?_
          refine r_getR (c := 8) (k := 9) (v := 63) rfl rfl ⟨rfl, rfl⟩ rfl ?_
          refine r_const rfl (gcst 39) ?_
          refine r_iaload (n := 54) rfl rfl (vp_in_nI (n := 39) (N := 54) (by decide) (by decide)) ?_
          refine r_iload rfl rfl ?_
          refine r_invs [.int (z102.2.1 63 (gx (nI 39))), .int a2] rfl rfl rfl rfl (Nat.le_of_ble_eq_true rfl) ⟨rfl, rfl⟩ ?_
          refine s_X8_bit  ?_
          show gW _ _ _ _ _ 39 [.ref 57, .int a1, .int a2, .null] [.int (f_X8_bit z102.2.1 z102.2.2 (z102.2.1 63 (gx (nI 39))) a2)] (gKn n, gRf f g, z102.2.1, z102.2.2) _
          refine r_if_eq 42 rfl rfl (fun c104 => ?_) (fun c104 => ?_)
          · rw [if_pos c104] at hr
            exact t_X8_tryThing_42  hr hQ
          · rw [if_neg c104] at hr
            refine r_const rfl (gcst 1) ?_
            refine r_goto 60 rfl rfl ?_
            exact t_X8_tryThing_60  hr hQ
    · rw [if_neg c95] at hr
      refine r_aload rfl rfl ?_
      refine r_iload rfl rfl ?_
      obtain ⟨z105, hz105, hr⟩ := gbnd hr
      refine r_invv (a := 57) [.int a2] rfl rfl rfl rfl rfl (Nat.le_of_ble_eq_true rfl) ⟨rfl, rfl⟩ ?_
      refine s_X8_isGate  hz105 ?_
      show gW _ _ _ _ _ 25 [.ref 57, .int a1, .int a2, .null] [.int z105.1] (gKn n, gRf f g, z105.2.1, z105.2.2) _
      refine r_goto 60 rfl rfl ?_
      exact t_X8_tryThing_60  hr hQ
  · rw [if_neg c94] at hr
    refine r_aload rfl rfl ?_
    refine r_const rfl (gcst 1) ?_
    refine r_iload rfl rfl ?_
    refine r_iload rfl rfl ?_
    obtain ⟨z106, hz106, hr⟩ := gbnd hr
    refine r_invv (a := 57) [.int (nI 1), .int a1, .int a2] rfl rfl rfl rfl rfl (Nat.le_of_ble_eq_true rfl) ⟨rfl, rfl⟩ ?_
    refine s_X8_canDrive  hz106 ?_
    show gW _ _ _ _ _ 8 [.ref 57, .int a1, .int a2, .null] [.int z106.1] (gKn n, gRf f g, z106.2.1, z106.2.2) _
    refine r_istore [.ref 57, .int a1, .int a2, .int z106.1] rfl rfl (Nat.le_of_ble_eq_true rfl) rfl ?_
    refine r_iload rfl rfl ?_
    refine r_if_eq 17 rfl rfl (fun c107 => ?_) (fun c107 => ?_)
    · rw [if_pos c107] at hr
      refine gforget (ls := [.null, .null, .null, .int z106.1]) ⟨(Or.inr (Or.inr ⟨rfl, _, rfl⟩)), ⟨(Or.inr (Or.inl ⟨rfl, _, rfl⟩)), ⟨(Or.inr (Or.inl ⟨rfl, _, rfl⟩)), ⟨(Or.inl rfl), trivial⟩⟩⟩⟩ ?_
      exact t_X8_tryThing_17  hr hQ
    · rw [if_neg c107] at hr
      refine r_aload rfl rfl ?_
      refine r_const rfl (gcst 1) ?_
      refine r_iload rfl rfl ?_
      refine r_iload rfl rfl ?_
      obtain ⟨z108, hz108, hr⟩ := gbnd hr
      refine r_invv (a := 57) [.int (nI 1), .int a1, .int a2] rfl rfl rfl rfl rfl (Nat.le_of_ble_eq_true rfl) ⟨rfl, rfl⟩ ?_
      refine s_X8_driveOn  hz108 ?_
      show gW _ _ _ _ _ 16 [.ref 57, .int a1, .int a2, .int z106.1] [.int z108.1] (gKn n, gRf f g, z108.2.1, z108.2.2) _
      refine r_pop rfl rfl ?_
      refine gforget (ls := [.null, .null, .null, .int z106.1]) ⟨(Or.inr (Or.inr ⟨rfl, _, rfl⟩)), ⟨(Or.inr (Or.inl ⟨rfl, _, rfl⟩)), ⟨(Or.inr (Or.inl ⟨rfl, _, rfl⟩)), ⟨(Or.inl rfl), trivial⟩⟩⟩⟩ ?_
      exact t_X8_tryThing_17  hr hQ
def r_X8_judge_23   : Nat → Int32 → Int32 → Int32 → (Nat → Nat → Int32) → (Nat → Nat → Int64) → Option gRs
  | 0, _, _, _, _, _ => none
  | m + 1, v1, v2, v3, I, L => (if v1 ≤ v3 then some ((-9 : Int32), I, L) else ((r_X8_power I L (nI 100) ((v1 - (nI 1)) - v3)).bind (fun z15 => (if ¬ z15.1 = 0 then ((r_X8_tryThing z15.2.1 z15.2.2 ((grem (v2 / z15.1) (nI 100)) / (nI 10)) (grem (grem (v2 / z15.1) (nI 100)) (nI 10))).bind (fun z17 => (if ¬ z17.1 = 0 then (r_X8_judge_23  m v1 v2 (v3 + (nI 1)) z17.2.1 z17.2.2) else some (v3, z17.2.1, z17.2.2)))) else none))))
set_option maxHeartbeats 4000000 in
set_option maxRecDepth 100000 in
theorem t_X8_judge_23 {n f g d : Nat} {Q : gP} {z : gRs}    : ∀ {m : Nat} {v1 : Int32} {v2 : Int32} {v3 : Int32} {I : Nat → Nat → Int32} {L : Nat → Nat → Int64}, r_X8_judge_23 m v1 v2 v3 I L = some z → Q (some (.int z.1)) (gKn n, gRf f g, z.2.1, z.2.2) → gW gM (d + 5) 0 0 k_X8_judge 23 [.ref 57, .int v1, .int v2, .int v3, .null] [] (gKn n, gRf f g, I, L) Q := by
  intro m
  induction m with
  | zero =>
    intro v1 v2 v3 I L hr _
    cases hr
  | succ m ih =>
    intro v1 v2 v3 I L hr hQ
    have hK23 : ∀ v1 v2 v3 I L, r_X8_judge_23 m v1 v2 v3 I L = some z → gW gM (d + 5) 0 0 k_X8_judge 23 [.ref 57, .int v1, .int v2, .int v3, .null] [] (gKn n, gRf f g, I, L) Q := fun v1 v2 v3 I L hr => ih hr hQ
    unfold r_X8_judge_23 at hr
    refine r_iload rfl rfl ?_
    refine r_iload rfl rfl ?_
    refine r_icmp_ge 51 rfl rfl (fun c14 => ?_) (fun c14 => ?_)
    · rw [if_pos c14] at hr
      refine r_const rfl (v := -9) (by decide) ?_
      refine r_iret rfl ?_
      cases hr
      exact hQ
    · rw [if_neg c14] at hr
      refine r_iload rfl rfl ?_
      refine r_const rfl (gcst 100) ?_
      refine r_iload rfl rfl ?_
      refine r_const rfl (gcst 1) ?_
      refine r_isub rfl ?_
      refine r_iload rfl rfl ?_
      refine r_isub rfl ?_
      obtain ⟨z15, hz15, hr⟩ := gbnd hr
      refine r_invs [.int (nI 100), .int ((v1 - (nI 1)) - v3)] rfl rfl rfl rfl (Nat.le_of_ble_eq_true rfl) ⟨rfl, rfl⟩ ?_
      refine s_X8_power  hz15 ?_
      show gW _ _ _ _ _ 34 [.ref 57, .int v1, .int v2, .int v3, .null] [.int z15.1, .int v2] (gKn n, gRf f g, z15.2.1, z15.2.2) _
      obtain ⟨b16, hr⟩ := gopt hr
      refine r_idiv rfl b16 ?_
      refine r_const rfl (gcst 100) ?_
      refine r_irem rfl (nI_ne0 (n := 100) (by decide) (by decide)) ?_
      refine r_istore [.ref 57, .int v1, .int v2, .int v3, .int (grem (v2 / z15.1) (nI 100))] rfl rfl (Nat.le_of_ble_eq_true rfl) rfl ?_
      refine r_aload rfl rfl ?_
      refine r_iload rfl rfl ?_
      refine r_const rfl (gcst 10) ?_
      refine r_idiv rfl (nI_ne0 (n := 10) (by decide) (by decide)) ?_
      refine r_iload rfl rfl ?_
      refine r_const rfl (gcst 10) ?_
      refine r_irem rfl (nI_ne0 (n := 10) (by decide) (by decide)) ?_
      obtain ⟨z17, hz17, hr⟩ := gbnd hr
      refine r_invv (a := 57) [.int ((grem (v2 / z15.1) (nI 100)) / (nI 10)), .int (grem (grem (v2 / z15.1) (nI 100)) (nI 10))] rfl rfl rfl rfl rfl (Nat.le_of_ble_eq_true rfl) ⟨rfl, rfl⟩ ?_
      refine s_X8_tryThing  hz17 ?_
      show gW _ _ _ _ _ 46 [.ref 57, .int v1, .int v2, .int v3, .int (grem (v2 / z15.1) (nI 100))] [.int z17.1] (gKn n, gRf f g, z17.2.1, z17.2.2) _
      refine r_if_ne 49 rfl rfl (fun c18 => ?_) (fun c18 => ?_)
      · rw [if_pos c18] at hr
        refine r_iinc (y := (v3 + (nI 1))) [.ref 57, .int v1, .int v2, .int (v3 + (nI 1)), .int (grem (v2 / z15.1) (nI 100))] rfl rfl rfl (ginc _ 1) rfl ?_
        refine r_goto 23 rfl rfl ?_
        refine gforget (ls := [.ref 57, .int v1, .int v2, .int (v3 + (nI 1)), .null]) ⟨(Or.inl rfl), ⟨(Or.inl rfl), ⟨(Or.inl rfl), ⟨(Or.inl rfl), ⟨(Or.inr (Or.inl ⟨rfl, _, rfl⟩)), trivial⟩⟩⟩⟩⟩ ?_
        exact hK23 _ _ _ _ _ hr
      · rw [if_neg c18] at hr
        refine r_iload rfl rfl ?_
        refine r_iret rfl ?_
        cases hr
        exact hQ
def r_X8_judge_17    (I : Nat → Nat → Int32) (L : Nat → Nat → Int64) : Option gRs := some ((-2 : Int32), I, L)
set_option maxHeartbeats 4000000 in
set_option maxRecDepth 100000 in
theorem t_X8_judge_17 {n f g d : Nat} {Q : gP} {z : gRs}     {I : Nat → Nat → Int32} {L : Nat → Nat → Int64} (hr : r_X8_judge_17 I L = some z) (hQ : Q (some (.int z.1)) (gKn n, gRf f g, z.2.1, z.2.2)) : gW gM (d + 5) 0 0 k_X8_judge 17 [.null, .null, .null, .null, .null] [] (gKn n, gRf f g, I, L) Q := by
  unfold r_X8_judge_17 at hr
  refine r_const rfl (v := -2) (by decide) ?_
  refine r_iret rfl ?_
  cases hr
  exact hQ
def r_X8_judge (I : Nat → Nat → Int32) (L : Nat → Nat → Int64) (a1 : Int32) (a2 : Int32) : Option gRs := (if (f_X8_in I L (Int32.toInt64 a1) (lN 1) (lN 4)) = 0 then (r_X8_judge_17 I L) else ((r_X8_power I L (nI 100) a1).bind (fun z20 => (if ¬ (f_X8_in z20.2.1 z20.2.2 (Int32.toInt64 a2) (lN 0) (Int32.toInt64 (z20.1 - (nI 1)))) = 0 then ((r_X8_layTrial z20.2.1 z20.2.2).bind (fun z22 => (r_X8_judge_23 100 a1 a2 (nI 0) z22.2.1 z22.2.2))) else (r_X8_judge_17 z20.2.1 z20.2.2)))))
set_option maxHeartbeats 4000000 in
set_option maxRecDepth 100000 in
theorem s_X8_judge {n f g d : Nat} {Q : gP} {I : Nat → Nat → Int32} {L : Nat → Nat → Int64} {a1 : Int32} {a2 : Int32} {z : gRs}  (hr : r_X8_judge I L a1 a2 = some z) (hQ : Q (some (.int z.1)) (gKn n, gRf f g, z.2.1, z.2.2)) : gR gM (d + 5) 160 [.ref 57, .int a1, .int a2] (gKn n, gRf f g, I, L) Q := by
  unfold r_X8_judge at hr
  show gW gM (d + 5) 0 0 k_X8_judge 0 [.ref 57, .int a1, .int a2, .null, .null] [] (gKn n, gRf f g, I, L) Q
  refine r_iload rfl rfl ?_
  refine r_i2l rfl ?_
  refine r_lconst (v := lN 1) rfl rfl ?_
  refine r_lconst (v := lN 4) rfl rfl ?_
  refine r_invs [.long (Int32.toInt64 a1), .long (lN 1), .long (lN 4)] rfl rfl rfl rfl (Nat.le_of_ble_eq_true rfl) ⟨rfl, rfl⟩ ?_
  refine s_X8_in  ?_
  show gW _ _ _ _ _ 5 [.ref 57, .int a1, .int a2, .null, .null] [.int (f_X8_in I L (Int32.toInt64 a1) (lN 1) (lN 4))] (gKn n, gRf f g, I, L) _
  refine r_if_eq 17 rfl rfl (fun c19 => ?_) (fun c19 => ?_)
  · rw [if_pos c19] at hr
    refine gforget (ls := [.null, .null, .null, .null, .null]) ⟨(Or.inr (Or.inr ⟨rfl, _, rfl⟩)), ⟨(Or.inr (Or.inl ⟨rfl, _, rfl⟩)), ⟨(Or.inr (Or.inl ⟨rfl, _, rfl⟩)), ⟨(Or.inl rfl), ⟨(Or.inl rfl), trivial⟩⟩⟩⟩⟩ ?_
    exact t_X8_judge_17  hr hQ
  · rw [if_neg c19] at hr
    refine r_iload rfl rfl ?_
    refine r_i2l rfl ?_
    refine r_lconst (v := lN 0) rfl rfl ?_
    refine r_const rfl (gcst 100) ?_
    refine r_iload rfl rfl ?_
    obtain ⟨z20, hz20, hr⟩ := gbnd hr
    refine r_invs [.int (nI 100), .int a1] rfl rfl rfl rfl (Nat.le_of_ble_eq_true rfl) ⟨rfl, rfl⟩ ?_
    refine s_X8_power  hz20 ?_
    show gW _ _ _ _ _ 12 [.ref 57, .int a1, .int a2, .null, .null] [.int z20.1, .long (lN 0), .long (Int32.toInt64 a2)] (gKn n, gRf f g, z20.2.1, z20.2.2) _
    refine r_const rfl (gcst 1) ?_
    refine r_isub rfl ?_
    refine r_i2l rfl ?_
    refine r_invs [.long (Int32.toInt64 a2), .long (lN 0), .long (Int32.toInt64 (z20.1 - (nI 1)))] rfl rfl rfl rfl (Nat.le_of_ble_eq_true rfl) ⟨rfl, rfl⟩ ?_
    refine s_X8_in  ?_
    show gW _ _ _ _ _ 16 [.ref 57, .int a1, .int a2, .null, .null] [.int (f_X8_in z20.2.1 z20.2.2 (Int32.toInt64 a2) (lN 0) (Int32.toInt64 (z20.1 - (nI 1))))] (gKn n, gRf f g, z20.2.1, z20.2.2) _
    refine r_if_ne 19 rfl rfl (fun c21 => ?_) (fun c21 => ?_)
    · rw [if_pos c21] at hr
      refine r_aload rfl rfl ?_
      obtain ⟨z22, hz22, hr⟩ := gbnd hr
      refine r_invv (a := 57) [] rfl rfl rfl rfl rfl (Nat.le_of_ble_eq_true rfl) ⟨rfl, rfl⟩ ?_
      refine s_X8_layTrial  hz22 ?_
      show gW _ _ _ _ _ 21 [.ref 57, .int a1, .int a2, .null, .null] [] (gKn n, gRf f g, z22.2.1, z22.2.2) _
      refine r_const rfl (gcst 0) ?_
      refine r_istore [.ref 57, .int a1, .int a2, .int (nI 0), .null] rfl rfl (Nat.le_of_ble_eq_true rfl) rfl ?_
      exact t_X8_judge_23  hr hQ
    · rw [if_neg c21] at hr
      refine gforget (ls := [.null, .null, .null, .null, .null]) ⟨(Or.inr (Or.inr ⟨rfl, _, rfl⟩)), ⟨(Or.inr (Or.inl ⟨rfl, _, rfl⟩)), ⟨(Or.inr (Or.inl ⟨rfl, _, rfl⟩)), ⟨(Or.inl rfl), ⟨(Or.inl rfl), trivial⟩⟩⟩⟩⟩ ?_
      exact t_X8_judge_17  hr hQ
def r_X8_hear_18    (I : Nat → Nat → Int32) (L : Nat → Nat → Int64) : Option gRs := some ((-2 : Int32), I, L)
set_option maxHeartbeats 4000000 in
set_option maxRecDepth 100000 in
theorem t_X8_hear_18 {n f g d : Nat} {Q : gP} {z : gRs}     {I : Nat → Nat → Int32} {L : Nat → Nat → Int64} (hr : r_X8_hear_18 I L = some z) (hQ : Q (some (.int z.1)) (gKn n, gRf f g, z.2.1, z.2.2)) : gW gM (d + 2) 0 0 k_X8_hear 18 [.null, .null, .null, .null] [] (gKn n, gRf f g, I, L) Q := by
  unfold r_X8_hear_18 at hr
  refine r_const rfl (v := -2) (by decide) ?_
  refine r_iret rfl ?_
  cases hr
  exact hQ
def r_X8_hear (I : Nat → Nat → Int32) (L : Nat → Nat → Int64) (a1 : Int32) (a2 : Int32) (a3 : Int32) : Option gRs := ((r_X8_isGate I L a2).bind (fun z17 => (if ¬ z17.1 = 0 then (if (f_X8_in z17.2.1 z17.2.2 (Int32.toInt64 a1) (lN 0) (lN 3)) = 0 then (r_X8_hear_18 z17.2.1 z17.2.2) else (if ¬ (f_X8_in z17.2.1 z17.2.2 (Int32.toInt64 a3) (lN 0) (lN 12)) = 0 then (if ¬ (z17.2.1 57 29) = (nI 6) then (if gvp (z17.2.1 57 29) 6 = true then (if gvp ((gu2 z17.2.1 71 (gx (z17.2.1 57 29)) a1) 57 29) 6 = true then (if gvp ((gu2 (gu2 z17.2.1 71 (gx (z17.2.1 57 29)) a1) 72 (gx ((gu2 z17.2.1 71 (gx (z17.2.1 57 29)) a1) 57 29)) a2) 57 29) 6 = true then some (((gu2 (gu2 (gu2 (gu2 z17.2.1 71 (gx (z17.2.1 57 29)) a1) 72 (gx ((gu2 z17.2.1 71 (gx (z17.2.1 57 29)) a1) 57 29)) a2) 73 (gx ((gu2 (gu2 z17.2.1 71 (gx (z17.2.1 57 29)) a1) 72 (gx ((gu2 z17.2.1 71 (gx (z17.2.1 57 29)) a1) 57 29)) a2) 57 29)) a3) 57 29 (((gu2 (gu2 (gu2 z17.2.1 71 (gx (z17.2.1 57 29)) a1) 72 (gx ((gu2 z17.2.1 71 (gx (z17.2.1 57 29)) a1) 57 29)) a2) 73 (gx ((gu2 (gu2 z17.2.1 71 (gx (z17.2.1 57 29)) a1) 72 (gx ((gu2 z17.2.1 71 (gx (z17.2.1 57 29)) a1) 57 29)) a2) 57 29)) a3) 57 29) + (nI 1))) 57 29), (gu2 (gu2 (gu2 (gu2 z17.2.1 71 (gx (z17.2.1 57 29)) a1) 72 (gx ((gu2 z17.2.1 71 (gx (z17.2.1 57 29)) a1) 57 29)) a2) 73 (gx ((gu2 (gu2 z17.2.1 71 (gx (z17.2.1 57 29)) a1) 72 (gx ((gu2 z17.2.1 71 (gx (z17.2.1 57 29)) a1) 57 29)) a2) 57 29)) a3) 57 29 (((gu2 (gu2 (gu2 z17.2.1 71 (gx (z17.2.1 57 29)) a1) 72 (gx ((gu2 z17.2.1 71 (gx (z17.2.1 57 29)) a1) 57 29)) a2) 73 (gx ((gu2 (gu2 z17.2.1 71 (gx (z17.2.1 57 29)) a1) 72 (gx ((gu2 z17.2.1 71 (gx (z17.2.1 57 29)) a1) 57 29)) a2) 57 29)) a3) 57 29) + (nI 1))), z17.2.2) else none) else none) else none) else some ((-4 : Int32), z17.2.1, z17.2.2)) else (r_X8_hear_18 z17.2.1 z17.2.2))) else some ((-1 : Int32), z17.2.1, z17.2.2))))
set_option maxHeartbeats 4000000 in
set_option maxRecDepth 100000 in
theorem s_X8_hear {n f g d : Nat} {Q : gP} {I : Nat → Nat → Int32} {L : Nat → Nat → Int64} {a1 : Int32} {a2 : Int32} {a3 : Int32} {z : gRs}  (hr : r_X8_hear I L a1 a2 a3 = some z) (hQ : Q (some (.int z.1)) (gKn n, gRf f g, z.2.1, z.2.2)) : gR gM (d + 2) 161 [.ref 57, .int a1, .int a2, .int a3] (gKn n, gRf f g, I, L) Q := by
  unfold r_X8_hear at hr
  show gW gM (d + 2) 0 0 k_X8_hear 0 [.ref 57, .int a1, .int a2, .int a3] [] (gKn n, gRf f g, I, L) Q
  refine r_aload rfl rfl ?_
  refine r_iload rfl rfl ?_
  obtain ⟨z17, hz17, hr⟩ := gbnd hr
  refine r_invv (a := 57) [.int a2] rfl rfl rfl rfl rfl (Nat.le_of_ble_eq_true rfl) ⟨rfl, rfl⟩ ?_
  refine s_X8_isGate  hz17 ?_
  show gW _ _ _ _ _ 3 [.ref 57, .int a1, .int a2, .int a3] [.int z17.1] (gKn n, gRf f g, z17.2.1, z17.2.2) _
  refine r_if_ne 6 rfl rfl (fun c18 => ?_) (fun c18 => ?_)
  · rw [if_pos c18] at hr
    refine r_iload rfl rfl ?_
    refine r_i2l rfl ?_
    refine r_lconst (v := lN 0) rfl rfl ?_
    refine r_lconst (v := lN 3) rfl rfl ?_
    refine r_invs [.long (Int32.toInt64 a1), .long (lN 0), .long (lN 3)] rfl rfl rfl rfl (Nat.le_of_ble_eq_true rfl) ⟨rfl, rfl⟩ ?_
    refine s_X8_in  ?_
    show gW _ _ _ _ _ 11 [.ref 57, .int a1, .int a2, .int a3] [.int (f_X8_in z17.2.1 z17.2.2 (Int32.toInt64 a1) (lN 0) (lN 3))] (gKn n, gRf f g, z17.2.1, z17.2.2) _
    refine r_if_eq 18 rfl rfl (fun c19 => ?_) (fun c19 => ?_)
    · rw [if_pos c19] at hr
      refine gforget (ls := [.null, .null, .null, .null]) ⟨(Or.inr (Or.inr ⟨rfl, _, rfl⟩)), ⟨(Or.inr (Or.inl ⟨rfl, _, rfl⟩)), ⟨(Or.inr (Or.inl ⟨rfl, _, rfl⟩)), ⟨(Or.inr (Or.inl ⟨rfl, _, rfl⟩)), trivial⟩⟩⟩⟩ ?_
      exact t_X8_hear_18  hr hQ
    · rw [if_neg c19] at hr
      refine r_iload rfl rfl ?_
      refine r_i2l rfl ?_
      refine r_lconst (v := lN 0) rfl rfl ?_
      refine r_lconst (v := lN 12) rfl rfl ?_
      refine r_invs [.long (Int32.toInt64 a3), .long (lN 0), .long (lN 12)] rfl rfl rfl rfl (Nat.le_of_ble_eq_true rfl) ⟨rfl, rfl⟩ ?_
      refine s_X8_in  ?_
      show gW _ _ _ _ _ 17 [.ref 57, .int a1, .int a2, .int a3] [.int (f_X8_in z17.2.1 z17.2.2 (Int32.toInt64 a3) (lN 0) (lN 12))] (gKn n, gRf f g, z17.2.1, z17.2.2) _
      refine r_if_ne 20 rfl rfl (fun c20 => ?_) (fun c20 => ?_)
      · rw [if_pos c20] at hr
        refine r_aload rfl rfl ?_
        refine r_getI (c := 8) (k := 29) rfl rfl ⟨rfl, rfl⟩ ?_
        refine r_const rfl (gcst 6) ?_
        refine r_icmp_ne 26 rfl rfl (fun c21 => ?_) (fun c21 => ?_)
        · rw [if_pos c21] at hr
          refine r_aload rfl rfl ?_
          refine r_getR (c := 8) (k := 30) (v := 71) rfl rfl ⟨rfl, rfl⟩ rfl ?_
          refine r_aload rfl rfl ?_
          refine r_getI (c := 8) (k := 29) rfl rfl ⟨rfl, rfl⟩ ?_
          refine r_iload rfl rfl ?_
          obtain ⟨b22, hr⟩ := gopt hr
          refine r_iastore (n := 6) rfl rfl (gvp_in b22) (by decide) ?_
          refine r_aload rfl rfl ?_
          refine r_getR (c := 8) (k := 31) (v := 72) rfl rfl ⟨rfl, rfl⟩ rfl ?_
          refine r_aload rfl rfl ?_
          refine r_getI (c := 8) (k := 29) rfl rfl ⟨rfl, rfl⟩ ?_
          refine r_iload rfl rfl ?_
          obtain ⟨b23, hr⟩ := gopt hr
          refine r_iastore (n := 6) rfl rfl (gvp_in b23) (by decide) ?_
          refine r_aload rfl rfl ?_
          refine r_getR (c := 8) (k := 32) (v := 73) rfl rfl ⟨rfl, rfl⟩ rfl ?_
          refine r_aload rfl rfl ?_
          refine r_getI (c := 8) (k := 29) rfl rfl ⟨rfl, rfl⟩ ?_
          refine r_iload rfl rfl ?_
          obtain ⟨b24, hr⟩ := gopt hr
          refine r_iastore (n := 6) rfl rfl (gvp_in b24) (by decide) ?_
          refine r_aload rfl rfl ?_
          refine r_dup rfl rfl ?_
          refine r_getI (c := 8) (k := 29) rfl rfl ⟨rfl, rfl⟩ ?_
          refine r_const rfl (gcst 1) ?_
          refine r_iadd rfl ?_
          refine r_putI (c := 8) (k := 29) rfl rfl ⟨rfl, rfl⟩ ?_
          refine r_aload rfl rfl ?_
          refine r_getI (c := 8) (k := 29) rfl rfl ⟨rfl, rfl⟩ ?_
          refine r_iret rfl ?_
          cases hr
          exact hQ
        · rw [if_neg c21] at hr
          refine r_const rfl (v := -4) (by decide) ?_
          refine r_iret rfl ?_
          cases hr
          exact hQ
      · rw [if_neg c20] at hr
        refine gforget (ls := [.null, .null, .null, .null]) ⟨(Or.inr (Or.inr ⟨rfl, _, rfl⟩)), ⟨(Or.inr (Or.inl ⟨rfl, _, rfl⟩)), ⟨(Or.inr (Or.inl ⟨rfl, _, rfl⟩)), ⟨(Or.inr (Or.inl ⟨rfl, _, rfl⟩)), trivial⟩⟩⟩⟩ ?_
        exact t_X8_hear_18  hr hQ
  · rw [if_neg c18] at hr
    refine r_const rfl (v := -1) (by decide) ?_
    refine r_iret rfl ?_
    cases hr
    exact hQ
def f_X8_unhear (I : Nat → Nat → Int32) (L : Nat → Nat → Int64)  : Int32 := (I 57 29)
def i_X8_unhear (I : Nat → Nat → Int32) (L : Nat → Nat → Int64)  : Nat → Nat → Int32 := (gu2 I 57 29 (nI 0))
set_option maxHeartbeats 4000000 in
set_option maxRecDepth 100000 in
theorem s_X8_unhear {n f g d : Nat} {Q : gP} {I : Nat → Nat → Int32} {L : Nat → Nat → Int64}   (hQ : Q (some (.int (f_X8_unhear I L ))) (gKn n, gRf f g, i_X8_unhear I L , L)) : gR gM (d + 0) 162 [.ref 57] (gKn n, gRf f g, I, L) Q := by
  unfold f_X8_unhear i_X8_unhear at hQ
  show gW gM (d + 0) 0 0 k_X8_unhear 0 [.ref 57, .null] [] (gKn n, gRf f g, I, L) Q
  refine r_aload rfl rfl ?_
  refine r_getI (c := 8) (k := 29) rfl rfl ⟨rfl, rfl⟩ ?_
  refine r_istore [.ref 57, .int (I 57 29)] rfl rfl (Nat.le_of_ble_eq_true rfl) rfl ?_
  refine r_aload rfl rfl ?_
  refine r_const rfl (gcst 0) ?_
  refine r_putI (c := 8) (k := 29) rfl rfl ⟨rfl, rfl⟩ ?_
  refine r_iload rfl rfl ?_
  refine r_iret rfl ?_
  first | exact hQ | simpa only [if_true] using hQ
def r_X8_weights_61  (K12 : Int32 → Int32 → Int32 → (Nat → Nat → Int32) → (Nat → Nat → Int64) → Option gRs) (K19 : Int32 → Int32 → Int32 → Int32 → Int32 → (Nat → Nat → Int32) → (Nat → Nat → Int64) → Option gRs) (v1 : Int32) (v2 : Int32) (v3 : Int32) (v5 : Int32) (s0 : Int32) (I : Nat → Nat → Int32) (L : Nat → Nat → Int64) : Option gRs := (K19 v1 v2 v3 s0 (v5 + (nI 1)) I L)
set_option maxHeartbeats 4000000 in
set_option maxRecDepth 100000 in
theorem t_X8_weights_61 {n f g d : Nat} {Q : gP} {z : gRs}   {K12 : Int32 → Int32 → Int32 → (Nat → Nat → Int32) → (Nat → Nat → Int64) → Option gRs} (hK12 : ∀ v1 v2 v3 I L, K12 v1 v2 v3 I L = some z → gW gM (d + 2) 0 0 k_X8_weights 12 [.ref 57, .int v1, .int v2, .int v3, .null, .null, .null] [] (gKn n, gRf f g, I, L) Q) {K19 : Int32 → Int32 → Int32 → Int32 → Int32 → (Nat → Nat → Int32) → (Nat → Nat → Int64) → Option gRs} (hK19 : ∀ v1 v2 v3 v4 v5 I L, K19 v1 v2 v3 v4 v5 I L = some z → gW gM (d + 2) 0 0 k_X8_weights 19 [.ref 57, .int v1, .int v2, .int v3, .int v4, .int v5, .null] [] (gKn n, gRf f g, I, L) Q) {v1 : Int32} {v2 : Int32} {v3 : Int32} {v5 : Int32} {s0 : Int32} {I : Nat → Nat → Int32} {L : Nat → Nat → Int64} (hr : r_X8_weights_61 K12 K19 v1 v2 v3 v5 s0 I L = some z) (hQ : Q (some (.int z.1)) (gKn n, gRf f g, z.2.1, z.2.2)) : gW gM (d + 2) 0 0 k_X8_weights 61 [.ref 57, .int v1, .int v2, .int v3, .null, .int v5, .null] [.int s0] (gKn n, gRf f g, I, L) Q := by
  unfold r_X8_weights_61 at hr
  refine r_istore [.ref 57, .int v1, .int v2, .int v3, .int s0, .int v5, .null] rfl rfl (Nat.le_of_ble_eq_true rfl) rfl ?_
  refine r_iinc (y := (v5 + (nI 1))) [.ref 57, .int v1, .int v2, .int v3, .int s0, .int (v5 + (nI 1)), .null] rfl rfl rfl (ginc _ 1) rfl ?_
  refine r_goto 19 rfl rfl ?_
  exact hK19 _ _ _ _ _ _ _ hr
def r_X8_weights_38  (K12 : Int32 → Int32 → Int32 → (Nat → Nat → Int32) → (Nat → Nat → Int64) → Option gRs) (K19 : Int32 → Int32 → Int32 → Int32 → Int32 → (Nat → Nat → Int32) → (Nat → Nat → Int64) → Option gRs) (v1 : Int32) (v2 : Int32) (v3 : Int32) (v4 : Int32) (v5 : Int32) (I : Nat → Nat → Int32) (L : Nat → Nat → Int64) : Option gRs := (if v4 = 0 then (r_X8_weights_61 K12 K19 v1 v2 v3 v5 (nI 0) I L) else (if (nI 0) = 0 then (r_X8_weights_61 K12 K19 v1 v2 v3 v5 (nI 1) I L) else (if gvp v5 6 = true then ((r_X8_toneOf I L (nI 0) (I 72 (gx v5)) v1 v3).bind (fun z40 => (if gvp v5 6 = true then (if ¬ z40.1 = (z40.2.1 73 (gx v5)) then (r_X8_weights_61 K12 K19 v1 v2 v3 v5 (nI 0) z40.2.1 z40.2.2) else (r_X8_weights_61 K12 K19 v1 v2 v3 v5 (nI 1) z40.2.1 z40.2.2)) else none))) else none)))
set_option maxHeartbeats 4000000 in
set_option maxRecDepth 100000 in
theorem t_X8_weights_38 {n f g d : Nat} {Q : gP} {z : gRs}   {K12 : Int32 → Int32 → Int32 → (Nat → Nat → Int32) → (Nat → Nat → Int64) → Option gRs} (hK12 : ∀ v1 v2 v3 I L, K12 v1 v2 v3 I L = some z → gW gM (d + 2) 0 0 k_X8_weights 12 [.ref 57, .int v1, .int v2, .int v3, .null, .null, .null] [] (gKn n, gRf f g, I, L) Q) {K19 : Int32 → Int32 → Int32 → Int32 → Int32 → (Nat → Nat → Int32) → (Nat → Nat → Int64) → Option gRs} (hK19 : ∀ v1 v2 v3 v4 v5 I L, K19 v1 v2 v3 v4 v5 I L = some z → gW gM (d + 2) 0 0 k_X8_weights 19 [.ref 57, .int v1, .int v2, .int v3, .int v4, .int v5, .null] [] (gKn n, gRf f g, I, L) Q) {v1 : Int32} {v2 : Int32} {v3 : Int32} {v4 : Int32} {v5 : Int32} {I : Nat → Nat → Int32} {L : Nat → Nat → Int64} (hr : r_X8_weights_38 K12 K19 v1 v2 v3 v4 v5 I L = some z) (hQ : Q (some (.int z.1)) (gKn n, gRf f g, z.2.1, z.2.2)) : gW gM (d + 2) 0 0 k_X8_weights 38 [.ref 57, .int v1, .int v2, .int v3, .int v4, .int v5, .null] [] (gKn n, gRf f g, I, L) Q := by
  unfold r_X8_weights_38 at hr
  refine r_const rfl (gcst 0) ?_
  refine r_istore [.ref 57, .int v1, .int v2, .int v3, .int v4, .int v5, .int (nI 0)] rfl rfl (Nat.le_of_ble_eq_true rfl) rfl ?_
  refine r_iload rfl rfl ?_
  refine r_if_eq 60 rfl rfl (fun c37 => ?_) (fun c37 => ?_)
  · rw [if_pos c37] at hr
    refine r_const rfl (gcst 0) ?_
    refine gforget (ls := [.ref 57, .int v1, .int v2, .int v3, .null, .int v5, .null]) ⟨(Or.inl rfl), ⟨(Or.inl rfl), ⟨(Or.inl rfl), ⟨(Or.inl rfl), ⟨(Or.inr (Or.inl ⟨rfl, _, rfl⟩)), ⟨(Or.inl rfl), ⟨(Or.inr (Or.inl ⟨rfl, _, rfl⟩)), trivial⟩⟩⟩⟩⟩⟩⟩ ?_
    exact t_X8_weights_61 hK12 hK19 hr hQ
  · rw [if_neg c37] at hr
    refine r_iload rfl rfl ?_
    refine r_if_eq 58 rfl rfl (fun c38 => ?_) (fun c38 => ?_)
    · rw [if_pos c38] at hr
      refine r_const rfl (gcst 1) ?_
      refine r_goto 61 rfl rfl ?_
      refine gforget (ls := [.ref 57, .int v1, .int v2, .int v3, .null, .int v5, .null]) ⟨(Or.inl rfl), ⟨(Or.inl rfl), ⟨(Or.inl rfl), ⟨(Or.inl rfl), ⟨(Or.inr (Or.inl ⟨rfl, _, rfl⟩)), ⟨(Or.inl rfl), ⟨(Or.inr (Or.inl ⟨rfl, _, rfl⟩)), trivial⟩⟩⟩⟩⟩⟩⟩ ?_
      exact t_X8_weights_61 hK12 hK19 hr hQ
    · rw [if_neg c38] at hr
      refine r_aload rfl rfl ?_
      refine r_const rfl (gcst 0) ?_
      refine r_aload rfl rfl ?_
      refine r_getR (c := 8) (k := 31) (v := 72) rfl rfl ⟨rfl, rfl⟩ rfl ?_
      refine r_iload rfl rfl ?_
      obtain ⟨b39, hr⟩ := gopt hr
      refine r_iaload (n := 6) rfl rfl (gvp_in b39) ?_
      refine r_iload rfl rfl ?_
      refine r_iload rfl rfl ?_
      obtain ⟨z40, hz40, hr⟩ := gbnd hr
      refine r_invv (a := 57) [.int (nI 0), .int (I 72 (gx v5)), .int v1, .int v3] rfl rfl rfl rfl rfl (Nat.le_of_ble_eq_true rfl) ⟨rfl, rfl⟩ ?_
      refine s_X8_toneOf  hz40 ?_
      show gW _ _ _ _ _ 53 [.ref 57, .int v1, .int v2, .int v3, .int v4, .int v5, .int (nI 0)] [.int z40.1] (gKn n, gRf f g, z40.2.1, z40.2.2) _
      refine r_aload rfl rfl ?_
      refine r_getR (c := 8) (k := 32) (v := 73) rfl rfl ⟨rfl, rfl⟩ rfl ?_
      refine r_iload rfl rfl ?_
      obtain ⟨b41, hr⟩ := gopt hr
      refine r_iaload (n := 6) rfl rfl (gvp_in b41) ?_
      refine r_icmp_ne 60 rfl rfl (fun c42 => ?_) (fun c42 => ?_)
      · rw [if_pos c42] at hr
        refine r_const rfl (gcst 0) ?_
        refine gforget (ls := [.ref 57, .int v1, .int v2, .int v3, .null, .int v5, .null]) ⟨(Or.inl rfl), ⟨(Or.inl rfl), ⟨(Or.inl rfl), ⟨(Or.inl rfl), ⟨(Or.inr (Or.inl ⟨rfl, _, rfl⟩)), ⟨(Or.inl rfl), ⟨(Or.inr (Or.inl ⟨rfl, _, rfl⟩)), trivial⟩⟩⟩⟩⟩⟩⟩ ?_
        exact t_X8_weights_61 hK12 hK19 hr hQ
      · rw [if_neg c42] at hr
        refine r_const rfl (gcst 1) ?_
        refine r_goto 61 rfl rfl ?_
        refine gforget (ls := [.ref 57, .int v1, .int v2, .int v3, .null, .int v5, .null]) ⟨(Or.inl rfl), ⟨(Or.inl rfl), ⟨(Or.inl rfl), ⟨(Or.inl rfl), ⟨(Or.inr (Or.inl ⟨rfl, _, rfl⟩)), ⟨(Or.inl rfl), ⟨(Or.inr (Or.inl ⟨rfl, _, rfl⟩)), trivial⟩⟩⟩⟩⟩⟩⟩ ?_
        exact t_X8_weights_61 hK12 hK19 hr hQ
def r_X8_weights_19  (K12 : Int32 → Int32 → Int32 → (Nat → Nat → Int32) → (Nat → Nat → Int64) → Option gRs) : Nat → Int32 → Int32 → Int32 → Int32 → Int32 → (Nat → Nat → Int32) → (Nat → Nat → Int64) → Option gRs
  | 0, _, _, _, _, _, _, _ => none
  | m + 1, v1, v2, v3, v4, v5, I, L => (if (I 57 29) ≤ v5 then (K12 v1 (v2 ||| (if v4 = 0 then (nI 0) else (gshl (nI 1) v3))) (v3 + (nI 1)) I L) else (if gvp v5 6 = true then (if ¬ (I 71 (gx v5)) = v1 then (r_X8_weights_38 K12 (r_X8_weights_19 K12 m) v1 v2 v3 v4 v5 I L) else (if gvp v5 6 = true then ((r_X8_isGate I L (I 72 (gx v5))).bind (fun z48 => (if z48.1 = 0 then (r_X8_weights_38 K12 (r_X8_weights_19 K12 m) v1 v2 v3 v4 v5 z48.2.1 z48.2.2) else (if v4 = 0 then (r_X8_weights_61 K12 (r_X8_weights_19 K12 m) v1 v2 v3 v5 (nI 0) z48.2.1 z48.2.2) else (if (nI 1) = 0 then (r_X8_weights_61 K12 (r_X8_weights_19 K12 m) v1 v2 v3 v5 (nI 1) z48.2.1 z48.2.2) else (if gvp v5 6 = true then ((r_X8_toneOf z48.2.1 z48.2.2 (nI 0) (z48.2.1 72 (gx v5)) v1 v3).bind (fun z53 => (if gvp v5 6 = true then (if ¬ z53.1 = (z53.2.1 73 (gx v5)) then (r_X8_weights_61 K12 (r_X8_weights_19 K12 m) v1 v2 v3 v5 (nI 0) z53.2.1 z53.2.2) else (r_X8_weights_61 K12 (r_X8_weights_19 K12 m) v1 v2 v3 v5 (nI 1) z53.2.1 z53.2.2)) else none))) else none)))))) else none)) else none))
set_option maxHeartbeats 4000000 in
set_option maxRecDepth 100000 in
theorem t_X8_weights_19 {n f g d : Nat} {Q : gP} {z : gRs}   {K12 : Int32 → Int32 → Int32 → (Nat → Nat → Int32) → (Nat → Nat → Int64) → Option gRs} (hK12 : ∀ v1 v2 v3 I L, K12 v1 v2 v3 I L = some z → gW gM (d + 2) 0 0 k_X8_weights 12 [.ref 57, .int v1, .int v2, .int v3, .null, .null, .null] [] (gKn n, gRf f g, I, L) Q) : ∀ {m : Nat} {v1 : Int32} {v2 : Int32} {v3 : Int32} {v4 : Int32} {v5 : Int32} {I : Nat → Nat → Int32} {L : Nat → Nat → Int64}, r_X8_weights_19 K12 m v1 v2 v3 v4 v5 I L = some z → Q (some (.int z.1)) (gKn n, gRf f g, z.2.1, z.2.2) → gW gM (d + 2) 0 0 k_X8_weights 19 [.ref 57, .int v1, .int v2, .int v3, .int v4, .int v5, .null] [] (gKn n, gRf f g, I, L) Q := by
  intro m
  induction m with
  | zero =>
    intro v1 v2 v3 v4 v5 I L hr _
    cases hr
  | succ m ih =>
    intro v1 v2 v3 v4 v5 I L hr hQ
    have hK19 : ∀ v1 v2 v3 v4 v5 I L, r_X8_weights_19 K12 m v1 v2 v3 v4 v5 I L = some z → gW gM (d + 2) 0 0 k_X8_weights 19 [.ref 57, .int v1, .int v2, .int v3, .int v4, .int v5, .null] [] (gKn n, gRf f g, I, L) Q := fun v1 v2 v3 v4 v5 I L hr => ih hr hQ
    unfold r_X8_weights_19 at hr
    refine r_iload rfl rfl ?_
    refine r_aload rfl rfl ?_
    refine r_getI (c := 8) (k := 29) rfl rfl ⟨rfl, rfl⟩ ?_
    refine r_icmp_ge 64 rfl rfl (fun c43 => ?_) (fun c43 => ?_)
    · rw [if_pos c43] at hr
      refine r_iload rfl rfl ?_
      refine r_iload rfl rfl ?_
      have j56 : gW gM (d + 2) 0 0 k_X8_weights 72 [.ref 57, .int v1, .int v2, .int v3, .int v4, .int v5, .null] [.int (if v4 = 0 then (nI 0) else (gshl (nI 1) v3)), .int v2] (gKn n, gRf f g, I, L) Q := by
        refine r_ior rfl ?_
        refine r_istore [.ref 57, .int v1, .int (v2 ||| (if v4 = 0 then (nI 0) else (gshl (nI 1) v3))), .int v3, .int v4, .int v5, .null] rfl rfl (Nat.le_of_ble_eq_true rfl) rfl ?_
        refine r_iinc (y := (v3 + (nI 1))) [.ref 57, .int v1, .int (v2 ||| (if v4 = 0 then (nI 0) else (gshl (nI 1) v3))), .int (v3 + (nI 1)), .int v4, .int v5, .null] rfl rfl rfl (ginc _ 1) rfl ?_
        refine r_goto 12 rfl rfl ?_
        refine gforget (ls := [.ref 57, .int v1, .int (v2 ||| (if v4 = 0 then (nI 0) else (gshl (nI 1) v3))), .int (v3 + (nI 1)), .null, .null, .null]) ⟨(Or.inl rfl), ⟨(Or.inl rfl), ⟨(Or.inl rfl), ⟨(Or.inl rfl), ⟨(Or.inr (Or.inl ⟨rfl, _, rfl⟩)), ⟨(Or.inr (Or.inl ⟨rfl, _, rfl⟩)), ⟨(Or.inl rfl), trivial⟩⟩⟩⟩⟩⟩⟩ ?_
        exact hK12 _ _ _ _ _ hr
      refine r_if_eq 71 rfl rfl (fun c44 => ?_) (fun c44 => ?_)
      · refine r_const rfl (gcst 0) ?_
        first | contradiction | simpa only [if_pos c44] using j56
      · refine r_const rfl (gcst 1) ?_
        refine r_iload rfl rfl ?_
        refine r_ishl rfl ?_
        refine r_goto 72 rfl rfl ?_
        first | contradiction | simpa only [if_neg c44] using j56
    · rw [if_neg c43] at hr
      refine r_aload rfl rfl ?_
      refine r_getR (c := 8) (k := 30) (v := 71) rfl rfl ⟨rfl, rfl⟩ rfl ?_
      refine r_iload rfl rfl ?_
      obtain ⟨b45, hr⟩ := gopt hr
      refine r_iaload (n := 6) rfl rfl (gvp_in b45) ?_
      refine r_iload rfl rfl ?_
      refine r_icmp_ne 38 rfl rfl (fun c46 => ?_) (fun c46 => ?_)
      · rw [if_pos c46] at hr
        exact t_X8_weights_38 hK12 hK19 hr hQ
      · rw [if_neg c46] at hr
        refine r_aload rfl rfl ?_
        refine r_aload rfl rfl ?_
        refine r_getR (c := 8) (k := 31) (v := 72) rfl rfl ⟨rfl, rfl⟩ rfl ?_
        refine r_iload rfl rfl ?_
        obtain ⟨b47, hr⟩ := gopt hr
        refine r_iaload (n := 6) rfl rfl (gvp_in b47) ?_
        obtain ⟨z48, hz48, hr⟩ := gbnd hr
        refine r_invv (a := 57) [.int (I 72 (gx v5))] rfl rfl rfl rfl rfl (Nat.le_of_ble_eq_true rfl) ⟨rfl, rfl⟩ ?_
        refine s_X8_isGate  hz48 ?_
        show gW _ _ _ _ _ 35 [.ref 57, .int v1, .int v2, .int v3, .int v4, .int v5, .null] [.int z48.1] (gKn n, gRf f g, z48.2.1, z48.2.2) _
        refine r_if_eq 38 rfl rfl (fun c49 => ?_) (fun c49 => ?_)
        · rw [if_pos c49] at hr
          exact t_X8_weights_38 hK12 hK19 hr hQ
        · rw [if_neg c49] at hr
          refine r_const rfl (gcst 1) ?_
          refine r_goto 39 rfl rfl ?_
          refine r_istore [.ref 57, .int v1, .int v2, .int v3, .int v4, .int v5, .int (nI 1)] rfl rfl (Nat.le_of_ble_eq_true rfl) rfl ?_
          refine r_iload rfl rfl ?_
          refine r_if_eq 60 rfl rfl (fun c50 => ?_) (fun c50 => ?_)
          · rw [if_pos c50] at hr
            refine r_const rfl (gcst 0) ?_
            refine gforget (ls := [.ref 57, .int v1, .int v2, .int v3, .null, .int v5, .null]) ⟨(Or.inl rfl), ⟨(Or.inl rfl), ⟨(Or.inl rfl), ⟨(Or.inl rfl), ⟨(Or.inr (Or.inl ⟨rfl, _, rfl⟩)), ⟨(Or.inl rfl), ⟨(Or.inr (Or.inl ⟨rfl, _, rfl⟩)), trivial⟩⟩⟩⟩⟩⟩⟩ ?_
            exact t_X8_weights_61 hK12 hK19 hr hQ
          · rw [if_neg c50] at hr
            refine r_iload rfl rfl ?_
            refine r_if_eq 58 rfl rfl (fun c51 => ?_) (fun c51 => ?_)
            · rw [if_pos c51] at hr
              refine r_const rfl (gcst 1) ?_
              refine r_goto 61 rfl rfl ?_
              refine gforget (ls := [.ref 57, .int v1, .int v2, .int v3, .null, .int v5, .null]) ⟨(Or.inl rfl), ⟨(Or.inl rfl), ⟨(Or.inl rfl), ⟨(Or.inl rfl), ⟨(Or.inr (Or.inl ⟨rfl, _, rfl⟩)), ⟨(Or.inl rfl), ⟨(Or.inr (Or.inl ⟨rfl, _, rfl⟩)), trivial⟩⟩⟩⟩⟩⟩⟩ ?_
              exact t_X8_weights_61 hK12 hK19 hr hQ
            · rw [if_neg c51] at hr
              refine r_aload rfl rfl ?_
              refine r_const rfl (gcst 0) ?_
              refine r_aload rfl rfl ?_
              refine r_getR (c := 8) (k := 31) (v := 72) rfl rfl ⟨rfl, rfl⟩ rfl ?_
              refine r_iload rfl rfl ?_
              obtain ⟨b52, hr⟩ := gopt hr
              refine r_iaload (n := 6) rfl rfl (gvp_in b52) ?_
              refine r_iload rfl rfl ?_
              refine r_iload rfl rfl ?_
              obtain ⟨z53, hz53, hr⟩ := gbnd hr
              refine r_invv (a := 57) [.int (nI 0), .int (z48.2.1 72 (gx v5)), .int v1, .int v3] rfl rfl rfl rfl rfl (Nat.le_of_ble_eq_true rfl) ⟨rfl, rfl⟩ ?_
              refine s_X8_toneOf  hz53 ?_
              show gW _ _ _ _ _ 53 [.ref 57, .int v1, .int v2, .int v3, .int v4, .int v5, .int (nI 1)] [.int z53.1] (gKn n, gRf f g, z53.2.1, z53.2.2) _
              refine r_aload rfl rfl ?_
              refine r_getR (c := 8) (k := 32) (v := 73) rfl rfl ⟨rfl, rfl⟩ rfl ?_
              refine r_iload rfl rfl ?_
              obtain ⟨b54, hr⟩ := gopt hr
              refine r_iaload (n := 6) rfl rfl (gvp_in b54) ?_
              refine r_icmp_ne 60 rfl rfl (fun c55 => ?_) (fun c55 => ?_)
              · rw [if_pos c55] at hr
                refine r_const rfl (gcst 0) ?_
                refine gforget (ls := [.ref 57, .int v1, .int v2, .int v3, .null, .int v5, .null]) ⟨(Or.inl rfl), ⟨(Or.inl rfl), ⟨(Or.inl rfl), ⟨(Or.inl rfl), ⟨(Or.inr (Or.inl ⟨rfl, _, rfl⟩)), ⟨(Or.inl rfl), ⟨(Or.inr (Or.inl ⟨rfl, _, rfl⟩)), trivial⟩⟩⟩⟩⟩⟩⟩ ?_
                exact t_X8_weights_61 hK12 hK19 hr hQ
              · rw [if_neg c55] at hr
                refine r_const rfl (gcst 1) ?_
                refine r_goto 61 rfl rfl ?_
                refine gforget (ls := [.ref 57, .int v1, .int v2, .int v3, .null, .int v5, .null]) ⟨(Or.inl rfl), ⟨(Or.inl rfl), ⟨(Or.inl rfl), ⟨(Or.inl rfl), ⟨(Or.inr (Or.inl ⟨rfl, _, rfl⟩)), ⟨(Or.inl rfl), ⟨(Or.inr (Or.inl ⟨rfl, _, rfl⟩)), trivial⟩⟩⟩⟩⟩⟩⟩ ?_
                exact t_X8_weights_61 hK12 hK19 hr hQ
def r_X8_weights_12   : Nat → Int32 → Int32 → Int32 → (Nat → Nat → Int32) → (Nat → Nat → Int64) → Option gRs
  | 0, _, _, _, _, _ => none
  | m + 1, v1, v2, v3, I, L => (if (nI 10) ≤ v3 then some (v2, I, L) else (r_X8_weights_19 (r_X8_weights_12  m) 100 v1 v2 v3 (nI 1) (nI 0) I L))
set_option maxHeartbeats 4000000 in
set_option maxRecDepth 100000 in
theorem t_X8_weights_12 {n f g d : Nat} {Q : gP} {z : gRs}    : ∀ {m : Nat} {v1 : Int32} {v2 : Int32} {v3 : Int32} {I : Nat → Nat → Int32} {L : Nat → Nat → Int64}, r_X8_weights_12 m v1 v2 v3 I L = some z → Q (some (.int z.1)) (gKn n, gRf f g, z.2.1, z.2.2) → gW gM (d + 2) 0 0 k_X8_weights 12 [.ref 57, .int v1, .int v2, .int v3, .null, .null, .null] [] (gKn n, gRf f g, I, L) Q := by
  intro m
  induction m with
  | zero =>
    intro v1 v2 v3 I L hr _
    cases hr
  | succ m ih =>
    intro v1 v2 v3 I L hr hQ
    have hK12 : ∀ v1 v2 v3 I L, r_X8_weights_12 m v1 v2 v3 I L = some z → gW gM (d + 2) 0 0 k_X8_weights 12 [.ref 57, .int v1, .int v2, .int v3, .null, .null, .null] [] (gKn n, gRf f g, I, L) Q := fun v1 v2 v3 I L hr => ih hr hQ
    unfold r_X8_weights_12 at hr
    refine r_iload rfl rfl ?_
    refine r_const rfl (gcst 10) ?_
    refine r_icmp_ge 76 rfl rfl (fun c57 => ?_) (fun c57 => ?_)
    · rw [if_pos c57] at hr
      refine r_iload rfl rfl ?_
      refine r_iret rfl ?_
      cases hr
      exact hQ
    · rw [if_neg c57] at hr
      refine r_const rfl (gcst 1) ?_
      refine r_istore [.ref 57, .int v1, .int v2, .int v3, .int (nI 1), .null, .null] rfl rfl (Nat.le_of_ble_eq_true rfl) rfl ?_
      refine r_const rfl (gcst 0) ?_
      refine r_istore [.ref 57, .int v1, .int v2, .int v3, .int (nI 1), .int (nI 0), .null] rfl rfl (Nat.le_of_ble_eq_true rfl) rfl ?_
      exact t_X8_weights_19 hK12 hr hQ
def r_X8_weights (I : Nat → Nat → Int32) (L : Nat → Nat → Int64) (a1 : Int32) : Option gRs := (if ¬ (f_X8_in I L (Int32.toInt64 a1) (lN 0) (lN 3)) = 0 then (r_X8_weights_12 100 a1 (nI 0) (nI 1) I L) else some ((-2 : Int32), I, L))
set_option maxHeartbeats 4000000 in
set_option maxRecDepth 100000 in
theorem s_X8_weights {n f g d : Nat} {Q : gP} {I : Nat → Nat → Int32} {L : Nat → Nat → Int64} {a1 : Int32} {z : gRs}  (hr : r_X8_weights I L a1 = some z) (hQ : Q (some (.int z.1)) (gKn n, gRf f g, z.2.1, z.2.2)) : gR gM (d + 2) 163 [.ref 57, .int a1] (gKn n, gRf f g, I, L) Q := by
  unfold r_X8_weights at hr
  show gW gM (d + 2) 0 0 k_X8_weights 0 [.ref 57, .int a1, .null, .null, .null, .null, .null] [] (gKn n, gRf f g, I, L) Q
  refine r_iload rfl rfl ?_
  refine r_i2l rfl ?_
  refine r_lconst (v := lN 0) rfl rfl ?_
  refine r_lconst (v := lN 3) rfl rfl ?_
  refine r_invs [.long (Int32.toInt64 a1), .long (lN 0), .long (lN 3)] rfl rfl rfl rfl (Nat.le_of_ble_eq_true rfl) ⟨rfl, rfl⟩ ?_
  refine s_X8_in  ?_
  show gW _ _ _ _ _ 5 [.ref 57, .int a1, .null, .null, .null, .null, .null] [.int (f_X8_in I L (Int32.toInt64 a1) (lN 0) (lN 3))] (gKn n, gRf f g, I, L) _
  refine r_if_ne 8 rfl rfl (fun c58 => ?_) (fun c58 => ?_)
  · rw [if_pos c58] at hr
    refine r_const rfl (gcst 0) ?_
    refine r_istore [.ref 57, .int a1, .int (nI 0), .null, .null, .null, .null] rfl rfl (Nat.le_of_ble_eq_true rfl) rfl ?_
    refine r_const rfl (gcst 1) ?_
    refine r_istore [.ref 57, .int a1, .int (nI 0), .int (nI 1), .null, .null, .null] rfl rfl (Nat.le_of_ble_eq_true rfl) rfl ?_
    exact t_X8_weights_12  hr hQ
  · rw [if_neg c58] at hr
    refine r_const rfl (v := -2) (by decide) ?_
    refine r_iret rfl ?_
    cases hr
    exact hQ
