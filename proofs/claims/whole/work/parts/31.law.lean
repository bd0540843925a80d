/-! THE LAW: its cases as functions of the state; where a case ends it goes on at K (the loop's head) -/
def r_L_law_22 (n f g : Nat) (K10 : Int32 → (Nat → Nat → Int32) → (Nat → Nat → Int64) → Option gRs) (v3 : Int32) (I : Nat → Nat → Int32) (L : Nat → Nat → Int64) : Option gRs := (if gvp (v3 + (nI 1)) n = true then ((r_X7_write f g I L (I 1 (gx (v3 + (nI 1))))).bind (fun z2 => (if gvp (v3 + (nI 1)) n = true then ((r_X8_write z2.2.1 z2.2.2 (z2.2.1 1 (gx (v3 + (nI 1))))).bind (fun z4 => (if z2.1 = z4.1 then (K10 (v3 + (nI 6)) z4.2.1 z4.2.2) else some ((nI 0), z4.2.1, z4.2.2)))) else none))) else none)
set_option maxHeartbeats 4000000 in
set_option maxRecDepth 100000 in
theorem t_L_law_22 {n f g d : Nat} {Q : gP} {z : gRs} (hw : gfw f g) {K10 : Int32 → (Nat → Nat → Int32) → (Nat → Nat → Int64) → Option gRs} (hK10 : ∀ v3 I L, K10 v3 I L = some z → gW gM (d + 11) 0 0 k_L_law 10 [.ref 1, .ref 2, .ref 57, .int v3] [] (gKn n, gRf f g, I, L) Q) {v3 : Int32} {I : Nat → Nat → Int32} {L : Nat → Nat → Int64} (hr : r_L_law_22 n f g K10 v3 I L = some z) (hQ : Q (some (.int z.1)) (gKn n, gRf f g, z.2.1, z.2.2)) : gW gM (d + 11) 0 0 k_L_law 22 [.ref 1, .ref 2, .ref 57, .int v3] [] (gKn n, gRf f g, I, L) Q := by
  have hfe := hw.f
  have hfd := hw.g
  unfold r_L_law_22 at hr
  refine r_aload rfl rfl ?_
  refine r_aload rfl rfl ?_
  refine r_iload rfl rfl ?_
  refine r_const rfl (gcst 1) ?_
  refine r_iadd rfl ?_
  obtain ⟨b1, hr⟩ := gopt hr
  refine r_iaload (n := n) rfl rfl (gvp_in b1) ?_
  obtain ⟨z2, hz2, hr⟩ := gbnd hr
  refine r_invv (a := 2) [.int (I 1 (gx (v3 + (nI 1))))] rfl rfl rfl rfl rfl (Nat.le_of_ble_eq_true rfl) ⟨rfl, rfl⟩ ?_
  refine s_X7_write hw  hz2 ?_
  show gW _ _ _ _ _ 29 [.ref 1, .ref 2, .ref 57, .int v3] [.int z2.1] (gKn n, gRf f g, z2.2.1, z2.2.2) _
  refine r_aload rfl rfl ?_
  refine r_aload rfl rfl ?_
  refine r_iload rfl rfl ?_
  refine r_const rfl (gcst 1) ?_
  refine r_iadd rfl ?_
  obtain ⟨b3, hr⟩ := gopt hr
  refine r_iaload (n := n) rfl rfl (gvp_in b3) ?_
  obtain ⟨z4, hz4, hr⟩ := gbnd hr
  refine r_invv (a := 57) [.int (z2.2.1 1 (gx (v3 + (nI 1))))] rfl rfl rfl rfl rfl (Nat.le_of_ble_eq_true rfl) ⟨rfl, rfl⟩ ?_
  refine s_X8_write  hz4 ?_
  show gW _ _ _ _ _ 36 [.ref 1, .ref 2, .ref 57, .int v3] [.int z4.1, .int z2.1] (gKn n, gRf f g, z4.2.1, z4.2.2) _
  refine r_icmp_eq 837 rfl rfl (fun c5 => ?_) (fun c5 => ?_)
  · rw [if_pos c5] at hr
    refine r_iinc (y := (v3 + (nI 6))) [.ref 1, .ref 2, .ref 57, .int (v3 + (nI 6))] rfl rfl rfl (ginc _ 6) rfl ?_
    refine r_goto 10 rfl rfl ?_
    exact hK10 _ _ _ hr
  · rw [if_neg c5] at hr
    refine r_const rfl (gcst 0) ?_
    refine r_zret rfl (Or.inl rfl) ?_
    cases hr
    exact hQ
def r_L_law_39 (n f g : Nat) (K10 : Int32 → (Nat → Nat → Int32) → (Nat → Nat → Int64) → Option gRs) (v3 : Int32) (I : Nat → Nat → Int32) (L : Nat → Nat → Int64) : Option gRs := (if (f_X7_wipe f g I L) = (f_X8_wipe (i_X7_wipe f g I L) L) then (K10 (v3 + (nI 6)) (i_X8_wipe (i_X7_wipe f g I L) L) L) else some ((nI 0), (i_X8_wipe (i_X7_wipe f g I L) L), L))
set_option maxHeartbeats 4000000 in
set_option maxRecDepth 100000 in
theorem t_L_law_39 {n f g d : Nat} {Q : gP} {z : gRs} (hw : gfw f g) {K10 : Int32 → (Nat → Nat → Int32) → (Nat → Nat → Int64) → Option gRs} (hK10 : ∀ v3 I L, K10 v3 I L = some z → gW gM (d + 11) 0 0 k_L_law 10 [.ref 1, .ref 2, .ref 57, .int v3] [] (gKn n, gRf f g, I, L) Q) {v3 : Int32} {I : Nat → Nat → Int32} {L : Nat → Nat → Int64} (hr : r_L_law_39 n f g K10 v3 I L = some z) (hQ : Q (some (.int z.1)) (gKn n, gRf f g, z.2.1, z.2.2)) : gW gM (d + 11) 0 0 k_L_law 39 [.ref 1, .ref 2, .ref 57, .int v3] [] (gKn n, gRf f g, I, L) Q := by
  have hfe := hw.f
  have hfd := hw.g
  unfold r_L_law_39 at hr
  refine r_aload rfl rfl ?_
  refine r_invv (a := 2) [] rfl rfl rfl rfl rfl (Nat.le_of_ble_eq_true rfl) ⟨rfl, rfl⟩ ?_
  refine s_X7_wipe hw  ?_
  show gW _ _ _ _ _ 41 [.ref 1, .ref 2, .ref 57, .int v3] [.int (f_X7_wipe f g I L)] (gKn n, gRf f g, (i_X7_wipe f g I L), L) _
  refine r_aload rfl rfl ?_
  refine r_invv (a := 57) [] rfl rfl rfl rfl rfl (Nat.le_of_ble_eq_true rfl) ⟨rfl, rfl⟩ ?_
  refine s_X8_wipe  ?_
  show gW _ _ _ _ _ 43 [.ref 1, .ref 2, .ref 57, .int v3] [.int (f_X8_wipe (i_X7_wipe f g I L) L), .int (f_X7_wipe f g I L)] (gKn n, gRf f g, (i_X8_wipe (i_X7_wipe f g I L) L), L) _
  refine r_icmp_eq 837 rfl rfl (fun c6 => ?_) (fun c6 => ?_)
  · rw [if_pos c6] at hr
    refine r_iinc (y := (v3 + (nI 6))) [.ref 1, .ref 2, .ref 57, .int (v3 + (nI 6))] rfl rfl rfl (ginc _ 6) rfl ?_
    refine r_goto 10 rfl rfl ?_
    exact hK10 _ _ _ hr
  · rw [if_neg c6] at hr
    refine r_const rfl (gcst 0) ?_
    refine r_zret rfl (Or.inl rfl) ?_
    cases hr
    exact hQ
def r_L_law_46 (n f g : Nat) (K10 : Int32 → (Nat → Nat → Int32) → (Nat → Nat → Int64) → Option gRs) (v3 : Int32) (I : Nat → Nat → Int32) (L : Nat → Nat → Int64) : Option gRs := ((r_X7_fault f g I L).bind (fun z7 => ((r_X8_fault z7.2.1 z7.2.2).bind (fun z8 => (if z7.1 = z8.1 then (K10 (v3 + (nI 6)) z8.2.1 z8.2.2) else some ((nI 0), z8.2.1, z8.2.2))))))
set_option maxHeartbeats 4000000 in
set_option maxRecDepth 100000 in
theorem t_L_law_46 {n f g d : Nat} {Q : gP} {z : gRs} (hw : gfw f g) {K10 : Int32 → (Nat → Nat → Int32) → (Nat → Nat → Int64) → Option gRs} (hK10 : ∀ v3 I L, K10 v3 I L = some z → gW gM (d + 11) 0 0 k_L_law 10 [.ref 1, .ref 2, .ref 57, .int v3] [] (gKn n, gRf f g, I, L) Q) {v3 : Int32} {I : Nat → Nat → Int32} {L : Nat → Nat → Int64} (hr : r_L_law_46 n f g K10 v3 I L = some z) (hQ : Q (some (.int z.1)) (gKn n, gRf f g, z.2.1, z.2.2)) : gW gM (d + 11) 0 0 k_L_law 46 [.ref 1, .ref 2, .ref 57, .int v3] [] (gKn n, gRf f g, I, L) Q := by
  have hfe := hw.f
  have hfd := hw.g
  unfold r_L_law_46 at hr
  refine r_aload rfl rfl ?_
  obtain ⟨z7, hz7, hr⟩ := gbnd hr
  refine r_invv (a := 2) [] rfl rfl rfl rfl rfl (Nat.le_of_ble_eq_true rfl) ⟨rfl, rfl⟩ ?_
  refine s_X7_fault hw  hz7 ?_
  show gW _ _ _ _ _ 48 [.ref 1, .ref 2, .ref 57, .int v3] [.int z7.1] (gKn n, gRf f g, z7.2.1, z7.2.2) _
  refine r_aload rfl rfl ?_
  obtain ⟨z8, hz8, hr⟩ := gbnd hr
  refine r_invv (a := 57) [] rfl rfl rfl rfl rfl (Nat.le_of_ble_eq_true rfl) ⟨rfl, rfl⟩ ?_
  refine s_X8_fault  hz8 ?_
  show gW _ _ _ _ _ 50 [.ref 1, .ref 2, .ref 57, .int v3] [.int z8.1, .int z7.1] (gKn n, gRf f g, z8.2.1, z8.2.2) _
  refine r_icmp_eq 837 rfl rfl (fun c9 => ?_) (fun c9 => ?_)
  · rw [if_pos c9] at hr
    refine r_iinc (y := (v3 + (nI 6))) [.ref 1, .ref 2, .ref 57, .int (v3 + (nI 6))] rfl rfl rfl (ginc _ 6) rfl ?_
    refine r_goto 10 rfl rfl ?_
    exact hK10 _ _ _ hr
  · rw [if_neg c9] at hr
    refine r_const rfl (gcst 0) ?_
    refine r_zret rfl (Or.inl rfl) ?_
    cases hr
    exact hQ
def r_L_law_60 (n f g : Nat) (K10 : Int32 → (Nat → Nat → Int32) → (Nat → Nat → Int64) → Option gRs) (v3 : Int32) (I : Nat → Nat → Int32) (L : Nat → Nat → Int64) : Option gRs := (if gvp (v3 + (nI 1)) n = true then (if gvp (v3 + (nI 2)) n = true then ((r_X7_gate f g I L (I 1 (gx (v3 + (nI 1)))) (I 1 (gx (v3 + (nI 2))))).bind (fun z12 => (if gvp (v3 + (nI 1)) n = true then (if gvp (v3 + (nI 2)) n = true then ((r_X8_gate z12.2.1 z12.2.2 (z12.2.1 1 (gx (v3 + (nI 1)))) (z12.2.1 1 (gx (v3 + (nI 2))))).bind (fun z15 => (if z12.1 = z15.1 then (K10 (v3 + (nI 6)) z15.2.1 z15.2.2) else some ((nI 0), z15.2.1, z15.2.2)))) else none) else none))) else none) else none)
set_option maxHeartbeats 4000000 in
set_option maxRecDepth 100000 in
theorem t_L_law_60 {n f g d : Nat} {Q : gP} {z : gRs} (hw : gfw f g) {K10 : Int32 → (Nat → Nat → Int32) → (Nat → Nat → Int64) → Option gRs} (hK10 : ∀ v3 I L, K10 v3 I L = some z → gW gM (d + 11) 0 0 k_L_law 10 [.ref 1, .ref 2, .ref 57, .int v3] [] (gKn n, gRf f g, I, L) Q) {v3 : Int32} {I : Nat → Nat → Int32} {L : Nat → Nat → Int64} (hr : r_L_law_60 n f g K10 v3 I L = some z) (hQ : Q (some (.int z.1)) (gKn n, gRf f g, z.2.1, z.2.2)) : gW gM (d + 11) 0 0 k_L_law 60 [.ref 1, .ref 2, .ref 57, .int v3] [] (gKn n, gRf f g, I, L) Q := by
  have hfe := hw.f
  have hfd := hw.g
  unfold r_L_law_60 at hr
  refine r_aload rfl rfl ?_
  refine r_aload rfl rfl ?_
  refine r_iload rfl rfl ?_
  refine r_const rfl (gcst 1) ?_
  refine r_iadd rfl ?_
  obtain ⟨b10, hr⟩ := gopt hr
  refine r_iaload (n := n) rfl rfl (gvp_in b10) ?_
  refine r_aload rfl rfl ?_
  refine r_iload rfl rfl ?_
  refine r_const rfl (gcst 2) ?_
  refine r_iadd rfl ?_
  obtain ⟨b11, hr⟩ := gopt hr
  refine r_iaload (n := n) rfl rfl (gvp_in b11) ?_
  obtain ⟨z12, hz12, hr⟩ := gbnd hr
  refine r_invv (a := 2) [.int (I 1 (gx (v3 + (nI 1)))), .int (I 1 (gx (v3 + (nI 2))))] rfl rfl rfl rfl rfl (Nat.le_of_ble_eq_true rfl) ⟨rfl, rfl⟩ ?_
  refine s_X7_gate hw  hz12 ?_
  show gW _ _ _ _ _ 72 [.ref 1, .ref 2, .ref 57, .int v3] [.int z12.1] (gKn n, gRf f g, z12.2.1, z12.2.2) _
  refine r_aload rfl rfl ?_
  refine r_aload rfl rfl ?_
  refine r_iload rfl rfl ?_
  refine r_const rfl (gcst 1) ?_
  refine r_iadd rfl ?_
  obtain ⟨b13, hr⟩ := gopt hr
  refine r_iaload (n := n) rfl rfl (gvp_in b13) ?_
  refine r_aload rfl rfl ?_
  refine r_iload rfl rfl ?_
  refine r_const rfl (gcst 2) ?_
  refine r_iadd rfl ?_
  obtain ⟨b14, hr⟩ := gopt hr
  refine r_iaload (n := n) rfl rfl (gvp_in b14) ?_
  obtain ⟨z15, hz15, hr⟩ := gbnd hr
  refine r_invv (a := 57) [.int (z12.2.1 1 (gx (v3 + (nI 1)))), .int (z12.2.1 1 (gx (v3 + (nI 2))))] rfl rfl rfl rfl rfl (Nat.le_of_ble_eq_true rfl) ⟨rfl, rfl⟩ ?_
  refine s_X8_gate  hz15 ?_
  show gW _ _ _ _ _ 84 [.ref 1, .ref 2, .ref 57, .int v3] [.int z15.1, .int z12.1] (gKn n, gRf f g, z15.2.1, z15.2.2) _
  refine r_icmp_eq 837 rfl rfl (fun c16 => ?_) (fun c16 => ?_)
  · rw [if_pos c16] at hr
    refine r_iinc (y := (v3 + (nI 6))) [.ref 1, .ref 2, .ref 57, .int (v3 + (nI 6))] rfl rfl rfl (ginc _ 6) rfl ?_
    refine r_goto 10 rfl rfl ?_
    exact hK10 _ _ _ hr
  · rw [if_neg c16] at hr
    refine r_const rfl (gcst 0) ?_
    refine r_zret rfl (Or.inl rfl) ?_
    cases hr
    exact hQ
def r_L_law_87 (n f g : Nat) (K10 : Int32 → (Nat → Nat → Int32) → (Nat → Nat → Int64) → Option gRs) (v3 : Int32) (I : Nat → Nat → Int32) (L : Nat → Nat → Int64) : Option gRs := (if gvp (v3 + (nI 1)) n = true then (if gvp (v3 + (nI 2)) n = true then ((r_X7_beast f g I L (I 1 (gx (v3 + (nI 1)))) (I 1 (gx (v3 + (nI 2))))).bind (fun z19 => (if gvp (v3 + (nI 1)) n = true then (if gvp (v3 + (nI 2)) n = true then ((r_X8_beast z19.2.1 z19.2.2 (z19.2.1 1 (gx (v3 + (nI 1)))) (z19.2.1 1 (gx (v3 + (nI 2))))).bind (fun z22 => (if z19.1 = z22.1 then (K10 (v3 + (nI 6)) z22.2.1 z22.2.2) else some ((nI 0), z22.2.1, z22.2.2)))) else none) else none))) else none) else none)
set_option maxHeartbeats 4000000 in
set_option maxRecDepth 100000 in
theorem t_L_law_87 {n f g d : Nat} {Q : gP} {z : gRs} (hw : gfw f g) {K10 : Int32 → (Nat → Nat → Int32) → (Nat → Nat → Int64) → Option gRs} (hK10 : ∀ v3 I L, K10 v3 I L = some z → gW gM (d + 11) 0 0 k_L_law 10 [.ref 1, .ref 2, .ref 57, .int v3] [] (gKn n, gRf f g, I, L) Q) {v3 : Int32} {I : Nat → Nat → Int32} {L : Nat → Nat → Int64} (hr : r_L_law_87 n f g K10 v3 I L = some z) (hQ : Q (some (.int z.1)) (gKn n, gRf f g, z.2.1, z.2.2)) : gW gM (d + 11) 0 0 k_L_law 87 [.ref 1, .ref 2, .ref 57, .int v3] [] (gKn n, gRf f g, I, L) Q := by
  have hfe := hw.f
  have hfd := hw.g
  unfold r_L_law_87 at hr
  refine r_aload rfl rfl ?_
  refine r_aload rfl rfl ?_
  refine r_iload rfl rfl ?_
  refine r_const rfl (gcst 1) ?_
  refine r_iadd rfl ?_
  obtain ⟨b17, hr⟩ := gopt hr
  refine r_iaload (n := n) rfl rfl (gvp_in b17) ?_
  refine r_aload rfl rfl ?_
  refine r_iload rfl rfl ?_
  refine r_const rfl (gcst 2) ?_
  refine r_iadd rfl ?_
  obtain ⟨b18, hr⟩ := gopt hr
  refine r_iaload (n := n) rfl rfl (gvp_in b18) ?_
  obtain ⟨z19, hz19, hr⟩ := gbnd hr
  refine r_invv (a := 2) [.int (I 1 (gx (v3 + (nI 1)))), .int (I 1 (gx (v3 + (nI 2))))] rfl rfl rfl rfl rfl (Nat.le_of_ble_eq_true rfl) ⟨rfl, rfl⟩ ?_
  refine s_X7_beast hw  hz19 ?_
  show gW _ _ _ _ _ 99 [.ref 1, .ref 2, .ref 57, .int v3] [.int z19.1] (gKn n, gRf f g, z19.2.1, z19.2.2) _
  refine r_aload rfl rfl ?_
  refine r_aload rfl rfl ?_
  refine r_iload rfl rfl ?_
  refine r_const rfl (gcst 1) ?_
  refine r_iadd rfl ?_
  obtain ⟨b20, hr⟩ := gopt hr
  refine r_iaload (n := n) rfl rfl (gvp_in b20) ?_
  refine r_aload rfl rfl ?_
  refine r_iload rfl rfl ?_
  refine r_const rfl (gcst 2) ?_
  refine r_iadd rfl ?_
  obtain ⟨b21, hr⟩ := gopt hr
  refine r_iaload (n := n) rfl rfl (gvp_in b21) ?_
  obtain ⟨z22, hz22, hr⟩ := gbnd hr
  refine r_invv (a := 57) [.int (z19.2.1 1 (gx (v3 + (nI 1)))), .int (z19.2.1 1 (gx (v3 + (nI 2))))] rfl rfl rfl rfl rfl (Nat.le_of_ble_eq_true rfl) ⟨rfl, rfl⟩ ?_
  refine s_X8_beast  hz22 ?_
  show gW _ _ _ _ _ 111 [.ref 1, .ref 2, .ref 57, .int v3] [.int z22.1, .int z19.1] (gKn n, gRf f g, z22.2.1, z22.2.2) _
  refine r_icmp_eq 837 rfl rfl (fun c23 => ?_) (fun c23 => ?_)
  · rw [if_pos c23] at hr
    refine r_iinc (y := (v3 + (nI 6))) [.ref 1, .ref 2, .ref 57, .int (v3 + (nI 6))] rfl rfl rfl (ginc _ 6) rfl ?_
    refine r_goto 10 rfl rfl ?_
    exact hK10 _ _ _ hr
  · rw [if_neg c23] at hr
    refine r_const rfl (gcst 0) ?_
    refine r_zret rfl (Or.inl rfl) ?_
    cases hr
    exact hQ
def r_L_law_114 (n f g : Nat) (K10 : Int32 → (Nat → Nat → Int32) → (Nat → Nat → Int64) → Option gRs) (v3 : Int32) (I : Nat → Nat → Int32) (L : Nat → Nat → Int64) : Option gRs := (if gvp (v3 + (nI 1)) n = true then (if gvp (v3 + (nI 2)) n = true then ((r_X7_tone f g I L (I 1 (gx (v3 + (nI 1)))) (I 1 (gx (v3 + (nI 2))))).bind (fun z26 => (if gvp (v3 + (nI 1)) n = true then (if gvp (v3 + (nI 2)) n = true then ((r_X8_tone z26.2.1 z26.2.2 (z26.2.1 1 (gx (v3 + (nI 1)))) (z26.2.1 1 (gx (v3 + (nI 2))))).bind (fun z29 => (if z26.1 = z29.1 then (K10 (v3 + (nI 6)) z29.2.1 z29.2.2) else some ((nI 0), z29.2.1, z29.2.2)))) else none) else none))) else none) else none)
set_option maxHeartbeats 4000000 in
set_option maxRecDepth 100000 in
theorem t_L_law_114 {n f g d : Nat} {Q : gP} {z : gRs} (hw : gfw f g) {K10 : Int32 → (Nat → Nat → Int32) → (Nat → Nat → Int64) → Option gRs} (hK10 : ∀ v3 I L, K10 v3 I L = some z → gW gM (d + 11) 0 0 k_L_law 10 [.ref 1, .ref 2, .ref 57, .int v3] [] (gKn n, gRf f g, I, L) Q) {v3 : Int32} {I : Nat → Nat → Int32} {L : Nat → Nat → Int64} (hr : r_L_law_114 n f g K10 v3 I L = some z) (hQ : Q (some (.int z.1)) (gKn n, gRf f g, z.2.1, z.2.2)) : gW gM (d + 11) 0 0 k_L_law 114 [.ref 1, .ref 2, .ref 57, .int v3] [] (gKn n, gRf f g, I, L) Q := by
  have hfe := hw.f
  have hfd := hw.g
  unfold r_L_law_114 at hr
  refine r_aload rfl rfl ?_
  refine r_aload rfl rfl ?_
  refine r_iload rfl rfl ?_
  refine r_const rfl (gcst 1) ?_
  refine r_iadd rfl ?_
  obtain ⟨b24, hr⟩ := gopt hr
  refine r_iaload (n := n) rfl rfl (gvp_in b24) ?_
  refine r_aload rfl rfl ?_
  refine r_iload rfl rfl ?_
  refine r_const rfl (gcst 2) ?_
  refine r_iadd rfl ?_
  obtain ⟨b25, hr⟩ := gopt hr
  refine r_iaload (n := n) rfl rfl (gvp_in b25) ?_
  obtain ⟨z26, hz26, hr⟩ := gbnd hr
  refine r_invv (a := 2) [.int (I 1 (gx (v3 + (nI 1)))), .int (I 1 (gx (v3 + (nI 2))))] rfl rfl rfl rfl rfl (Nat.le_of_ble_eq_true rfl) ⟨rfl, rfl⟩ ?_
  refine s_X7_tone hw  hz26 ?_
  show gW _ _ _ _ _ 126 [.ref 1, .ref 2, .ref 57, .int v3] [.int z26.1] (gKn n, gRf f g, z26.2.1, z26.2.2) _
  refine r_aload rfl rfl ?_
  refine r_aload rfl rfl ?_
  refine r_iload rfl rfl ?_
  refine r_const rfl (gcst 1) ?_
  refine r_iadd rfl ?_
  obtain ⟨b27, hr⟩ := gopt hr
  refine r_iaload (n := n) rfl rfl (gvp_in b27) ?_
  refine r_aload rfl rfl ?_
  refine r_iload rfl rfl ?_
  refine r_const rfl (gcst 2) ?_
  refine r_iadd rfl ?_
  obtain ⟨b28, hr⟩ := gopt hr
  refine r_iaload (n := n) rfl rfl (gvp_in b28) ?_
  obtain ⟨z29, hz29, hr⟩ := gbnd hr
  refine r_invv (a := 57) [.int (z26.2.1 1 (gx (v3 + (nI 1)))), .int (z26.2.1 1 (gx (v3 + (nI 2))))] rfl rfl rfl rfl rfl (Nat.le_of_ble_eq_true rfl) ⟨rfl, rfl⟩ ?_
  refine s_X8_tone  hz29 ?_
  show gW _ _ _ _ _ 138 [.ref 1, .ref 2, .ref 57, .int v3] [.int z29.1, .int z26.1] (gKn n, gRf f g, z29.2.1, z29.2.2) _
  refine r_icmp_eq 837 rfl rfl (fun c30 => ?_) (fun c30 => ?_)
  · rw [if_pos c30] at hr
    refine r_iinc (y := (v3 + (nI 6))) [.ref 1, .ref 2, .ref 57, .int (v3 + (nI 6))] rfl rfl rfl (ginc _ 6) rfl ?_
    refine r_goto 10 rfl rfl ?_
    exact hK10 _ _ _ hr
  · rw [if_neg c30] at hr
    refine r_const rfl (gcst 0) ?_
    refine r_zret rfl (Or.inl rfl) ?_
    cases hr
    exact hQ
def r_L_law_141 (n f g : Nat) (K10 : Int32 → (Nat → Nat → Int32) → (Nat → Nat → Int64) → Option gRs) (v3 : Int32) (I : Nat → Nat → Int32) (L : Nat → Nat → Int64) : Option gRs := (if gvp (v3 + (nI 1)) n = true then (if gvp (v3 + (nI 2)) n = true then (if gvp (v3 + (nI 3)) n = true then ((r_X7_song f g I L (I 1 (gx (v3 + (nI 1)))) (I 1 (gx (v3 + (nI 2)))) (I 1 (gx (v3 + (nI 3))))).bind (fun z34 => (if gvp (v3 + (nI 1)) n = true then (if gvp (v3 + (nI 2)) n = true then (if gvp (v3 + (nI 3)) n = true then ((r_X8_song z34.2.1 z34.2.2 (z34.2.1 1 (gx (v3 + (nI 1)))) (z34.2.1 1 (gx (v3 + (nI 2)))) (z34.2.1 1 (gx (v3 + (nI 3))))).bind (fun z38 => (if z34.1 = z38.1 then (K10 (v3 + (nI 6)) z38.2.1 z38.2.2) else some ((nI 0), z38.2.1, z38.2.2)))) else none) else none) else none))) else none) else none) else none)
set_option maxHeartbeats 4000000 in
set_option maxRecDepth 100000 in
theorem t_L_law_141 {n f g d : Nat} {Q : gP} {z : gRs} (hw : gfw f g) {K10 : Int32 → (Nat → Nat → Int32) → (Nat → Nat → Int64) → Option gRs} (hK10 : ∀ v3 I L, K10 v3 I L = some z → gW gM (d + 11) 0 0 k_L_law 10 [.ref 1, .ref 2, .ref 57, .int v3] [] (gKn n, gRf f g, I, L) Q) {v3 : Int32} {I : Nat → Nat → Int32} {L : Nat → Nat → Int64} (hr : r_L_law_141 n f g K10 v3 I L = some z) (hQ : Q (some (.int z.1)) (gKn n, gRf f g, z.2.1, z.2.2)) : gW gM (d + 11) 0 0 k_L_law 141 [.ref 1, .ref 2, .ref 57, .int v3] [] (gKn n, gRf f g, I, L) Q := by
  have hfe := hw.f
  have hfd := hw.g
  unfold r_L_law_141 at hr
  refine r_aload rfl rfl ?_
  refine r_aload rfl rfl ?_
  refine r_iload rfl rfl ?_
  refine r_const rfl (gcst 1) ?_
  refine r_iadd rfl ?_
  obtain ⟨b31, hr⟩ := gopt hr
  refine r_iaload (n := n) rfl rfl (gvp_in b31) ?_
  refine r_aload rfl rfl ?_
  refine r_iload rfl rfl ?_
  refine r_const rfl (gcst 2) ?_
  refine r_iadd rfl ?_
  obtain ⟨b32, hr⟩ := gopt hr
  refine r_iaload (n := n) rfl rfl (gvp_in b32) ?_
  refine r_aload rfl rfl ?_
  refine r_iload rfl rfl ?_
  refine r_const rfl (gcst 3) ?_
  refine r_iadd rfl ?_
  obtain ⟨b33, hr⟩ := gopt hr
  refine r_iaload (n := n) rfl rfl (gvp_in b33) ?_
  obtain ⟨z34, hz34, hr⟩ := gbnd hr
  refine r_invv (a := 2) [.int (I 1 (gx (v3 + (nI 1)))), .int (I 1 (gx (v3 + (nI 2)))), .int (I 1 (gx (v3 + (nI 3))))] rfl rfl rfl rfl rfl (Nat.le_of_ble_eq_true rfl) ⟨rfl, rfl⟩ ?_
  refine s_X7_song hw  hz34 ?_
  show gW _ _ _ _ _ 158 [.ref 1, .ref 2, .ref 57, .int v3] [.int z34.1] (gKn n, gRf f g, z34.2.1, z34.2.2) _
  refine r_aload rfl rfl ?_
  refine r_aload rfl rfl ?_
  refine r_iload rfl rfl ?_
  refine r_const rfl (gcst 1) ?_
  refine r_iadd rfl ?_
  obtain ⟨b35, hr⟩ := gopt hr
  refine r_iaload (n := n) rfl rfl (gvp_in b35) ?_
  refine r_aload rfl rfl ?_
  refine r_iload rfl rfl ?_
  refine r_const rfl (gcst 2) ?_
  refine r_iadd rfl ?_
  obtain ⟨b36, hr⟩ := gopt hr
  refine r_iaload (n := n) rfl rfl (gvp_in b36) ?_
  refine r_aload rfl rfl ?_
  refine r_iload rfl rfl ?_
  refine r_const rfl (gcst 3) ?_
  refine r_iadd rfl ?_
  obtain ⟨b37, hr⟩ := gopt hr
  refine r_iaload (n := n) rfl rfl (gvp_in b37) ?_
  obtain ⟨z38, hz38, hr⟩ := gbnd hr
  refine r_invv (a := 57) [.int (z34.2.1 1 (gx (v3 + (nI 1)))), .int (z34.2.1 1 (gx (v3 + (nI 2)))), .int (z34.2.1 1 (gx (v3 + (nI 3))))] rfl rfl rfl rfl rfl (Nat.le_of_ble_eq_true rfl) ⟨rfl, rfl⟩ ?_
  refine s_X8_song  hz38 ?_
  show gW _ _ _ _ _ 175 [.ref 1, .ref 2, .ref 57, .int v3] [.int z38.1, .int z34.1] (gKn n, gRf f g, z38.2.1, z38.2.2) _
  refine r_icmp_eq 837 rfl rfl (fun c39 => ?_) (fun c39 => ?_)
  · rw [if_pos c39] at hr
    refine r_iinc (y := (v3 + (nI 6))) [.ref 1, .ref 2, .ref 57, .int (v3 + (nI 6))] rfl rfl rfl (ginc _ 6) rfl ?_
    refine r_goto 10 rfl rfl ?_
    exact hK10 _ _ _ hr
  · rw [if_neg c39] at hr
    refine r_const rfl (gcst 0) ?_
    refine r_zret rfl (Or.inl rfl) ?_
    cases hr
    exact hQ
def r_L_law_178 (n f g : Nat) (K10 : Int32 → (Nat → Nat → Int32) → (Nat → Nat → Int64) → Option gRs) (v3 : Int32) (I : Nat → Nat → Int32) (L : Nat → Nat → Int64) : Option gRs := (if gvp (v3 + (nI 1)) n = true then (if gvp (v3 + (nI 1)) n = true then ((r_X8_sung I L (I 1 (gx (v3 + (nI 1))))).bind (fun z42 => (if (f_X7_sung f g I L (I 1 (gx (v3 + (nI 1))))) = z42.1 then (K10 (v3 + (nI 6)) z42.2.1 z42.2.2) else some ((nI 0), z42.2.1, z42.2.2)))) else none) else none)
set_option maxHeartbeats 4000000 in
set_option maxRecDepth 100000 in
theorem t_L_law_178 {n f g d : Nat} {Q : gP} {z : gRs} (hw : gfw f g) {K10 : Int32 → (Nat → Nat → Int32) → (Nat → Nat → Int64) → Option gRs} (hK10 : ∀ v3 I L, K10 v3 I L = some z → gW gM (d + 11) 0 0 k_L_law 10 [.ref 1, .ref 2, .ref 57, .int v3] [] (gKn n, gRf f g, I, L) Q) {v3 : Int32} {I : Nat → Nat → Int32} {L : Nat → Nat → Int64} (hr : r_L_law_178 n f g K10 v3 I L = some z) (hQ : Q (some (.int z.1)) (gKn n, gRf f g, z.2.1, z.2.2)) : gW gM (d + 11) 0 0 k_L_law 178 [.ref 1, .ref 2, .ref 57, .int v3] [] (gKn n, gRf f g, I, L) Q := by
  have hfe := hw.f
  have hfd := hw.g
  unfold r_L_law_178 at hr
  refine r_aload rfl rfl ?_
  refine r_aload rfl rfl ?_
  refine r_iload rfl rfl ?_
  refine r_const rfl (gcst 1) ?_
  refine r_iadd rfl ?_
  obtain ⟨b40, hr⟩ := gopt hr
  refine r_iaload (n := n) rfl rfl (gvp_in b40) ?_
  refine r_invv (a := 2) [.int (I 1 (gx (v3 + (nI 1))))] rfl rfl rfl rfl rfl (Nat.le_of_ble_eq_true rfl) ⟨rfl, rfl⟩ ?_
  refine s_X7_sung hw  ?_
  show gW _ _ _ _ _ 185 [.ref 1, .ref 2, .ref 57, .int v3] [.int (f_X7_sung f g I L (I 1 (gx (v3 + (nI 1)))))] (gKn n, gRf f g, I, L) _
  refine r_aload rfl rfl ?_
  refine r_aload rfl rfl ?_
  refine r_iload rfl rfl ?_
  refine r_const rfl (gcst 1) ?_
  refine r_iadd rfl ?_
  obtain ⟨b41, hr⟩ := gopt hr
  refine r_iaload (n := n) rfl rfl (gvp_in b41) ?_
  obtain ⟨z42, hz42, hr⟩ := gbnd hr
  refine r_invv (a := 57) [.int (I 1 (gx (v3 + (nI 1))))] rfl rfl rfl rfl rfl (Nat.le_of_ble_eq_true rfl) ⟨rfl, rfl⟩ ?_
  refine s_X8_sung  hz42 ?_
  show gW _ _ _ _ _ 192 [.ref 1, .ref 2, .ref 57, .int v3] [.int z42.1, .int (f_X7_sung f g I L (I 1 (gx (v3 + (nI 1)))))] (gKn n, gRf f g, z42.2.1, z42.2.2) _
  refine r_icmp_eq 837 rfl rfl (fun c43 => ?_) (fun c43 => ?_)
  · rw [if_pos c43] at hr
    refine r_iinc (y := (v3 + (nI 6))) [.ref 1, .ref 2, .ref 57, .int (v3 + (nI 6))] rfl rfl rfl (ginc _ 6) rfl ?_
    refine r_goto 10 rfl rfl ?_
    exact hK10 _ _ _ hr
  · rw [if_neg c43] at hr
    refine r_const rfl (gcst 0) ?_
    refine r_zret rfl (Or.inl rfl) ?_
    cases hr
    exact hQ
def r_L_law_195 (n f g : Nat) (K10 : Int32 → (Nat → Nat → Int32) → (Nat → Nat → Int64) → Option gRs) (v3 : Int32) (I : Nat → Nat → Int32) (L : Nat → Nat → Int64) : Option gRs := (if gvp (v3 + (nI 1)) n = true then (if gvp (v3 + (nI 2)) n = true then ((r_X7_drive f g I L (I 1 (gx (v3 + (nI 1)))) (I 1 (gx (v3 + (nI 2))))).bind (fun z46 => (if gvp (v3 + (nI 1)) n = true then (if gvp (v3 + (nI 2)) n = true then ((r_X8_drive z46.2.1 z46.2.2 (z46.2.1 1 (gx (v3 + (nI 1)))) (z46.2.1 1 (gx (v3 + (nI 2))))).bind (fun z49 => (if z46.1 = z49.1 then (K10 (v3 + (nI 6)) z49.2.1 z49.2.2) else some ((nI 0), z49.2.1, z49.2.2)))) else none) else none))) else none) else none)
set_option maxHeartbeats 4000000 in
set_option maxRecDepth 100000 in
theorem t_L_law_195 {n f g d : Nat} {Q : gP} {z : gRs} (hw : gfw f g) {K10 : Int32 → (Nat → Nat → Int32) → (Nat → Nat → Int64) → Option gRs} (hK10 : ∀ v3 I L, K10 v3 I L = some z → gW gM (d + 11) 0 0 k_L_law 10 [.ref 1, .ref 2, .ref 57, .int v3] [] (gKn n, gRf f g, I, L) Q) {v3 : Int32} {I : Nat → Nat → Int32} {L : Nat → Nat → Int64} (hr : r_L_law_195 n f g K10 v3 I L = some z) (hQ : Q (some (.int z.1)) (gKn n, gRf f g, z.2.1, z.2.2)) : gW gM (d + 11) 0 0 k_L_law 195 [.ref 1, .ref 2, .ref 57, .int v3] [] (gKn n, gRf f g, I, L) Q := by
  have hfe := hw.f
  have hfd := hw.g
  unfold r_L_law_195 at hr
  refine r_aload rfl rfl ?_
  refine r_aload rfl rfl ?_
  refine r_iload rfl rfl ?_
  refine r_const rfl (gcst 1) ?_
  refine r_iadd rfl ?_
  obtain ⟨b44, hr⟩ := gopt hr
  refine r_iaload (n := n) rfl rfl (gvp_in b44) ?_
  refine r_aload rfl rfl ?_
  refine r_iload rfl rfl ?_
  refine r_const rfl (gcst 2) ?_
  refine r_iadd rfl ?_
  obtain ⟨b45, hr⟩ := gopt hr
  refine r_iaload (n := n) rfl rfl (gvp_in b45) ?_
  obtain ⟨z46, hz46, hr⟩ := gbnd hr
  refine r_invv (a := 2) [.int (I 1 (gx (v3 + (nI 1)))), .int (I 1 (gx (v3 + (nI 2))))] rfl rfl rfl rfl rfl (Nat.le_of_ble_eq_true rfl) ⟨rfl, rfl⟩ ?_
  refine s_X7_drive hw  hz46 ?_
  show gW _ _ _ _ _ 207 [.ref 1, .ref 2, .ref 57, .int v3] [.int z46.1] (gKn n, gRf f g, z46.2.1, z46.2.2) _
  refine r_aload rfl rfl ?_
  refine r_aload rfl rfl ?_
  refine r_iload rfl rfl ?_
  refine r_const rfl (gcst 1) ?_
  refine r_iadd rfl ?_
  obtain ⟨b47, hr⟩ := gopt hr
  refine r_iaload (n := n) rfl rfl (gvp_in b47) ?_
  refine r_aload rfl rfl ?_
  refine r_iload rfl rfl ?_
  refine r_const rfl (gcst 2) ?_
  refine r_iadd rfl ?_
  obtain ⟨b48, hr⟩ := gopt hr
  refine r_iaload (n := n) rfl rfl (gvp_in b48) ?_
  obtain ⟨z49, hz49, hr⟩ := gbnd hr
  refine r_invv (a := 57) [.int (z46.2.1 1 (gx (v3 + (nI 1)))), .int (z46.2.1 1 (gx (v3 + (nI 2))))] rfl rfl rfl rfl rfl (Nat.le_of_ble_eq_true rfl) ⟨rfl, rfl⟩ ?_
  refine s_X8_drive  hz49 ?_
  show gW _ _ _ _ _ 219 [.ref 1, .ref 2, .ref 57, .int v3] [.int z49.1, .int z46.1] (gKn n, gRf f g, z49.2.1, z49.2.2) _
  refine r_icmp_eq 837 rfl rfl (fun c50 => ?_) (fun c50 => ?_)
  · rw [if_pos c50] at hr
    refine r_iinc (y := (v3 + (nI 6))) [.ref 1, .ref 2, .ref 57, .int (v3 + (nI 6))] rfl rfl rfl (ginc _ 6) rfl ?_
    refine r_goto 10 rfl rfl ?_
    exact hK10 _ _ _ hr
  · rw [if_neg c50] at hr
    refine r_const rfl (gcst 0) ?_
    refine r_zret rfl (Or.inl rfl) ?_
    cases hr
    exact hQ
def r_L_law_222 (n f g : Nat) (K10 : Int32 → (Nat → Nat → Int32) → (Nat → Nat → Int64) → Option gRs) (v3 : Int32) (I : Nat → Nat → Int32) (L : Nat → Nat → Int64) : Option gRs := (if gvp (v3 + (nI 1)) n = true then ((r_X7_open f g I L (I 1 (gx (v3 + (nI 1))))).bind (fun z52 => (if gvp (v3 + (nI 1)) n = true then ((r_X8_open z52.2.1 z52.2.2 (z52.2.1 1 (gx (v3 + (nI 1))))).bind (fun z54 => (if z52.1 = z54.1 then (K10 (v3 + (nI 6)) z54.2.1 z54.2.2) else some ((nI 0), z54.2.1, z54.2.2)))) else none))) else none)
set_option maxHeartbeats 4000000 in
set_option maxRecDepth 100000 in
theorem t_L_law_222 {n f g d : Nat} {Q : gP} {z : gRs} (hw : gfw f g) {K10 : Int32 → (Nat → Nat → Int32) → (Nat → Nat → Int64) → Option gRs} (hK10 : ∀ v3 I L, K10 v3 I L = some z → gW gM (d + 11) 0 0 k_L_law 10 [.ref 1, .ref 2, .ref 57, .int v3] [] (gKn n, gRf f g, I, L) Q) {v3 : Int32} {I : Nat → Nat → Int32} {L : Nat → Nat → Int64} (hr : r_L_law_222 n f g K10 v3 I L = some z) (hQ : Q (some (.int z.1)) (gKn n, gRf f g, z.2.1, z.2.2)) : gW gM (d + 11) 0 0 k_L_law 222 [.ref 1, .ref 2, .ref 57, .int v3] [] (gKn n, gRf f g, I, L) Q := by
  have hfe := hw.f
  have hfd := hw.g
  unfold r_L_law_222 at hr
  refine r_aload rfl rfl ?_
  refine r_aload rfl rfl ?_
  refine r_iload rfl rfl ?_
  refine r_const rfl (gcst 1) ?_
  refine r_iadd rfl ?_
  obtain ⟨b51, hr⟩ := gopt hr
  refine r_iaload (n := n) rfl rfl (gvp_in b51) ?_
  obtain ⟨z52, hz52, hr⟩ := gbnd hr
  refine r_invv (a := 2) [.int (I 1 (gx (v3 + (nI 1))))] rfl rfl rfl rfl rfl (Nat.le_of_ble_eq_true rfl) ⟨rfl, rfl⟩ ?_
  refine s_X7_open hw  hz52 ?_
  show gW _ _ _ _ _ 229 [.ref 1, .ref 2, .ref 57, .int v3] [.int z52.1] (gKn n, gRf f g, z52.2.1, z52.2.2) _
  refine r_aload rfl rfl ?_
  refine r_aload rfl rfl ?_
  refine r_iload rfl rfl ?_
  refine r_const rfl (gcst 1) ?_
  refine r_iadd rfl ?_
  obtain ⟨b53, hr⟩ := gopt hr
  refine r_iaload (n := n) rfl rfl (gvp_in b53) ?_
  obtain ⟨z54, hz54, hr⟩ := gbnd hr
  refine r_invv (a := 57) [.int (z52.2.1 1 (gx (v3 + (nI 1))))] rfl rfl rfl rfl rfl (Nat.le_of_ble_eq_true rfl) ⟨rfl, rfl⟩ ?_
  refine s_X8_open  hz54 ?_
  show gW _ _ _ _ _ 236 [.ref 1, .ref 2, .ref 57, .int v3] [.int z54.1, .int z52.1] (gKn n, gRf f g, z54.2.1, z54.2.2) _
  refine r_icmp_eq 837 rfl rfl (fun c55 => ?_) (fun c55 => ?_)
  · rw [if_pos c55] at hr
    refine r_iinc (y := (v3 + (nI 6))) [.ref 1, .ref 2, .ref 57, .int (v3 + (nI 6))] rfl rfl rfl (ginc _ 6) rfl ?_
    refine r_goto 10 rfl rfl ?_
    exact hK10 _ _ _ hr
  · rw [if_neg c55] at hr
    refine r_const rfl (gcst 0) ?_
    refine r_zret rfl (Or.inl rfl) ?_
    cases hr
    exact hQ
def r_L_law_239 (n f g : Nat) (K10 : Int32 → (Nat → Nat → Int32) → (Nat → Nat → Int64) → Option gRs) (v3 : Int32) (I : Nat → Nat → Int32) (L : Nat → Nat → Int64) : Option gRs := (if gvp (v3 + (nI 1)) n = true then ((r_X7_oil f g I L (I 1 (gx (v3 + (nI 1))))).bind (fun z57 => (if gvp (v3 + (nI 1)) n = true then ((r_X8_oil z57.2.1 z57.2.2 (z57.2.1 1 (gx (v3 + (nI 1))))).bind (fun z59 => (if z57.1 = z59.1 then (K10 (v3 + (nI 6)) z59.2.1 z59.2.2) else some ((nI 0), z59.2.1, z59.2.2)))) else none))) else none)
set_option maxHeartbeats 4000000 in
set_option maxRecDepth 100000 in
theorem t_L_law_239 {n f g d : Nat} {Q : gP} {z : gRs} (hw : gfw f g) {K10 : Int32 → (Nat → Nat → Int32) → (Nat → Nat → Int64) → Option gRs} (hK10 : ∀ v3 I L, K10 v3 I L = some z → gW gM (d + 11) 0 0 k_L_law 10 [.ref 1, .ref 2, .ref 57, .int v3] [] (gKn n, gRf f g, I, L) Q) {v3 : Int32} {I : Nat → Nat → Int32} {L : Nat → Nat → Int64} (hr : r_L_law_239 n f g K10 v3 I L = some z) (hQ : Q (some (.int z.1)) (gKn n, gRf f g, z.2.1, z.2.2)) : gW gM (d + 11) 0 0 k_L_law 239 [.ref 1, .ref 2, .ref 57, .int v3] [] (gKn n, gRf f g, I, L) Q := by
  have hfe := hw.f
  have hfd := hw.g
  unfold r_L_law_239 at hr
  refine r_aload rfl rfl ?_
  refine r_aload rfl rfl ?_
  refine r_iload rfl rfl ?_
  refine r_const rfl (gcst 1) ?_
  refine r_iadd rfl ?_
  obtain ⟨b56, hr⟩ := gopt hr
  refine r_iaload (n := n) rfl rfl (gvp_in b56) ?_
  obtain ⟨z57, hz57, hr⟩ := gbnd hr
  refine r_invv (a := 2) [.int (I 1 (gx (v3 + (nI 1))))] rfl rfl rfl rfl rfl (Nat.le_of_ble_eq_true rfl) ⟨rfl, rfl⟩ ?_
  refine s_X7_oil hw  hz57 ?_
  show gW _ _ _ _ _ 246 [.ref 1, .ref 2, .ref 57, .int v3] [.int z57.1] (gKn n, gRf f g, z57.2.1, z57.2.2) _
  refine r_aload rfl rfl ?_
  refine r_aload rfl rfl ?_
  refine r_iload rfl rfl ?_
  refine r_const rfl (gcst 1) ?_
  refine r_iadd rfl ?_
  obtain ⟨b58, hr⟩ := gopt hr
  refine r_iaload (n := n) rfl rfl (gvp_in b58) ?_
  obtain ⟨z59, hz59, hr⟩ := gbnd hr
  refine r_invv (a := 57) [.int (z57.2.1 1 (gx (v3 + (nI 1))))] rfl rfl rfl rfl rfl (Nat.le_of_ble_eq_true rfl) ⟨rfl, rfl⟩ ?_
  refine s_X8_oil  hz59 ?_
  show gW _ _ _ _ _ 253 [.ref 1, .ref 2, .ref 57, .int v3] [.int z59.1, .int z57.1] (gKn n, gRf f g, z59.2.1, z59.2.2) _
  refine r_icmp_eq 837 rfl rfl (fun c60 => ?_) (fun c60 => ?_)
  · rw [if_pos c60] at hr
    refine r_iinc (y := (v3 + (nI 6))) [.ref 1, .ref 2, .ref 57, .int (v3 + (nI 6))] rfl rfl rfl (ginc _ 6) rfl ?_
    refine r_goto 10 rfl rfl ?_
    exact hK10 _ _ _ hr
  · rw [if_neg c60] at hr
    refine r_const rfl (gcst 0) ?_
    refine r_zret rfl (Or.inl rfl) ?_
    cases hr
    exact hQ
def r_L_law_256 (n f g : Nat) (K10 : Int32 → (Nat → Nat → Int32) → (Nat → Nat → Int64) → Option gRs) (v3 : Int32) (I : Nat → Nat → Int32) (L : Nat → Nat → Int64) : Option gRs := (if gvp (v3 + (nI 1)) n = true then (if gvp (v3 + (nI 2)) n = true then ((r_X7_hang f g I L (I 1 (gx (v3 + (nI 1)))) (if (I 1 (gx (v3 + (nI 2)))) = 0 then (nI 0) else (nI 1))).bind (fun z64 => (if gvp (v3 + (nI 1)) n = true then (if gvp (v3 + (nI 2)) n = true then ((r_X8_hang z64.2.1 z64.2.2 (z64.2.1 1 (gx (v3 + (nI 1)))) (if (z64.2.1 1 (gx (v3 + (nI 2)))) = 0 then (nI 0) else (nI 1))).bind (fun z68 => (if z64.1 = z68.1 then (K10 (v3 + (nI 6)) z68.2.1 z68.2.2) else some ((nI 0), z68.2.1, z68.2.2)))) else none) else none))) else none) else none)
set_option maxHeartbeats 4000000 in
set_option maxRecDepth 100000 in
theorem t_L_law_256 {n f g d : Nat} {Q : gP} {z : gRs} (hw : gfw f g) {K10 : Int32 → (Nat → Nat → Int32) → (Nat → Nat → Int64) → Option gRs} (hK10 : ∀ v3 I L, K10 v3 I L = some z → gW gM (d + 11) 0 0 k_L_law 10 [.ref 1, .ref 2, .ref 57, .int v3] [] (gKn n, gRf f g, I, L) Q) {v3 : Int32} {I : Nat → Nat → Int32} {L : Nat → Nat → Int64} (hr : r_L_law_256 n f g K10 v3 I L = some z) (hQ : Q (some (.int z.1)) (gKn n, gRf f g, z.2.1, z.2.2)) : gW gM (d + 11) 0 0 k_L_law 256 [.ref 1, .ref 2, .ref 57, .int v3] [] (gKn n, gRf f g, I, L) Q := by
  have hfe := hw.f
  have hfd := hw.g
  unfold r_L_law_256 at hr
  refine r_aload rfl rfl ?_
  refine r_aload rfl rfl ?_
  refine r_iload rfl rfl ?_
  refine r_const rfl (gcst 1) ?_
  refine r_iadd rfl ?_
  obtain ⟨b61, hr⟩ := gopt hr
  refine r_iaload (n := n) rfl rfl (gvp_in b61) ?_
  refine r_aload rfl rfl ?_
  refine r_iload rfl rfl ?_
  refine r_const rfl (gcst 2) ?_
  refine r_iadd rfl ?_
  obtain ⟨b62, hr⟩ := gopt hr
  refine r_iaload (n := n) rfl rfl (gvp_in b62) ?_
  have j70 : gW gM (d + 11) 0 0 k_L_law 271 [.ref 1, .ref 2, .ref 57, .int v3] [.int (if (I 1 (gx (v3 + (nI 2)))) = 0 then (nI 0) else (nI 1)), .int (I 1 (gx (v3 + (nI 1)))), .ref 2] (gKn n, gRf f g, I, L) Q := by
    obtain ⟨z64, hz64, hr⟩ := gbnd hr
    refine r_invv (a := 2) [.int (I 1 (gx (v3 + (nI 1)))), .int (if (I 1 (gx (v3 + (nI 2)))) = 0 then (nI 0) else (nI 1))] rfl rfl rfl rfl rfl (Nat.le_of_ble_eq_true rfl) ⟨rfl, rfl⟩ ?_
    refine s_X7_hang hw  hz64 ?_
    show gW _ _ _ _ _ 272 [.ref 1, .ref 2, .ref 57, .int v3] [.int z64.1] (gKn n, gRf f g, z64.2.1, z64.2.2) _
    refine r_aload rfl rfl ?_
    refine r_aload rfl rfl ?_
    refine r_iload rfl rfl ?_
    refine r_const rfl (gcst 1) ?_
    refine r_iadd rfl ?_
    obtain ⟨b65, hr⟩ := gopt hr
    refine r_iaload (n := n) rfl rfl (gvp_in b65) ?_
    refine r_aload rfl rfl ?_
    refine r_iload rfl rfl ?_
    refine r_const rfl (gcst 2) ?_
    refine r_iadd rfl ?_
    obtain ⟨b66, hr⟩ := gopt hr
    refine r_iaload (n := n) rfl rfl (gvp_in b66) ?_
    have j71 : gW gM (d + 11) 0 0 k_L_law 287 [.ref 1, .ref 2, .ref 57, .int v3] [.int (if (z64.2.1 1 (gx (v3 + (nI 2)))) = 0 then (nI 0) else (nI 1)), .int (z64.2.1 1 (gx (v3 + (nI 1)))), .ref 57, .int z64.1] (gKn n, gRf f g, z64.2.1, z64.2.2) Q := by
      obtain ⟨z68, hz68, hr⟩ := gbnd hr
      refine r_invv (a := 57) [.int (z64.2.1 1 (gx (v3 + (nI 1)))), .int (if (z64.2.1 1 (gx (v3 + (nI 2)))) = 0 then (nI 0) else (nI 1))] rfl rfl rfl rfl rfl (Nat.le_of_ble_eq_true rfl) ⟨rfl, rfl⟩ ?_
      refine s_X8_hang  hz68 ?_
      show gW _ _ _ _ _ 288 [.ref 1, .ref 2, .ref 57, .int v3] [.int z68.1, .int z64.1] (gKn n, gRf f g, z68.2.1, z68.2.2) _
      refine r_icmp_eq 837 rfl rfl (fun c69 => ?_) (fun c69 => ?_)
      · rw [if_pos c69] at hr
        refine r_iinc (y := (v3 + (nI 6))) [.ref 1, .ref 2, .ref 57, .int (v3 + (nI 6))] rfl rfl rfl (ginc _ 6) rfl ?_
        refine r_goto 10 rfl rfl ?_
        exact hK10 _ _ _ hr
      · rw [if_neg c69] at hr
        refine r_const rfl (gcst 0) ?_
        refine r_zret rfl (Or.inl rfl) ?_
        cases hr
        exact hQ
    refine r_if_eq 286 rfl rfl (fun c67 => ?_) (fun c67 => ?_)
    · refine r_const rfl (gcst 0) ?_
      first | contradiction | simpa only [if_pos c67] using j71
    · refine r_const rfl (gcst 1) ?_
      refine r_goto 287 rfl rfl ?_
      first | contradiction | simpa only [if_neg c67] using j71
  refine r_if_eq 270 rfl rfl (fun c63 => ?_) (fun c63 => ?_)
  · refine r_const rfl (gcst 0) ?_
    first | contradiction | simpa only [if_pos c63] using j70
  · refine r_const rfl (gcst 1) ?_
    refine r_goto 271 rfl rfl ?_
    first | contradiction | simpa only [if_neg c63] using j70
def r_L_law_291 (n f g : Nat) (K10 : Int32 → (Nat → Nat → Int32) → (Nat → Nat → Int64) → Option gRs) (v3 : Int32) (I : Nat → Nat → Int32) (L : Nat → Nat → Int64) : Option gRs := (if gvp (v3 + (nI 1)) n = true then ((r_X7_turnOut f g I L (I 1 (gx (v3 + (nI 1))))).bind (fun z73 => (if gvp (v3 + (nI 1)) n = true then ((r_X8_turnOut z73.2.1 z73.2.2 (z73.2.1 1 (gx (v3 + (nI 1))))).bind (fun z75 => (if z73.1 = z75.1 then (K10 (v3 + (nI 6)) z75.2.1 z75.2.2) else some ((nI 0), z75.2.1, z75.2.2)))) else none))) else none)
set_option maxHeartbeats 4000000 in
set_option maxRecDepth 100000 in
theorem t_L_law_291 {n f g d : Nat} {Q : gP} {z : gRs} (hw : gfw f g) {K10 : Int32 → (Nat → Nat → Int32) → (Nat → Nat → Int64) → Option gRs} (hK10 : ∀ v3 I L, K10 v3 I L = some z → gW gM (d + 11) 0 0 k_L_law 10 [.ref 1, .ref 2, .ref 57, .int v3] [] (gKn n, gRf f g, I, L) Q) {v3 : Int32} {I : Nat → Nat → Int32} {L : Nat → Nat → Int64} (hr : r_L_law_291 n f g K10 v3 I L = some z) (hQ : Q (some (.int z.1)) (gKn n, gRf f g, z.2.1, z.2.2)) : gW gM (d + 11) 0 0 k_L_law 291 [.ref 1, .ref 2, .ref 57, .int v3] [] (gKn n, gRf f g, I, L) Q := by
  have hfe := hw.f
  have hfd := hw.g
  unfold r_L_law_291 at hr
  refine r_aload rfl rfl ?_
  refine r_aload rfl rfl ?_
  refine r_iload rfl rfl ?_
  refine r_const rfl (gcst 1) ?_
  refine r_iadd rfl ?_
  obtain ⟨b72, hr⟩ := gopt hr
  refine r_iaload (n := n) rfl rfl (gvp_in b72) ?_
  obtain ⟨z73, hz73, hr⟩ := gbnd hr
  refine r_invv (a := 2) [.int (I 1 (gx (v3 + (nI 1))))] rfl rfl rfl rfl rfl (Nat.le_of_ble_eq_true rfl) ⟨rfl, rfl⟩ ?_
  refine s_X7_turnOut hw  hz73 ?_
  show gW _ _ _ _ _ 298 [.ref 1, .ref 2, .ref 57, .int v3] [.int z73.1] (gKn n, gRf f g, z73.2.1, z73.2.2) _
  refine r_aload rfl rfl ?_
  refine r_aload rfl rfl ?_
  refine r_iload rfl rfl ?_
  refine r_const rfl (gcst 1) ?_
  refine r_iadd rfl ?_
  obtain ⟨b74, hr⟩ := gopt hr
  refine r_iaload (n := n) rfl rfl (gvp_in b74) ?_
  obtain ⟨z75, hz75, hr⟩ := gbnd hr
  refine r_invv (a := 57) [.int (z73.2.1 1 (gx (v3 + (nI 1))))] rfl rfl rfl rfl rfl (Nat.le_of_ble_eq_true rfl) ⟨rfl, rfl⟩ ?_
  refine s_X8_turnOut  hz75 ?_
  show gW _ _ _ _ _ 305 [.ref 1, .ref 2, .ref 57, .int v3] [.int z75.1, .int z73.1] (gKn n, gRf f g, z75.2.1, z75.2.2) _
  refine r_icmp_eq 837 rfl rfl (fun c76 => ?_) (fun c76 => ?_)
  · rw [if_pos c76] at hr
    refine r_iinc (y := (v3 + (nI 6))) [.ref 1, .ref 2, .ref 57, .int (v3 + (nI 6))] rfl rfl rfl (ginc _ 6) rfl ?_
    refine r_goto 10 rfl rfl ?_
    exact hK10 _ _ _ hr
  · rw [if_neg c76] at hr
    refine r_const rfl (gcst 0) ?_
    refine r_zret rfl (Or.inl rfl) ?_
    cases hr
    exact hQ
def r_L_law_308 (n f g : Nat) (K10 : Int32 → (Nat → Nat → Int32) → (Nat → Nat → Int64) → Option gRs) (v3 : Int32) (I : Nat → Nat → Int32) (L : Nat → Nat → Int64) : Option gRs := ((r_X7_frost f g I L).bind (fun z77 => ((r_X8_frost z77.2.1 z77.2.2).bind (fun z78 => (if z77.1 = z78.1 then (K10 (v3 + (nI 6)) z78.2.1 z78.2.2) else some ((nI 0), z78.2.1, z78.2.2))))))
set_option maxHeartbeats 4000000 in
set_option maxRecDepth 100000 in
theorem t_L_law_308 {n f g d : Nat} {Q : gP} {z : gRs} (hw : gfw f g) {K10 : Int32 → (Nat → Nat → Int32) → (Nat → Nat → Int64) → Option gRs} (hK10 : ∀ v3 I L, K10 v3 I L = some z → gW gM (d + 11) 0 0 k_L_law 10 [.ref 1, .ref 2, .ref 57, .int v3] [] (gKn n, gRf f g, I, L) Q) {v3 : Int32} {I : Nat → Nat → Int32} {L : Nat → Nat → Int64} (hr : r_L_law_308 n f g K10 v3 I L = some z) (hQ : Q (some (.int z.1)) (gKn n, gRf f g, z.2.1, z.2.2)) : gW gM (d + 11) 0 0 k_L_law 308 [.ref 1, .ref 2, .ref 57, .int v3] [] (gKn n, gRf f g, I, L) Q := by
  have hfe := hw.f
  have hfd := hw.g
  unfold r_L_law_308 at hr
  refine r_aload rfl rfl ?_
  obtain ⟨z77, hz77, hr⟩ := gbnd hr
  refine r_invv (a := 2) [] rfl rfl rfl rfl rfl (Nat.le_of_ble_eq_true rfl) ⟨rfl, rfl⟩ ?_
  refine s_X7_frost hw  hz77 ?_
  show gW _ _ _ _ _ 310 [.ref 1, .ref 2, .ref 57, .int v3] [.int z77.1] (gKn n, gRf f g, z77.2.1, z77.2.2) _
  refine r_aload rfl rfl ?_
  obtain ⟨z78, hz78, hr⟩ := gbnd hr
  refine r_invv (a := 57) [] rfl rfl rfl rfl rfl (Nat.le_of_ble_eq_true rfl) ⟨rfl, rfl⟩ ?_
  refine s_X8_frost  hz78 ?_
  show gW _ _ _ _ _ 312 [.ref 1, .ref 2, .ref 57, .int v3] [.int z78.1, .int z77.1] (gKn n, gRf f g, z78.2.1, z78.2.2) _
  refine r_icmp_eq 837 rfl rfl (fun c79 => ?_) (fun c79 => ?_)
  · rw [if_pos c79] at hr
    refine r_iinc (y := (v3 + (nI 6))) [.ref 1, .ref 2, .ref 57, .int (v3 + (nI 6))] rfl rfl rfl (ginc _ 6) rfl ?_
    refine r_goto 10 rfl rfl ?_
    exact hK10 _ _ _ hr
  · rw [if_neg c79] at hr
    refine r_const rfl (gcst 0) ?_
    refine r_zret rfl (Or.inl rfl) ?_
    cases hr
    exact hQ
def r_L_law_315 (n f g : Nat) (K10 : Int32 → (Nat → Nat → Int32) → (Nat → Nat → Int64) → Option gRs) (v3 : Int32) (I : Nat → Nat → Int32) (L : Nat → Nat → Int64) : Option gRs := ((r_X7_undo f g I L).bind (fun z80 => ((r_X8_undo z80.2.1 z80.2.2).bind (fun z81 => (if z80.1 = z81.1 then (K10 (v3 + (nI 6)) z81.2.1 z81.2.2) else some ((nI 0), z81.2.1, z81.2.2))))))
set_option maxHeartbeats 4000000 in
set_option maxRecDepth 100000 in
theorem t_L_law_315 {n f g d : Nat} {Q : gP} {z : gRs} (hw : gfw f g) {K10 : Int32 → (Nat → Nat → Int32) → (Nat → Nat → Int64) → Option gRs} (hK10 : ∀ v3 I L, K10 v3 I L = some z → gW gM (d + 11) 0 0 k_L_law 10 [.ref 1, .ref 2, .ref 57, .int v3] [] (gKn n, gRf f g, I, L) Q) {v3 : Int32} {I : Nat → Nat → Int32} {L : Nat → Nat → Int64} (hr : r_L_law_315 n f g K10 v3 I L = some z) (hQ : Q (some (.int z.1)) (gKn n, gRf f g, z.2.1, z.2.2)) : gW gM (d + 11) 0 0 k_L_law 315 [.ref 1, .ref 2, .ref 57, .int v3] [] (gKn n, gRf f g, I, L) Q := by
  have hfe := hw.f
  have hfd := hw.g
  unfold r_L_law_315 at hr
  refine r_aload rfl rfl ?_
  obtain ⟨z80, hz80, hr⟩ := gbnd hr
  refine r_invv (a := 2) [] rfl rfl rfl rfl rfl (Nat.le_of_ble_eq_true rfl) ⟨rfl, rfl⟩ ?_
  refine s_X7_undo hw  hz80 ?_
  show gW _ _ _ _ _ 317 [.ref 1, .ref 2, .ref 57, .int v3] [.int z80.1] (gKn n, gRf f g, z80.2.1, z80.2.2) _
  refine r_aload rfl rfl ?_
  obtain ⟨z81, hz81, hr⟩ := gbnd hr
  refine r_invv (a := 57) [] rfl rfl rfl rfl rfl (Nat.le_of_ble_eq_true rfl) ⟨rfl, rfl⟩ ?_
  refine s_X8_undo  hz81 ?_
  show gW _ _ _ _ _ 319 [.ref 1, .ref 2, .ref 57, .int v3] [.int z81.1, .int z80.1] (gKn n, gRf f g, z81.2.1, z81.2.2) _
  refine r_icmp_eq 837 rfl rfl (fun c82 => ?_) (fun c82 => ?_)
  · rw [if_pos c82] at hr
    refine r_iinc (y := (v3 + (nI 6))) [.ref 1, .ref 2, .ref 57, .int (v3 + (nI 6))] rfl rfl rfl (ginc _ 6) rfl ?_
    refine r_goto 10 rfl rfl ?_
    exact hK10 _ _ _ hr
  · rw [if_neg c82] at hr
    refine r_const rfl (gcst 0) ?_
    refine r_zret rfl (Or.inl rfl) ?_
    cases hr
    exact hQ
def r_L_law_322 (n f g : Nat) (K10 : Int32 → (Nat → Nat → Int32) → (Nat → Nat → Int64) → Option gRs) (v3 : Int32) (I : Nat → Nat → Int32) (L : Nat → Nat → Int64) : Option gRs := (if gvp (v3 + (nI 1)) n = true then ((r_X7_fit f g I L (I 1 (gx (v3 + (nI 1))))).bind (fun z84 => (if gvp (v3 + (nI 1)) n = true then ((r_X8_fit z84.2.1 z84.2.2 (z84.2.1 1 (gx (v3 + (nI 1))))).bind (fun z86 => (if z84.1 = z86.1 then (K10 (v3 + (nI 6)) z86.2.1 z86.2.2) else some ((nI 0), z86.2.1, z86.2.2)))) else none))) else none)
set_option maxHeartbeats 4000000 in
set_option maxRecDepth 100000 in
theorem t_L_law_322 {n f g d : Nat} {Q : gP} {z : gRs} (hw : gfw f g) {K10 : Int32 → (Nat → Nat → Int32) → (Nat → Nat → Int64) → Option gRs} (hK10 : ∀ v3 I L, K10 v3 I L = some z → gW gM (d + 11) 0 0 k_L_law 10 [.ref 1, .ref 2, .ref 57, .int v3] [] (gKn n, gRf f g, I, L) Q) {v3 : Int32} {I : Nat → Nat → Int32} {L : Nat → Nat → Int64} (hr : r_L_law_322 n f g K10 v3 I L = some z) (hQ : Q (some (.int z.1)) (gKn n, gRf f g, z.2.1, z.2.2)) : gW gM (d + 11) 0 0 k_L_law 322 [.ref 1, .ref 2, .ref 57, .int v3] [] (gKn n, gRf f g, I, L) Q := by
  have hfe := hw.f
  have hfd := hw.g
  unfold r_L_law_322 at hr
  refine r_aload rfl rfl ?_
  refine r_aload rfl rfl ?_
  refine r_iload rfl rfl ?_
  refine r_const rfl (gcst 1) ?_
  refine r_iadd rfl ?_
  obtain ⟨b83, hr⟩ := gopt hr
  refine r_iaload (n := n) rfl rfl (gvp_in b83) ?_
  obtain ⟨z84, hz84, hr⟩ := gbnd hr
  refine r_invv (a := 2) [.int (I 1 (gx (v3 + (nI 1))))] rfl rfl rfl rfl rfl (Nat.le_of_ble_eq_true rfl) ⟨rfl, rfl⟩ ?_
  refine s_X7_fit hw  hz84 ?_
  show gW _ _ _ _ _ 329 [.ref 1, .ref 2, .ref 57, .int v3] [.int z84.1] (gKn n, gRf f g, z84.2.1, z84.2.2) _
  refine r_aload rfl rfl ?_
  refine r_aload rfl rfl ?_
  refine r_iload rfl rfl ?_
  refine r_const rfl (gcst 1) ?_
  refine r_iadd rfl ?_
  obtain ⟨b85, hr⟩ := gopt hr
  refine r_iaload (n := n) rfl rfl (gvp_in b85) ?_
  obtain ⟨z86, hz86, hr⟩ := gbnd hr
  refine r_invv (a := 57) [.int (z84.2.1 1 (gx (v3 + (nI 1))))] rfl rfl rfl rfl rfl (Nat.le_of_ble_eq_true rfl) ⟨rfl, rfl⟩ ?_
  refine s_X8_fit  hz86 ?_
  show gW _ _ _ _ _ 336 [.ref 1, .ref 2, .ref 57, .int v3] [.int z86.1, .int z84.1] (gKn n, gRf f g, z86.2.1, z86.2.2) _
  refine r_icmp_eq 837 rfl rfl (fun c87 => ?_) (fun c87 => ?_)
  · rw [if_pos c87] at hr
    refine r_iinc (y := (v3 + (nI 6))) [.ref 1, .ref 2, .ref 57, .int (v3 + (nI 6))] rfl rfl rfl (ginc _ 6) rfl ?_
    refine r_goto 10 rfl rfl ?_
    exact hK10 _ _ _ hr
  · rw [if_neg c87] at hr
    refine r_const rfl (gcst 0) ?_
    refine r_zret rfl (Or.inl rfl) ?_
    cases hr
    exact hQ
def r_L_law_339 (n f g : Nat) (K10 : Int32 → (Nat → Nat → Int32) → (Nat → Nat → Int64) → Option gRs) (v3 : Int32) (I : Nat → Nat → Int32) (L : Nat → Nat → Int64) : Option gRs := (if gvp (v3 + (nI 1)) n = true then (if gvp (v3 + (nI 2)) n = true then (if gvp (v3 + (nI 3)) n = true then (if gvp (v3 + (nI 4)) n = true then ((r_X7_harmony f g I L (I 1 (gx (v3 + (nI 1)))) (I 1 (gx (v3 + (nI 2)))) (I 1 (gx (v3 + (nI 3)))) (I 1 (gx (v3 + (nI 4))))).bind (fun z92 => (if gvp (v3 + (nI 1)) n = true then (if gvp (v3 + (nI 2)) n = true then (if gvp (v3 + (nI 3)) n = true then (if gvp (v3 + (nI 4)) n = true then ((r_X8_harmony z92.2.1 z92.2.2 (z92.2.1 1 (gx (v3 + (nI 1)))) (z92.2.1 1 (gx (v3 + (nI 2)))) (z92.2.1 1 (gx (v3 + (nI 3)))) (z92.2.1 1 (gx (v3 + (nI 4))))).bind (fun z97 => (if z92.1 = z97.1 then (K10 (v3 + (nI 6)) z97.2.1 z97.2.2) else some ((nI 0), z97.2.1, z97.2.2)))) else none) else none) else none) else none))) else none) else none) else none) else none)
set_option maxHeartbeats 4000000 in
set_option maxRecDepth 100000 in
theorem t_L_law_339 {n f g d : Nat} {Q : gP} {z : gRs} (hw : gfw f g) {K10 : Int32 → (Nat → Nat → Int32) → (Nat → Nat → Int64) → Option gRs} (hK10 : ∀ v3 I L, K10 v3 I L = some z → gW gM (d + 11) 0 0 k_L_law 10 [.ref 1, .ref 2, .ref 57, .int v3] [] (gKn n, gRf f g, I, L) Q) {v3 : Int32} {I : Nat → Nat → Int32} {L : Nat → Nat → Int64} (hr : r_L_law_339 n f g K10 v3 I L = some z) (hQ : Q (some (.int z.1)) (gKn n, gRf f g, z.2.1, z.2.2)) : gW gM (d + 11) 0 0 k_L_law 339 [.ref 1, .ref 2, .ref 57, .int v3] [] (gKn n, gRf f g, I, L) Q := by
  have hfe := hw.f
  have hfd := hw.g
  unfold r_L_law_339 at hr
  refine r_aload rfl rfl ?_
  refine r_aload rfl rfl ?_
  refine r_iload rfl rfl ?_
  refine r_const rfl (gcst 1) ?_
  refine r_iadd rfl ?_
  obtain ⟨b88, hr⟩ := gopt hr
  refine r_iaload (n := n) rfl rfl (gvp_in b88) ?_
  refine r_aload rfl rfl ?_
  refine r_iload rfl rfl ?_
  refine r_const rfl (gcst 2) ?_
  refine r_iadd rfl ?_
  obtain ⟨b89, hr⟩ := gopt hr
  refine r_iaload (n := n) rfl rfl (gvp_in b89) ?_
  refine r_aload rfl rfl ?_
  refine r_iload rfl rfl ?_
  refine r_const rfl (gcst 3) ?_
  refine r_iadd rfl ?_
  obtain ⟨b90, hr⟩ := gopt hr
  refine r_iaload (n := n) rfl rfl (gvp_in b90) ?_
  refine r_aload rfl rfl ?_
  refine r_iload rfl rfl ?_
  refine r_const rfl (gcst 4) ?_
  refine r_iadd rfl ?_
  obtain ⟨b91, hr⟩ := gopt hr
  refine r_iaload (n := n) rfl rfl (gvp_in b91) ?_
  obtain ⟨z92, hz92, hr⟩ := gbnd hr
  refine r_invv (a := 2) [.int (I 1 (gx (v3 + (nI 1)))), .int (I 1 (gx (v3 + (nI 2)))), .int (I 1 (gx (v3 + (nI 3)))), .int (I 1 (gx (v3 + (nI 4))))] rfl rfl rfl rfl rfl (Nat.le_of_ble_eq_true rfl) ⟨rfl, rfl⟩ ?_
  refine s_X7_harmony hw  hz92 ?_
  show gW _ _ _ _ _ 361 [.ref 1, .ref 2, .ref 57, .int v3] [.int z92.1] (gKn n, gRf f g, z92.2.1, z92.2.2) _
  refine r_aload rfl rfl ?_
  refine r_aload rfl rfl ?_
  refine r_iload rfl rfl ?_
  refine r_const rfl (gcst 1) ?_
  refine r_iadd rfl ?_
  obtain ⟨b93, hr⟩ := gopt hr
  refine r_iaload (n := n) rfl rfl (gvp_in b93) ?_
  refine r_aload rfl rfl ?_
  refine r_iload rfl rfl ?_
  refine r_const rfl (gcst 2) ?_
  refine r_iadd rfl ?_
  obtain ⟨b94, hr⟩ := gopt hr
  refine r_iaload (n := n) rfl rfl (gvp_in b94) ?_
  refine r_aload rfl rfl ?_
  refine r_iload rfl rfl ?_
  refine r_const rfl (gcst 3) ?_
  refine r_iadd rfl ?_
  obtain ⟨b95, hr⟩ := gopt hr
  refine r_iaload (n := n) rfl rfl (gvp_in b95) ?_
  refine r_aload rfl rfl ?_
  refine r_iload rfl rfl ?_
  refine r_const rfl (gcst 4) ?_
  refine r_iadd rfl ?_
  obtain ⟨b96, hr⟩ := gopt hr
  refine r_iaload (n := n) rfl rfl (gvp_in b96) ?_
  obtain ⟨z97, hz97, hr⟩ := gbnd hr
  refine r_invv (a := 57) [.int (z92.2.1 1 (gx (v3 + (nI 1)))), .int (z92.2.1 1 (gx (v3 + (nI 2)))), .int (z92.2.1 1 (gx (v3 + (nI 3)))), .int (z92.2.1 1 (gx (v3 + (nI 4))))] rfl rfl rfl rfl rfl (Nat.le_of_ble_eq_true rfl) ⟨rfl, rfl⟩ ?_
  refine s_X8_harmony  hz97 ?_
  show gW _ _ _ _ _ 383 [.ref 1, .ref 2, .ref 57, .int v3] [.int z97.1, .int z92.1] (gKn n, gRf f g, z97.2.1, z97.2.2) _
  refine r_icmp_eq 837 rfl rfl (fun c98 => ?_) (fun c98 => ?_)
  · rw [if_pos c98] at hr
    refine r_iinc (y := (v3 + (nI 6))) [.ref 1, .ref 2, .ref 57, .int (v3 + (nI 6))] rfl rfl rfl (ginc _ 6) rfl ?_
    refine r_goto 10 rfl rfl ?_
    exact hK10 _ _ _ hr
  · rw [if_neg c98] at hr
    refine r_const rfl (gcst 0) ?_
    refine r_zret rfl (Or.inl rfl) ?_
    cases hr
    exact hQ
def r_L_law_386 (n f g : Nat) (K10 : Int32 → (Nat → Nat → Int32) → (Nat → Nat → Int64) → Option gRs) (v3 : Int32) (I : Nat → Nat → Int32) (L : Nat → Nat → Int64) : Option gRs := (if gvp (v3 + (nI 1)) n = true then (if gvp (v3 + (nI 2)) n = true then (if gvp (v3 + (nI 3)) n = true then ((r_X7_best f g I L (I 1 (gx (v3 + (nI 1)))) (I 1 (gx (v3 + (nI 2)))) (if (I 1 (gx (v3 + (nI 3)))) = 0 then (nI 0) else (nI 1))).bind (fun z103 => (if gvp (v3 + (nI 1)) n = true then (if gvp (v3 + (nI 2)) n = true then (if gvp (v3 + (nI 3)) n = true then ((r_X8_best z103.2.1 z103.2.2 (z103.2.1 1 (gx (v3 + (nI 1)))) (z103.2.1 1 (gx (v3 + (nI 2)))) (if (z103.2.1 1 (gx (v3 + (nI 3)))) = 0 then (nI 0) else (nI 1))).bind (fun z108 => (if z103.1 = z108.1 then (K10 (v3 + (nI 6)) z108.2.1 z108.2.2) else some ((nI 0), z108.2.1, z108.2.2)))) else none) else none) else none))) else none) else none) else none)
set_option maxHeartbeats 4000000 in
set_option maxRecDepth 100000 in
theorem t_L_law_386 {n f g d : Nat} {Q : gP} {z : gRs} (hw : gfw f g) {K10 : Int32 → (Nat → Nat → Int32) → (Nat → Nat → Int64) → Option gRs} (hK10 : ∀ v3 I L, K10 v3 I L = some z → gW gM (d + 11) 0 0 k_L_law 10 [.ref 1, .ref 2, .ref 57, .int v3] [] (gKn n, gRf f g, I, L) Q) {v3 : Int32} {I : Nat → Nat → Int32} {L : Nat → Nat → Int64} (hr : r_L_law_386 n f g K10 v3 I L = some z) (hQ : Q (some (.int z.1)) (gKn n, gRf f g, z.2.1, z.2.2)) : gW gM (d + 11) 0 0 k_L_law 386 [.ref 1, .ref 2, .ref 57, .int v3] [] (gKn n, gRf f g, I, L) Q := by
  have hfe := hw.f
  have hfd := hw.g
  unfold r_L_law_386 at hr
  refine r_aload rfl rfl ?_
  refine r_aload rfl rfl ?_
  refine r_iload rfl rfl ?_
  refine r_const rfl (gcst 1) ?_
  refine r_iadd rfl ?_
  obtain ⟨b99, hr⟩ := gopt hr
  refine r_iaload (n := n) rfl rfl (gvp_in b99) ?_
  refine r_aload rfl rfl ?_
  refine r_iload rfl rfl ?_
  refine r_const rfl (gcst 2) ?_
  refine r_iadd rfl ?_
  obtain ⟨b100, hr⟩ := gopt hr
  refine r_iaload (n := n) rfl rfl (gvp_in b100) ?_
  refine r_aload rfl rfl ?_
  refine r_iload rfl rfl ?_
  refine r_const rfl (gcst 3) ?_
  refine r_iadd rfl ?_
  obtain ⟨b101, hr⟩ := gopt hr
  refine r_iaload (n := n) rfl rfl (gvp_in b101) ?_
  have j110 : gW gM (d + 11) 0 0 k_L_law 406 [.ref 1, .ref 2, .ref 57, .int v3] [.int (if (I 1 (gx (v3 + (nI 3)))) = 0 then (nI 0) else (nI 1)), .int (I 1 (gx (v3 + (nI 2)))), .int (I 1 (gx (v3 + (nI 1)))), .ref 2] (gKn n, gRf f g, I, L) Q := by
    obtain ⟨z103, hz103, hr⟩ := gbnd hr
    refine r_invv (a := 2) [.int (I 1 (gx (v3 + (nI 1)))), .int (I 1 (gx (v3 + (nI 2)))), .int (if (I 1 (gx (v3 + (nI 3)))) = 0 then (nI 0) else (nI 1))] rfl rfl rfl rfl rfl (Nat.le_of_ble_eq_true rfl) ⟨rfl, rfl⟩ ?_
    refine s_X7_best hw  hz103 ?_
    show gW _ _ _ _ _ 407 [.ref 1, .ref 2, .ref 57, .int v3] [.int z103.1] (gKn n, gRf f g, z103.2.1, z103.2.2) _
    refine r_aload rfl rfl ?_
    refine r_aload rfl rfl ?_
    refine r_iload rfl rfl ?_
    refine r_const rfl (gcst 1) ?_
    refine r_iadd rfl ?_
    obtain ⟨b104, hr⟩ := gopt hr
    refine r_iaload (n := n) rfl rfl (gvp_in b104) ?_
    refine r_aload rfl rfl ?_
    refine r_iload rfl rfl ?_
    refine r_const rfl (gcst 2) ?_
    refine r_iadd rfl ?_
    obtain ⟨b105, hr⟩ := gopt hr
    refine r_iaload (n := n) rfl rfl (gvp_in b105) ?_
    refine r_aload rfl rfl ?_
    refine r_iload rfl rfl ?_
    refine r_const rfl (gcst 3) ?_
    refine r_iadd rfl ?_
    obtain ⟨b106, hr⟩ := gopt hr
    refine r_iaload (n := n) rfl rfl (gvp_in b106) ?_
    have j111 : gW gM (d + 11) 0 0 k_L_law 427 [.ref 1, .ref 2, .ref 57, .int v3] [.int (if (z103.2.1 1 (gx (v3 + (nI 3)))) = 0 then (nI 0) else (nI 1)), .int (z103.2.1 1 (gx (v3 + (nI 2)))), .int (z103.2.1 1 (gx (v3 + (nI 1)))), .ref 57, .int z103.1] (gKn n, gRf f g, z103.2.1, z103.2.2) Q := by
      obtain ⟨z108, hz108, hr⟩ := gbnd hr
      refine r_invv (a := 57) [.int (z103.2.1 1 (gx (v3 + (nI 1)))), .int (z103.2.1 1 (gx (v3 + (nI 2)))), .int (if (z103.2.1 1 (gx (v3 + (nI 3)))) = 0 then (nI 0) else (nI 1))] rfl rfl rfl rfl rfl (Nat.le_of_ble_eq_true rfl) ⟨rfl, rfl⟩ ?_
      refine s_X8_best  hz108 ?_
      show gW _ _ _ _ _ 428 [.ref 1, .ref 2, .ref 57, .int v3] [.int z108.1, .int z103.1] (gKn n, gRf f g, z108.2.1, z108.2.2) _
      refine r_icmp_eq 837 rfl rfl (fun c109 => ?_) (fun c109 => ?_)
      · rw [if_pos c109] at hr
        refine r_iinc (y := (v3 + (nI 6))) [.ref 1, .ref 2, .ref 57, .int (v3 + (nI 6))] rfl rfl rfl (ginc _ 6) rfl ?_
        refine r_goto 10 rfl rfl ?_
        exact hK10 _ _ _ hr
      · rw [if_neg c109] at hr
        refine r_const rfl (gcst 0) ?_
        refine r_zret rfl (Or.inl rfl) ?_
        cases hr
        exact hQ
    refine r_if_eq 426 rfl rfl (fun c107 => ?_) (fun c107 => ?_)
    · refine r_const rfl (gcst 0) ?_
      first | contradiction | simpa only [if_pos c107] using j111
    · refine r_const rfl (gcst 1) ?_
      refine r_goto 427 rfl rfl ?_
      first | contradiction | simpa only [if_neg c107] using j111
  refine r_if_eq 405 rfl rfl (fun c102 => ?_) (fun c102 => ?_)
  · refine r_const rfl (gcst 0) ?_
    first | contradiction | simpa only [if_pos c102] using j110
  · refine r_const rfl (gcst 1) ?_
    refine r_goto 406 rfl rfl ?_
    first | contradiction | simpa only [if_neg c102] using j110
def r_L_law_431 (n f g : Nat) (K10 : Int32 → (Nat → Nat → Int32) → (Nat → Nat → Int64) → Option gRs) (v3 : Int32) (I : Nat → Nat → Int32) (L : Nat → Nat → Int64) : Option gRs := (if gvp (v3 + (nI 1)) n = true then ((r_X7_fewest f g I L (I 1 (gx (v3 + (nI 1))))).bind (fun z113 => (if gvp (v3 + (nI 1)) n = true then ((r_X8_fewest z113.2.1 z113.2.2 (z113.2.1 1 (gx (v3 + (nI 1))))).bind (fun z115 => (if z113.1 = z115.1 then (K10 (v3 + (nI 6)) z115.2.1 z115.2.2) else some ((nI 0), z115.2.1, z115.2.2)))) else none))) else none)
set_option maxHeartbeats 4000000 in
set_option maxRecDepth 100000 in
theorem t_L_law_431 {n f g d : Nat} {Q : gP} {z : gRs} (hw : gfw f g) {K10 : Int32 → (Nat → Nat → Int32) → (Nat → Nat → Int64) → Option gRs} (hK10 : ∀ v3 I L, K10 v3 I L = some z → gW gM (d + 11) 0 0 k_L_law 10 [.ref 1, .ref 2, .ref 57, .int v3] [] (gKn n, gRf f g, I, L) Q) {v3 : Int32} {I : Nat → Nat → Int32} {L : Nat → Nat → Int64} (hr : r_L_law_431 n f g K10 v3 I L = some z) (hQ : Q (some (.int z.1)) (gKn n, gRf f g, z.2.1, z.2.2)) : gW gM (d + 11) 0 0 k_L_law 431 [.ref 1, .ref 2, .ref 57, .int v3] [] (gKn n, gRf f g, I, L) Q := by
  have hfe := hw.f
  have hfd := hw.g
  unfold r_L_law_431 at hr
  refine r_aload rfl rfl ?_
  refine r_aload rfl rfl ?_
  refine r_iload rfl rfl ?_
  refine r_const rfl (gcst 1) ?_
  refine r_iadd rfl ?_
  obtain ⟨b112, hr⟩ := gopt hr
  refine r_iaload (n := n) rfl rfl (gvp_in b112) ?_
  obtain ⟨z113, hz113, hr⟩ := gbnd hr
  refine r_invv (a := 2) [.int (I 1 (gx (v3 + (nI 1))))] rfl rfl rfl rfl rfl (Nat.le_of_ble_eq_true rfl) ⟨rfl, rfl⟩ ?_
  refine s_X7_fewest hw  hz113 ?_
  show gW _ _ _ _ _ 438 [.ref 1, .ref 2, .ref 57, .int v3] [.int z113.1] (gKn n, gRf f g, z113.2.1, z113.2.2) _
  refine r_aload rfl rfl ?_
  refine r_aload rfl rfl ?_
  refine r_iload rfl rfl ?_
  refine r_const rfl (gcst 1) ?_
  refine r_iadd rfl ?_
  obtain ⟨b114, hr⟩ := gopt hr
  refine r_iaload (n := n) rfl rfl (gvp_in b114) ?_
  obtain ⟨z115, hz115, hr⟩ := gbnd hr
  refine r_invv (a := 57) [.int (z113.2.1 1 (gx (v3 + (nI 1))))] rfl rfl rfl rfl rfl (Nat.le_of_ble_eq_true rfl) ⟨rfl, rfl⟩ ?_
  refine s_X8_fewest  hz115 ?_
  show gW _ _ _ _ _ 445 [.ref 1, .ref 2, .ref 57, .int v3] [.int z115.1, .int z113.1] (gKn n, gRf f g, z115.2.1, z115.2.2) _
  refine r_icmp_eq 837 rfl rfl (fun c116 => ?_) (fun c116 => ?_)
  · rw [if_pos c116] at hr
    refine r_iinc (y := (v3 + (nI 6))) [.ref 1, .ref 2, .ref 57, .int (v3 + (nI 6))] rfl rfl rfl (ginc _ 6) rfl ?_
    refine r_goto 10 rfl rfl ?_
    exact hK10 _ _ _ hr
  · rw [if_neg c116] at hr
    refine r_const rfl (gcst 0) ?_
    refine r_zret rfl (Or.inl rfl) ?_
    cases hr
    exact hQ
def r_L_law_448 (n f g : Nat) (K10 : Int32 → (Nat → Nat → Int32) → (Nat → Nat → Int64) → Option gRs) (v3 : Int32) (I : Nat → Nat → Int32) (L : Nat → Nat → Int64) : Option gRs := (if gvp (v3 + (nI 1)) n = true then (if gvp (v3 + (nI 2)) n = true then ((r_X7_has f g I L (I 1 (gx (v3 + (nI 1)))) (I 1 (gx (v3 + (nI 2))))).bind (fun z119 => (if gvp (v3 + (nI 1)) n = true then (if gvp (v3 + (nI 2)) n = true then ((r_X8_has z119.2.1 z119.2.2 (z119.2.1 1 (gx (v3 + (nI 1)))) (z119.2.1 1 (gx (v3 + (nI 2))))).bind (fun z122 => (if z119.1 = z122.1 then (K10 (v3 + (nI 6)) z122.2.1 z122.2.2) else some ((nI 0), z122.2.1, z122.2.2)))) else none) else none))) else none) else none)
set_option maxHeartbeats 4000000 in
set_option maxRecDepth 100000 in
theorem t_L_law_448 {n f g d : Nat} {Q : gP} {z : gRs} (hw : gfw f g) {K10 : Int32 → (Nat → Nat → Int32) → (Nat → Nat → Int64) → Option gRs} (hK10 : ∀ v3 I L, K10 v3 I L = some z → gW gM (d + 11) 0 0 k_L_law 10 [.ref 1, .ref 2, .ref 57, .int v3] [] (gKn n, gRf f g, I, L) Q) {v3 : Int32} {I : Nat → Nat → Int32} {L : Nat → Nat → Int64} (hr : r_L_law_448 n f g K10 v3 I L = some z) (hQ : Q (some (.int z.1)) (gKn n, gRf f g, z.2.1, z.2.2)) : gW gM (d + 11) 0 0 k_L_law 448 [.ref 1, .ref 2, .ref 57, .int v3] [] (gKn n, gRf f g, I, L) Q := by
  have hfe := hw.f
  have hfd := hw.g
  unfold r_L_law_448 at hr
  refine r_aload rfl rfl ?_
  refine r_aload rfl rfl ?_
  refine r_iload rfl rfl ?_
  refine r_const rfl (gcst 1) ?_
  refine r_iadd rfl ?_
  obtain ⟨b117, hr⟩ := gopt hr
  refine r_iaload (n := n) rfl rfl (gvp_in b117) ?_
  refine r_aload rfl rfl ?_
  refine r_iload rfl rfl ?_
  refine r_const rfl (gcst 2) ?_
  refine r_iadd rfl ?_
  obtain ⟨b118, hr⟩ := gopt hr
  refine r_iaload (n := n) rfl rfl (gvp_in b118) ?_
  obtain ⟨z119, hz119, hr⟩ := gbnd hr
  refine r_invv (a := 2) [.int (I 1 (gx (v3 + (nI 1)))), .int (I 1 (gx (v3 + (nI 2))))] rfl rfl rfl rfl rfl (Nat.le_of_ble_eq_true rfl) ⟨rfl, rfl⟩ ?_
  refine s_X7_has hw  hz119 ?_
  show gW _ _ _ _ _ 460 [.ref 1, .ref 2, .ref 57, .int v3] [.int z119.1] (gKn n, gRf f g, z119.2.1, z119.2.2) _
  refine r_aload rfl rfl ?_
  refine r_aload rfl rfl ?_
  refine r_iload rfl rfl ?_
  refine r_const rfl (gcst 1) ?_
  refine r_iadd rfl ?_
  obtain ⟨b120, hr⟩ := gopt hr
  refine r_iaload (n := n) rfl rfl (gvp_in b120) ?_
  refine r_aload rfl rfl ?_
  refine r_iload rfl rfl ?_
  refine r_const rfl (gcst 2) ?_
  refine r_iadd rfl ?_
  obtain ⟨b121, hr⟩ := gopt hr
  refine r_iaload (n := n) rfl rfl (gvp_in b121) ?_
  obtain ⟨z122, hz122, hr⟩ := gbnd hr
  refine r_invv (a := 57) [.int (z119.2.1 1 (gx (v3 + (nI 1)))), .int (z119.2.1 1 (gx (v3 + (nI 2))))] rfl rfl rfl rfl rfl (Nat.le_of_ble_eq_true rfl) ⟨rfl, rfl⟩ ?_
  refine s_X8_has  hz122 ?_
  show gW _ _ _ _ _ 472 [.ref 1, .ref 2, .ref 57, .int v3] [.int z122.1, .int z119.1] (gKn n, gRf f g, z122.2.1, z122.2.2) _
  refine r_icmp_eq 837 rfl rfl (fun c123 => ?_) (fun c123 => ?_)
  · rw [if_pos c123] at hr
    refine r_iinc (y := (v3 + (nI 6))) [.ref 1, .ref 2, .ref 57, .int (v3 + (nI 6))] rfl rfl rfl (ginc _ 6) rfl ?_
    refine r_goto 10 rfl rfl ?_
    exact hK10 _ _ _ hr
  · rw [if_neg c123] at hr
    refine r_const rfl (gcst 0) ?_
    refine r_zret rfl (Or.inl rfl) ?_
    cases hr
    exact hQ
def r_L_law_475 (n f g : Nat) (K10 : Int32 → (Nat → Nat → Int32) → (Nat → Nat → Int64) → Option gRs) (v3 : Int32) (I : Nat → Nat → Int32) (L : Nat → Nat → Int64) : Option gRs := (if gvp (v3 + (nI 1)) n = true then ((r_X7_silence f g I L (I 1 (gx (v3 + (nI 1))))).bind (fun z125 => (if gvp (v3 + (nI 1)) n = true then ((r_X8_silence z125.2.1 z125.2.2 (z125.2.1 1 (gx (v3 + (nI 1))))).bind (fun z127 => (if z125.1 = z127.1 then (K10 (v3 + (nI 6)) z127.2.1 z127.2.2) else some ((nI 0), z127.2.1, z127.2.2)))) else none))) else none)
set_option maxHeartbeats 4000000 in
set_option maxRecDepth 100000 in
theorem t_L_law_475 {n f g d : Nat} {Q : gP} {z : gRs} (hw : gfw f g) {K10 : Int32 → (Nat → Nat → Int32) → (Nat → Nat → Int64) → Option gRs} (hK10 : ∀ v3 I L, K10 v3 I L = some z → gW gM (d + 11) 0 0 k_L_law 10 [.ref 1, .ref 2, .ref 57, .int v3] [] (gKn n, gRf f g, I, L) Q) {v3 : Int32} {I : Nat → Nat → Int32} {L : Nat → Nat → Int64} (hr : r_L_law_475 n f g K10 v3 I L = some z) (hQ : Q (some (.int z.1)) (gKn n, gRf f g, z.2.1, z.2.2)) : gW gM (d + 11) 0 0 k_L_law 475 [.ref 1, .ref 2, .ref 57, .int v3] [] (gKn n, gRf f g, I, L) Q := by
  have hfe := hw.f
  have hfd := hw.g
  unfold r_L_law_475 at hr
  refine r_aload rfl rfl ?_
  refine r_aload rfl rfl ?_
  refine r_iload rfl rfl ?_
  refine r_const rfl (gcst 1) ?_
  refine r_iadd rfl ?_
  obtain ⟨b124, hr⟩ := gopt hr
  refine r_iaload (n := n) rfl rfl (gvp_in b124) ?_
  obtain ⟨z125, hz125, hr⟩ := gbnd hr
  refine r_invv (a := 2) [.int (I 1 (gx (v3 + (nI 1))))] rfl rfl rfl rfl rfl (Nat.le_of_ble_eq_true rfl) ⟨rfl, rfl⟩ ?_
  refine s_X7_silence hw  hz125 ?_
  show gW _ _ _ _ _ 482 [.ref 1, .ref 2, .ref 57, .int v3] [.int z125.1] (gKn n, gRf f g, z125.2.1, z125.2.2) _
  refine r_aload rfl rfl ?_
  refine r_aload rfl rfl ?_
  refine r_iload rfl rfl ?_
  refine r_const rfl (gcst 1) ?_
  refine r_iadd rfl ?_
  obtain ⟨b126, hr⟩ := gopt hr
  refine r_iaload (n := n) rfl rfl (gvp_in b126) ?_
  obtain ⟨z127, hz127, hr⟩ := gbnd hr
  refine r_invv (a := 57) [.int (z125.2.1 1 (gx (v3 + (nI 1))))] rfl rfl rfl rfl rfl (Nat.le_of_ble_eq_true rfl) ⟨rfl, rfl⟩ ?_
  refine s_X8_silence  hz127 ?_
  show gW _ _ _ _ _ 489 [.ref 1, .ref 2, .ref 57, .int v3] [.int z127.1, .int z125.1] (gKn n, gRf f g, z127.2.1, z127.2.2) _
  refine r_icmp_eq 837 rfl rfl (fun c128 => ?_) (fun c128 => ?_)
  · rw [if_pos c128] at hr
    refine r_iinc (y := (v3 + (nI 6))) [.ref 1, .ref 2, .ref 57, .int (v3 + (nI 6))] rfl rfl rfl (ginc _ 6) rfl ?_
    refine r_goto 10 rfl rfl ?_
    exact hK10 _ _ _ hr
  · rw [if_neg c128] at hr
    refine r_const rfl (gcst 0) ?_
    refine r_zret rfl (Or.inl rfl) ?_
    cases hr
    exact hQ
def r_L_law_492 (n f g : Nat) (K10 : Int32 → (Nat → Nat → Int32) → (Nat → Nat → Int64) → Option gRs) (v3 : Int32) (I : Nat → Nat → Int32) (L : Nat → Nat → Int64) : Option gRs := (if gvp (v3 + (nI 1)) n = true then (if gvp (v3 + (nI 2)) n = true then ((r_X7_judge f g I L (I 1 (gx (v3 + (nI 1)))) (I 1 (gx (v3 + (nI 2))))).bind (fun z131 => (if gvp (v3 + (nI 1)) n = true then (if gvp (v3 + (nI 2)) n = true then ((r_X8_judge z131.2.1 z131.2.2 (z131.2.1 1 (gx (v3 + (nI 1)))) (z131.2.1 1 (gx (v3 + (nI 2))))).bind (fun z134 => (if z131.1 = z134.1 then (K10 (v3 + (nI 6)) z134.2.1 z134.2.2) else some ((nI 0), z134.2.1, z134.2.2)))) else none) else none))) else none) else none)
set_option maxHeartbeats 4000000 in
set_option maxRecDepth 100000 in
theorem t_L_law_492 {n f g d : Nat} {Q : gP} {z : gRs} (hw : gfw f g) {K10 : Int32 → (Nat → Nat → Int32) → (Nat → Nat → Int64) → Option gRs} (hK10 : ∀ v3 I L, K10 v3 I L = some z → gW gM (d + 11) 0 0 k_L_law 10 [.ref 1, .ref 2, .ref 57, .int v3] [] (gKn n, gRf f g, I, L) Q) {v3 : Int32} {I : Nat → Nat → Int32} {L : Nat → Nat → Int64} (hr : r_L_law_492 n f g K10 v3 I L = some z) (hQ : Q (some (.int z.1)) (gKn n, gRf f g, z.2.1, z.2.2)) : gW gM (d + 11) 0 0 k_L_law 492 [.ref 1, .ref 2, .ref 57, .int v3] [] (gKn n, gRf f g, I, L) Q := by
  have hfe := hw.f
  have hfd := hw.g
  unfold r_L_law_492 at hr
  refine r_aload rfl rfl ?_
  refine r_aload rfl rfl ?_
  refine r_iload rfl rfl ?_
  refine r_const rfl (gcst 1) ?_
  refine r_iadd rfl ?_
  obtain ⟨b129, hr⟩ := gopt hr
  refine r_iaload (n := n) rfl rfl (gvp_in b129) ?_
  refine r_aload rfl rfl ?_
  refine r_iload rfl rfl ?_
  refine r_const rfl (gcst 2) ?_
  refine r_iadd rfl ?_
  obtain ⟨b130, hr⟩ := gopt hr
  refine r_iaload (n := n) rfl rfl (gvp_in b130) ?_
  obtain ⟨z131, hz131, hr⟩ := gbnd hr
  refine r_invv (a := 2) [.int (I 1 (gx (v3 + (nI 1)))), .int (I 1 (gx (v3 + (nI 2))))] rfl rfl rfl rfl rfl (Nat.le_of_ble_eq_true rfl) ⟨rfl, rfl⟩ ?_
  refine s_X7_judge hw  hz131 ?_
  show gW _ _ _ _ _ 504 [.ref 1, .ref 2, .ref 57, .int v3] [.int z131.1] (gKn n, gRf f g, z131.2.1, z131.2.2) _
  refine r_aload rfl rfl ?_
  refine r_aload rfl rfl ?_
  refine r_iload rfl rfl ?_
  refine r_const rfl (gcst 1) ?_
  refine r_iadd rfl ?_
  obtain ⟨b132, hr⟩ := gopt hr
  refine r_iaload (n := n) rfl rfl (gvp_in b132) ?_
  refine r_aload rfl rfl ?_
  refine r_iload rfl rfl ?_
  refine r_const rfl (gcst 2) ?_
  refine r_iadd rfl ?_
  obtain ⟨b133, hr⟩ := gopt hr
  refine r_iaload (n := n) rfl rfl (gvp_in b133) ?_
  obtain ⟨z134, hz134, hr⟩ := gbnd hr
  refine r_invv (a := 57) [.int (z131.2.1 1 (gx (v3 + (nI 1)))), .int (z131.2.1 1 (gx (v3 + (nI 2))))] rfl rfl rfl rfl rfl (Nat.le_of_ble_eq_true rfl) ⟨rfl, rfl⟩ ?_
  refine s_X8_judge  hz134 ?_
  show gW _ _ _ _ _ 516 [.ref 1, .ref 2, .ref 57, .int v3] [.int z134.1, .int z131.1] (gKn n, gRf f g, z134.2.1, z134.2.2) _
  refine r_icmp_eq 837 rfl rfl (fun c135 => ?_) (fun c135 => ?_)
  · rw [if_pos c135] at hr
    refine r_iinc (y := (v3 + (nI 6))) [.ref 1, .ref 2, .ref 57, .int (v3 + (nI 6))] rfl rfl rfl (ginc _ 6) rfl ?_
    refine r_goto 10 rfl rfl ?_
    exact hK10 _ _ _ hr
  · rw [if_neg c135] at hr
    refine r_const rfl (gcst 0) ?_
    refine r_zret rfl (Or.inl rfl) ?_
    cases hr
    exact hQ
def r_L_law_519 (n f g : Nat) (K10 : Int32 → (Nat → Nat → Int32) → (Nat → Nat → Int64) → Option gRs) (v3 : Int32) (I : Nat → Nat → Int32) (L : Nat → Nat → Int64) : Option gRs := (if gvp (v3 + (nI 1)) n = true then (if gvp (v3 + (nI 2)) n = true then (if gvp (v3 + (nI 3)) n = true then ((r_X7_hear f g I L (I 1 (gx (v3 + (nI 1)))) (I 1 (gx (v3 + (nI 2)))) (I 1 (gx (v3 + (nI 3))))).bind (fun z139 => (if gvp (v3 + (nI 1)) n = true then (if gvp (v3 + (nI 2)) n = true then (if gvp (v3 + (nI 3)) n = true then ((r_X8_hear z139.2.1 z139.2.2 (z139.2.1 1 (gx (v3 + (nI 1)))) (z139.2.1 1 (gx (v3 + (nI 2)))) (z139.2.1 1 (gx (v3 + (nI 3))))).bind (fun z143 => (if z139.1 = z143.1 then (K10 (v3 + (nI 6)) z143.2.1 z143.2.2) else some ((nI 0), z143.2.1, z143.2.2)))) else none) else none) else none))) else none) else none) else none)
set_option maxHeartbeats 4000000 in
set_option maxRecDepth 100000 in
theorem t_L_law_519 {n f g d : Nat} {Q : gP} {z : gRs} (hw : gfw f g) {K10 : Int32 → (Nat → Nat → Int32) → (Nat → Nat → Int64) → Option gRs} (hK10 : ∀ v3 I L, K10 v3 I L = some z → gW gM (d + 11) 0 0 k_L_law 10 [.ref 1, .ref 2, .ref 57, .int v3] [] (gKn n, gRf f g, I, L) Q) {v3 : Int32} {I : Nat → Nat → Int32} {L : Nat → Nat → Int64} (hr : r_L_law_519 n f g K10 v3 I L = some z) (hQ : Q (some (.int z.1)) (gKn n, gRf f g, z.2.1, z.2.2)) : gW gM (d + 11) 0 0 k_L_law 519 [.ref 1, .ref 2, .ref 57, .int v3] [] (gKn n, gRf f g, I, L) Q := by
  have hfe := hw.f
  have hfd := hw.g
  unfold r_L_law_519 at hr
  refine r_aload rfl rfl ?_
  refine r_aload rfl rfl ?_
  refine r_iload rfl rfl ?_
  refine r_const rfl (gcst 1) ?_
  refine r_iadd rfl ?_
  obtain ⟨b136, hr⟩ := gopt hr
  refine r_iaload (n := n) rfl rfl (gvp_in b136) ?_
  refine r_aload rfl rfl ?_
  refine r_iload rfl rfl ?_
  refine r_const rfl (gcst 2) ?_
  refine r_iadd rfl ?_
  obtain ⟨b137, hr⟩ := gopt hr
  refine r_iaload (n := n) rfl rfl (gvp_in b137) ?_
  refine r_aload rfl rfl ?_
  refine r_iload rfl rfl ?_
  refine r_const rfl (gcst 3) ?_
  refine r_iadd rfl ?_
  obtain ⟨b138, hr⟩ := gopt hr
  refine r_iaload (n := n) rfl rfl (gvp_in b138) ?_
  obtain ⟨z139, hz139, hr⟩ := gbnd hr
  refine r_invv (a := 2) [.int (I 1 (gx (v3 + (nI 1)))), .int (I 1 (gx (v3 + (nI 2)))), .int (I 1 (gx (v3 + (nI 3))))] rfl rfl rfl rfl rfl (Nat.le_of_ble_eq_true rfl) ⟨rfl, rfl⟩ ?_
  refine s_X7_hear hw  hz139 ?_
  show gW _ _ _ _ _ 536 [.ref 1, .ref 2, .ref 57, .int v3] [.int z139.1] (gKn n, gRf f g, z139.2.1, z139.2.2) _
  refine r_aload rfl rfl ?_
  refine r_aload rfl rfl ?_
  refine r_iload rfl rfl ?_
  refine r_const rfl (gcst 1) ?_
  refine r_iadd rfl ?_
  obtain ⟨b140, hr⟩ := gopt hr
  refine r_iaload (n := n) rfl rfl (gvp_in b140) ?_
  refine r_aload rfl rfl ?_
  refine r_iload rfl rfl ?_
  refine r_const rfl (gcst 2) ?_
  refine r_iadd rfl ?_
  obtain ⟨b141, hr⟩ := gopt hr
  refine r_iaload (n := n) rfl rfl (gvp_in b141) ?_
  refine r_aload rfl rfl ?_
  refine r_iload rfl rfl ?_
  refine r_const rfl (gcst 3) ?_
  refine r_iadd rfl ?_
  obtain ⟨b142, hr⟩ := gopt hr
  refine r_iaload (n := n) rfl rfl (gvp_in b142) ?_
  obtain ⟨z143, hz143, hr⟩ := gbnd hr
  refine r_invv (a := 57) [.int (z139.2.1 1 (gx (v3 + (nI 1)))), .int (z139.2.1 1 (gx (v3 + (nI 2)))), .int (z139.2.1 1 (gx (v3 + (nI 3))))] rfl rfl rfl rfl rfl (Nat.le_of_ble_eq_true rfl) ⟨rfl, rfl⟩ ?_
  refine s_X8_hear  hz143 ?_
  show gW _ _ _ _ _ 553 [.ref 1, .ref 2, .ref 57, .int v3] [.int z143.1, .int z139.1] (gKn n, gRf f g, z143.2.1, z143.2.2) _
  refine r_icmp_eq 837 rfl rfl (fun c144 => ?_) (fun c144 => ?_)
  · rw [if_pos c144] at hr
    refine r_iinc (y := (v3 + (nI 6))) [.ref 1, .ref 2, .ref 57, .int (v3 + (nI 6))] rfl rfl rfl (ginc _ 6) rfl ?_
    refine r_goto 10 rfl rfl ?_
    exact hK10 _ _ _ hr
  · rw [if_neg c144] at hr
    refine r_const rfl (gcst 0) ?_
    refine r_zret rfl (Or.inl rfl) ?_
    cases hr
    exact hQ
def r_L_law_556 (n f g : Nat) (K10 : Int32 → (Nat → Nat → Int32) → (Nat → Nat → Int64) → Option gRs) (v3 : Int32) (I : Nat → Nat → Int32) (L : Nat → Nat → Int64) : Option gRs := (if (f_X7_unhear f g I L) = (f_X8_unhear (i_X7_unhear f g I L) L) then (K10 (v3 + (nI 6)) (i_X8_unhear (i_X7_unhear f g I L) L) L) else some ((nI 0), (i_X8_unhear (i_X7_unhear f g I L) L), L))
set_option maxHeartbeats 4000000 in
set_option maxRecDepth 100000 in
theorem t_L_law_556 {n f g d : Nat} {Q : gP} {z : gRs} (hw : gfw f g) {K10 : Int32 → (Nat → Nat → Int32) → (Nat → Nat → Int64) → Option gRs} (hK10 : ∀ v3 I L, K10 v3 I L = some z → gW gM (d + 11) 0 0 k_L_law 10 [.ref 1, .ref 2, .ref 57, .int v3] [] (gKn n, gRf f g, I, L) Q) {v3 : Int32} {I : Nat → Nat → Int32} {L : Nat → Nat → Int64} (hr : r_L_law_556 n f g K10 v3 I L = some z) (hQ : Q (some (.int z.1)) (gKn n, gRf f g, z.2.1, z.2.2)) : gW gM (d + 11) 0 0 k_L_law 556 [.ref 1, .ref 2, .ref 57, .int v3] [] (gKn n, gRf f g, I, L) Q := by
  have hfe := hw.f
  have hfd := hw.g
  unfold r_L_law_556 at hr
  refine r_aload rfl rfl ?_
  refine r_invv (a := 2) [] rfl rfl rfl rfl rfl (Nat.le_of_ble_eq_true rfl) ⟨rfl, rfl⟩ ?_
  refine s_X7_unhear hw  ?_
  show gW _ _ _ _ _ 558 [.ref 1, .ref 2, .ref 57, .int v3] [.int (f_X7_unhear f g I L)] (gKn n, gRf f g, (i_X7_unhear f g I L), L) _
  refine r_aload rfl rfl ?_
  refine r_invv (a := 57) [] rfl rfl rfl rfl rfl (Nat.le_of_ble_eq_true rfl) ⟨rfl, rfl⟩ ?_
  refine s_X8_unhear  ?_
  show gW _ _ _ _ _ 560 [.ref 1, .ref 2, .ref 57, .int v3] [.int (f_X8_unhear (i_X7_unhear f g I L) L), .int (f_X7_unhear f g I L)] (gKn n, gRf f g, (i_X8_unhear (i_X7_unhear f g I L) L), L) _
  refine r_icmp_eq 837 rfl rfl (fun c145 => ?_) (fun c145 => ?_)
  · rw [if_pos c145] at hr
    refine r_iinc (y := (v3 + (nI 6))) [.ref 1, .ref 2, .ref 57, .int (v3 + (nI 6))] rfl rfl rfl (ginc _ 6) rfl ?_
    refine r_goto 10 rfl rfl ?_
    exact hK10 _ _ _ hr
  · rw [if_neg c145] at hr
    refine r_const rfl (gcst 0) ?_
    refine r_zret rfl (Or.inl rfl) ?_
    cases hr
    exact hQ
def r_L_law_563 (n f g : Nat) (K10 : Int32 → (Nat → Nat → Int32) → (Nat → Nat → Int64) → Option gRs) (v3 : Int32) (I : Nat → Nat → Int32) (L : Nat → Nat → Int64) : Option gRs := (if gvp (v3 + (nI 1)) n = true then ((r_X7_weights f g I L (I 1 (gx (v3 + (nI 1))))).bind (fun z147 => (if gvp (v3 + (nI 1)) n = true then ((r_X8_weights z147.2.1 z147.2.2 (z147.2.1 1 (gx (v3 + (nI 1))))).bind (fun z149 => (if z147.1 = z149.1 then (K10 (v3 + (nI 6)) z149.2.1 z149.2.2) else some ((nI 0), z149.2.1, z149.2.2)))) else none))) else none)
set_option maxHeartbeats 4000000 in
set_option maxRecDepth 100000 in
theorem t_L_law_563 {n f g d : Nat} {Q : gP} {z : gRs} (hw : gfw f g) {K10 : Int32 → (Nat → Nat → Int32) → (Nat → Nat → Int64) → Option gRs} (hK10 : ∀ v3 I L, K10 v3 I L = some z → gW gM (d + 11) 0 0 k_L_law 10 [.ref 1, .ref 2, .ref 57, .int v3] [] (gKn n, gRf f g, I, L) Q) {v3 : Int32} {I : Nat → Nat → Int32} {L : Nat → Nat → Int64} (hr : r_L_law_563 n f g K10 v3 I L = some z) (hQ : Q (some (.int z.1)) (gKn n, gRf f g, z.2.1, z.2.2)) : gW gM (d + 11) 0 0 k_L_law 563 [.ref 1, .ref 2, .ref 57, .int v3] [] (gKn n, gRf f g, I, L) Q := by
  have hfe := hw.f
  have hfd := hw.g
  unfold r_L_law_563 at hr
  refine r_aload rfl rfl ?_
  refine r_aload rfl rfl ?_
  refine r_iload rfl rfl ?_
  refine r_const rfl (gcst 1) ?_
  refine r_iadd rfl ?_
  obtain ⟨b146, hr⟩ := gopt hr
  refine r_iaload (n := n) rfl rfl (gvp_in b146) ?_
  obtain ⟨z147, hz147, hr⟩ := gbnd hr
  refine r_invv (a := 2) [.int (I 1 (gx (v3 + (nI 1))))] rfl rfl rfl rfl rfl (Nat.le_of_ble_eq_true rfl) ⟨rfl, rfl⟩ ?_
  refine s_X7_weights hw  hz147 ?_
  show gW _ _ _ _ _ 570 [.ref 1, .ref 2, .ref 57, .int v3] [.int z147.1] (gKn n, gRf f g, z147.2.1, z147.2.2) _
  refine r_aload rfl rfl ?_
  refine r_aload rfl rfl ?_
  refine r_iload rfl rfl ?_
  refine r_const rfl (gcst 1) ?_
  refine r_iadd rfl ?_
  obtain ⟨b148, hr⟩ := gopt hr
  refine r_iaload (n := n) rfl rfl (gvp_in b148) ?_
  obtain ⟨z149, hz149, hr⟩ := gbnd hr
  refine r_invv (a := 57) [.int (z147.2.1 1 (gx (v3 + (nI 1))))] rfl rfl rfl rfl rfl (Nat.le_of_ble_eq_true rfl) ⟨rfl, rfl⟩ ?_
  refine s_X8_weights  hz149 ?_
  show gW _ _ _ _ _ 577 [.ref 1, .ref 2, .ref 57, .int v3] [.int z149.1, .int z147.1] (gKn n, gRf f g, z149.2.1, z149.2.2) _
  refine r_icmp_eq 837 rfl rfl (fun c150 => ?_) (fun c150 => ?_)
  · rw [if_pos c150] at hr
    refine r_iinc (y := (v3 + (nI 6))) [.ref 1, .ref 2, .ref 57, .int (v3 + (nI 6))] rfl rfl rfl (ginc _ 6) rfl ?_
    refine r_goto 10 rfl rfl ?_
    exact hK10 _ _ _ hr
  · rw [if_neg c150] at hr
    refine r_const rfl (gcst 0) ?_
    refine r_zret rfl (Or.inl rfl) ?_
    cases hr
    exact hQ
def r_L_law_580 (n f g : Nat) (K10 : Int32 → (Nat → Nat → Int32) → (Nat → Nat → Int64) → Option gRs) (v3 : Int32) (I : Nat → Nat → Int32) (L : Nat → Nat → Int64) : Option gRs := (if gvp (v3 + (nI 1)) n = true then (if gvp (v3 + (nI 2)) n = true then (if gvp (v3 + (nI 3)) n = true then ((r_X7_share f g I L (I 1 (gx (v3 + (nI 1)))) (I 1 (gx (v3 + (nI 2)))) (if (I 1 (gx (v3 + (nI 3)))) = 0 then (nI 0) else (nI 1))).bind (fun z155 => (if gvp (v3 + (nI 1)) n = true then (if gvp (v3 + (nI 2)) n = true then (if gvp (v3 + (nI 3)) n = true then ((r_X8_share z155.2.1 z155.2.2 (z155.2.1 1 (gx (v3 + (nI 1)))) (z155.2.1 1 (gx (v3 + (nI 2)))) (if (z155.2.1 1 (gx (v3 + (nI 3)))) = 0 then (nI 0) else (nI 1))).bind (fun z160 => (if z155.1 = z160.1 then (K10 (v3 + (nI 6)) z160.2.1 z160.2.2) else some ((nI 0), z160.2.1, z160.2.2)))) else none) else none) else none))) else none) else none) else none)
set_option maxHeartbeats 4000000 in
set_option maxRecDepth 100000 in
theorem t_L_law_580 {n f g d : Nat} {Q : gP} {z : gRs} (hw : gfw f g) {K10 : Int32 → (Nat → Nat → Int32) → (Nat → Nat → Int64) → Option gRs} (hK10 : ∀ v3 I L, K10 v3 I L = some z → gW gM (d + 11) 0 0 k_L_law 10 [.ref 1, .ref 2, .ref 57, .int v3] [] (gKn n, gRf f g, I, L) Q) {v3 : Int32} {I : Nat → Nat → Int32} {L : Nat → Nat → Int64} (hr : r_L_law_580 n f g K10 v3 I L = some z) (hQ : Q (some (.int z.1)) (gKn n, gRf f g, z.2.1, z.2.2)) : gW gM (d + 11) 0 0 k_L_law 580 [.ref 1, .ref 2, .ref 57, .int v3] [] (gKn n, gRf f g, I, L) Q := by
  have hfe := hw.f
  have hfd := hw.g
  unfold r_L_law_580 at hr
  refine r_aload rfl rfl ?_
  refine r_aload rfl rfl ?_
  refine r_iload rfl rfl ?_
  refine r_const rfl (gcst 1) ?_
  refine r_iadd rfl ?_
  obtain ⟨b151, hr⟩ := gopt hr
  refine r_iaload (n := n) rfl rfl (gvp_in b151) ?_
  refine r_aload rfl rfl ?_
  refine r_iload rfl rfl ?_
  refine r_const rfl (gcst 2) ?_
  refine r_iadd rfl ?_
  obtain ⟨b152, hr⟩ := gopt hr
  refine r_iaload (n := n) rfl rfl (gvp_in b152) ?_
  refine r_aload rfl rfl ?_
  refine r_iload rfl rfl ?_
  refine r_const rfl (gcst 3) ?_
  refine r_iadd rfl ?_
  obtain ⟨b153, hr⟩ := gopt hr
  refine r_iaload (n := n) rfl rfl (gvp_in b153) ?_
  have j162 : gW gM (d + 11) 0 0 k_L_law 600 [.ref 1, .ref 2, .ref 57, .int v3] [.int (if (I 1 (gx (v3 + (nI 3)))) = 0 then (nI 0) else (nI 1)), .int (I 1 (gx (v3 + (nI 2)))), .int (I 1 (gx (v3 + (nI 1)))), .ref 2] (gKn n, gRf f g, I, L) Q := by
    obtain ⟨z155, hz155, hr⟩ := gbnd hr
    refine r_invv (a := 2) [.int (I 1 (gx (v3 + (nI 1)))), .int (I 1 (gx (v3 + (nI 2)))), .int (if (I 1 (gx (v3 + (nI 3)))) = 0 then (nI 0) else (nI 1))] rfl rfl rfl rfl rfl (Nat.le_of_ble_eq_true rfl) ⟨rfl, rfl⟩ ?_
    refine s_X7_share hw  hz155 ?_
    show gW _ _ _ _ _ 601 [.ref 1, .ref 2, .ref 57, .int v3] [.int z155.1] (gKn n, gRf f g, z155.2.1, z155.2.2) _
    refine r_aload rfl rfl ?_
    refine r_aload rfl rfl ?_
    refine r_iload rfl rfl ?_
    refine r_const rfl (gcst 1) ?_
    refine r_iadd rfl ?_
    obtain ⟨b156, hr⟩ := gopt hr
    refine r_iaload (n := n) rfl rfl (gvp_in b156) ?_
    refine r_aload rfl rfl ?_
    refine r_iload rfl rfl ?_
    refine r_const rfl (gcst 2) ?_
    refine r_iadd rfl ?_
    obtain ⟨b157, hr⟩ := gopt hr
    refine r_iaload (n := n) rfl rfl (gvp_in b157) ?_
    refine r_aload rfl rfl ?_
    refine r_iload rfl rfl ?_
    refine r_const rfl (gcst 3) ?_
    refine r_iadd rfl ?_
    obtain ⟨b158, hr⟩ := gopt hr
    refine r_iaload (n := n) rfl rfl (gvp_in b158) ?_
    have j163 : gW gM (d + 11) 0 0 k_L_law 621 [.ref 1, .ref 2, .ref 57, .int v3] [.int (if (z155.2.1 1 (gx (v3 + (nI 3)))) = 0 then (nI 0) else (nI 1)), .int (z155.2.1 1 (gx (v3 + (nI 2)))), .int (z155.2.1 1 (gx (v3 + (nI 1)))), .ref 57, .int z155.1] (gKn n, gRf f g, z155.2.1, z155.2.2) Q := by
      obtain ⟨z160, hz160, hr⟩ := gbnd hr
      refine r_invv (a := 57) [.int (z155.2.1 1 (gx (v3 + (nI 1)))), .int (z155.2.1 1 (gx (v3 + (nI 2)))), .int (if (z155.2.1 1 (gx (v3 + (nI 3)))) = 0 then (nI 0) else (nI 1))] rfl rfl rfl rfl rfl (Nat.le_of_ble_eq_true rfl) ⟨rfl, rfl⟩ ?_
      refine s_X8_share  hz160 ?_
      show gW _ _ _ _ _ 622 [.ref 1, .ref 2, .ref 57, .int v3] [.int z160.1, .int z155.1] (gKn n, gRf f g, z160.2.1, z160.2.2) _
      refine r_icmp_eq 837 rfl rfl (fun c161 => ?_) (fun c161 => ?_)
      · rw [if_pos c161] at hr
        refine r_iinc (y := (v3 + (nI 6))) [.ref 1, .ref 2, .ref 57, .int (v3 + (nI 6))] rfl rfl rfl (ginc _ 6) rfl ?_
        refine r_goto 10 rfl rfl ?_
        exact hK10 _ _ _ hr
      · rw [if_neg c161] at hr
        refine r_const rfl (gcst 0) ?_
        refine r_zret rfl (Or.inl rfl) ?_
        cases hr
        exact hQ
    refine r_if_eq 620 rfl rfl (fun c159 => ?_) (fun c159 => ?_)
    · refine r_const rfl (gcst 0) ?_
      first | contradiction | simpa only [if_pos c159] using j163
    · refine r_const rfl (gcst 1) ?_
      refine r_goto 621 rfl rfl ?_
      first | contradiction | simpa only [if_neg c159] using j163
  refine r_if_eq 599 rfl rfl (fun c154 => ?_) (fun c154 => ?_)
  · refine r_const rfl (gcst 0) ?_
    first | contradiction | simpa only [if_pos c154] using j162
  · refine r_const rfl (gcst 1) ?_
    refine r_goto 600 rfl rfl ?_
    first | contradiction | simpa only [if_neg c154] using j162
def r_L_law_625 (n f g : Nat) (K10 : Int32 → (Nat → Nat → Int32) → (Nat → Nat → Int64) → Option gRs) (v3 : Int32) (I : Nat → Nat → Int32) (L : Nat → Nat → Int64) : Option gRs := (if gvp (v3 + (nI 1)) n = true then (if gvp (v3 + (nI 2)) n = true then (if gvp (v3 + (nI 3)) n = true then ((r_X7_rests f g I L (I 1 (gx (v3 + (nI 1)))) (I 1 (gx (v3 + (nI 2)))) (I 1 (gx (v3 + (nI 3))))).bind (fun z167 => (if gvp (v3 + (nI 1)) n = true then (if gvp (v3 + (nI 2)) n = true then (if gvp (v3 + (nI 3)) n = true then ((r_X8_rests z167.2.1 z167.2.2 (z167.2.1 1 (gx (v3 + (nI 1)))) (z167.2.1 1 (gx (v3 + (nI 2)))) (z167.2.1 1 (gx (v3 + (nI 3))))).bind (fun z171 => (if z167.1 = z171.1 then (K10 (v3 + (nI 6)) z171.2.1 z171.2.2) else some ((nI 0), z171.2.1, z171.2.2)))) else none) else none) else none))) else none) else none) else none)
set_option maxHeartbeats 4000000 in
set_option maxRecDepth 100000 in
theorem t_L_law_625 {n f g d : Nat} {Q : gP} {z : gRs} (hw : gfw f g) {K10 : Int32 → (Nat → Nat → Int32) → (Nat → Nat → Int64) → Option gRs} (hK10 : ∀ v3 I L, K10 v3 I L = some z → gW gM (d + 11) 0 0 k_L_law 10 [.ref 1, .ref 2, .ref 57, .int v3] [] (gKn n, gRf f g, I, L) Q) {v3 : Int32} {I : Nat → Nat → Int32} {L : Nat → Nat → Int64} (hr : r_L_law_625 n f g K10 v3 I L = some z) (hQ : Q (some (.int z.1)) (gKn n, gRf f g, z.2.1, z.2.2)) : gW gM (d + 11) 0 0 k_L_law 625 [.ref 1, .ref 2, .ref 57, .int v3] [] (gKn n, gRf f g, I, L) Q := by
  have hfe := hw.f
  have hfd := hw.g
  unfold r_L_law_625 at hr
  refine r_aload rfl rfl ?_
  refine r_aload rfl rfl ?_
  refine r_iload rfl rfl ?_
  refine r_const rfl (gcst 1) ?_
  refine r_iadd rfl ?_
  obtain ⟨b164, hr⟩ := gopt hr
  refine r_iaload (n := n) rfl rfl (gvp_in b164) ?_
  refine r_aload rfl rfl ?_
  refine r_iload rfl rfl ?_
  refine r_const rfl (gcst 2) ?_
  refine r_iadd rfl ?_
  obtain ⟨b165, hr⟩ := gopt hr
  refine r_iaload (n := n) rfl rfl (gvp_in b165) ?_
  refine r_aload rfl rfl ?_
  refine r_iload rfl rfl ?_
  refine r_const rfl (gcst 3) ?_
  refine r_iadd rfl ?_
  obtain ⟨b166, hr⟩ := gopt hr
  refine r_iaload (n := n) rfl rfl (gvp_in b166) ?_
  obtain ⟨z167, hz167, hr⟩ := gbnd hr
  refine r_invv (a := 2) [.int (I 1 (gx (v3 + (nI 1)))), .int (I 1 (gx (v3 + (nI 2)))), .int (I 1 (gx (v3 + (nI 3))))] rfl rfl rfl rfl rfl (Nat.le_of_ble_eq_true rfl) ⟨rfl, rfl⟩ ?_
  refine s_X7_rests hw  hz167 ?_
  show gW _ _ _ _ _ 642 [.ref 1, .ref 2, .ref 57, .int v3] [.int z167.1] (gKn n, gRf f g, z167.2.1, z167.2.2) _
  refine r_aload rfl rfl ?_
  refine r_aload rfl rfl ?_
  refine r_iload rfl rfl ?_
  refine r_const rfl (gcst 1) ?_
  refine r_iadd rfl ?_
  obtain ⟨b168, hr⟩ := gopt hr
  refine r_iaload (n := n) rfl rfl (gvp_in b168) ?_
  refine r_aload rfl rfl ?_
  refine r_iload rfl rfl ?_
  refine r_const rfl (gcst 2) ?_
  refine r_iadd rfl ?_
  obtain ⟨b169, hr⟩ := gopt hr
  refine r_iaload (n := n) rfl rfl (gvp_in b169) ?_
  refine r_aload rfl rfl ?_
  refine r_iload rfl rfl ?_
  refine r_const rfl (gcst 3) ?_
  refine r_iadd rfl ?_
  obtain ⟨b170, hr⟩ := gopt hr
  refine r_iaload (n := n) rfl rfl (gvp_in b170) ?_
  obtain ⟨z171, hz171, hr⟩ := gbnd hr
  refine r_invv (a := 57) [.int (z167.2.1 1 (gx (v3 + (nI 1)))), .int (z167.2.1 1 (gx (v3 + (nI 2)))), .int (z167.2.1 1 (gx (v3 + (nI 3))))] rfl rfl rfl rfl rfl (Nat.le_of_ble_eq_true rfl) ⟨rfl, rfl⟩ ?_
  refine s_X8_rests  hz171 ?_
  show gW _ _ _ _ _ 659 [.ref 1, .ref 2, .ref 57, .int v3] [.int z171.1, .int z167.1] (gKn n, gRf f g, z171.2.1, z171.2.2) _
  refine r_icmp_eq 837 rfl rfl (fun c172 => ?_) (fun c172 => ?_)
  · rw [if_pos c172] at hr
    refine r_iinc (y := (v3 + (nI 6))) [.ref 1, .ref 2, .ref 57, .int (v3 + (nI 6))] rfl rfl rfl (ginc _ 6) rfl ?_
    refine r_goto 10 rfl rfl ?_
    exact hK10 _ _ _ hr
  · rw [if_neg c172] at hr
    refine r_const rfl (gcst 0) ?_
    refine r_zret rfl (Or.inl rfl) ?_
    cases hr
    exact hQ
def r_L_law_662 (n f g : Nat) (K10 : Int32 → (Nat → Nat → Int32) → (Nat → Nat → Int64) → Option gRs) (v3 : Int32) (I : Nat → Nat → Int32) (L : Nat → Nat → Int64) : Option gRs := (if gvp (v3 + (nI 1)) n = true then (if gvp (v3 + (nI 2)) n = true then (if gvp (v3 + (nI 3)) n = true then (if gvp (v3 + (nI 4)) n = true then (if gvp (v3 + (nI 5)) n = true then ((r_X7_drips f g I L (I 1 (gx (v3 + (nI 1)))) (I 1 (gx (v3 + (nI 2)))) (I 1 (gx (v3 + (nI 3)))) (I 1 (gx (v3 + (nI 4)))) (if (I 1 (gx (v3 + (nI 5)))) = 0 then (nI 0) else (nI 1))).bind (fun z179 => (if gvp (v3 + (nI 1)) n = true then (if gvp (v3 + (nI 2)) n = true then (if gvp (v3 + (nI 3)) n = true then (if gvp (v3 + (nI 4)) n = true then (if gvp (v3 + (nI 5)) n = true then ((r_X8_drips z179.2.1 z179.2.2 (z179.2.1 1 (gx (v3 + (nI 1)))) (z179.2.1 1 (gx (v3 + (nI 2)))) (z179.2.1 1 (gx (v3 + (nI 3)))) (z179.2.1 1 (gx (v3 + (nI 4)))) (if (z179.2.1 1 (gx (v3 + (nI 5)))) = 0 then (nI 0) else (nI 1))).bind (fun z186 => (if z179.1 = z186.1 then (K10 (v3 + (nI 6)) z186.2.1 z186.2.2) else some ((nI 0), z186.2.1, z186.2.2)))) else none) else none) else none) else none) else none))) else none) else none) else none) else none) else none)
set_option maxHeartbeats 4000000 in
set_option maxRecDepth 100000 in
theorem t_L_law_662 {n f g d : Nat} {Q : gP} {z : gRs} (hw : gfw f g) {K10 : Int32 → (Nat → Nat → Int32) → (Nat → Nat → Int64) → Option gRs} (hK10 : ∀ v3 I L, K10 v3 I L = some z → gW gM (d + 11) 0 0 k_L_law 10 [.ref 1, .ref 2, .ref 57, .int v3] [] (gKn n, gRf f g, I, L) Q) {v3 : Int32} {I : Nat → Nat → Int32} {L : Nat → Nat → Int64} (hr : r_L_law_662 n f g K10 v3 I L = some z) (hQ : Q (some (.int z.1)) (gKn n, gRf f g, z.2.1, z.2.2)) : gW gM (d + 11) 0 0 k_L_law 662 [.ref 1, .ref 2, .ref 57, .int v3] [] (gKn n, gRf f g, I, L) Q := by
  have hfe := hw.f
  have hfd := hw.g
  unfold r_L_law_662 at hr
  refine r_aload rfl rfl ?_
  refine r_aload rfl rfl ?_
  refine r_iload rfl rfl ?_
  refine r_const rfl (gcst 1) ?_
  refine r_iadd rfl ?_
  obtain ⟨b173, hr⟩ := gopt hr
  refine r_iaload (n := n) rfl rfl (gvp_in b173) ?_
  refine r_aload rfl rfl ?_
  refine r_iload rfl rfl ?_
  refine r_const rfl (gcst 2) ?_
  refine r_iadd rfl ?_
  obtain ⟨b174, hr⟩ := gopt hr
  refine r_iaload (n := n) rfl rfl (gvp_in b174) ?_
  refine r_aload rfl rfl ?_
  refine r_iload rfl rfl ?_
  refine r_const rfl (gcst 3) ?_
  refine r_iadd rfl ?_
  obtain ⟨b175, hr⟩ := gopt hr
  refine r_iaload (n := n) rfl rfl (gvp_in b175) ?_
  refine r_aload rfl rfl ?_
  refine r_iload rfl rfl ?_
  refine r_const rfl (gcst 4) ?_
  refine r_iadd rfl ?_
  obtain ⟨b176, hr⟩ := gopt hr
  refine r_iaload (n := n) rfl rfl (gvp_in b176) ?_
  refine r_aload rfl rfl ?_
  refine r_iload rfl rfl ?_
  refine r_const rfl (gcst 5) ?_
  refine r_iadd rfl ?_
  obtain ⟨b177, hr⟩ := gopt hr
  refine r_iaload (n := n) rfl rfl (gvp_in b177) ?_
  have j188 : gW gM (d + 11) 0 0 k_L_law 692 [.ref 1, .ref 2, .ref 57, .int v3] [.int (if (I 1 (gx (v3 + (nI 5)))) = 0 then (nI 0) else (nI 1)), .int (I 1 (gx (v3 + (nI 4)))), .int (I 1 (gx (v3 + (nI 3)))), .int (I 1 (gx (v3 + (nI 2)))), .int (I 1 (gx (v3 + (nI 1)))), .ref 2] (gKn n, gRf f g, I, L) Q := by
    obtain ⟨z179, hz179, hr⟩ := gbnd hr
    refine r_invv (a := 2) [.int (I 1 (gx (v3 + (nI 1)))), .int (I 1 (gx (v3 + (nI 2)))), .int (I 1 (gx (v3 + (nI 3)))), .int (I 1 (gx (v3 + (nI 4)))), .int (if (I 1 (gx (v3 + (nI 5)))) = 0 then (nI 0) else (nI 1))] rfl rfl rfl rfl rfl (Nat.le_of_ble_eq_true rfl) ⟨rfl, rfl⟩ ?_
    refine s_X7_drips hw  hz179 ?_
    show gW _ _ _ _ _ 693 [.ref 1, .ref 2, .ref 57, .int v3] [.int z179.1] (gKn n, gRf f g, z179.2.1, z179.2.2) _
    refine r_aload rfl rfl ?_
    refine r_aload rfl rfl ?_
    refine r_iload rfl rfl ?_
    refine r_const rfl (gcst 1) ?_
    refine r_iadd rfl ?_
    obtain ⟨b180, hr⟩ := gopt hr
    refine r_iaload (n := n) rfl rfl (gvp_in b180) ?_
    refine r_aload rfl rfl ?_
    refine r_iload rfl rfl ?_
    refine r_const rfl (gcst 2) ?_
    refine r_iadd rfl ?_
    obtain ⟨b181, hr⟩ := gopt hr
    refine r_iaload (n := n) rfl rfl (gvp_in b181) ?_
    refine r_aload rfl rfl ?_
    refine r_iload rfl rfl ?_
    refine r_const rfl (gcst 3) ?_
    refine r_iadd rfl ?_
    obtain ⟨b182, hr⟩ := gopt hr
    refine r_iaload (n := n) rfl rfl (gvp_in b182) ?_
    refine r_aload rfl rfl ?_
    refine r_iload rfl rfl ?_
    refine r_const rfl (gcst 4) ?_
    refine r_iadd rfl ?_
    obtain ⟨b183, hr⟩ := gopt hr
    refine r_iaload (n := n) rfl rfl (gvp_in b183) ?_
    refine r_aload rfl rfl ?_
    refine r_iload rfl rfl ?_
    refine r_const rfl (gcst 5) ?_
    refine r_iadd rfl ?_
    obtain ⟨b184, hr⟩ := gopt hr
    refine r_iaload (n := n) rfl rfl (gvp_in b184) ?_
    have j189 : gW gM (d + 11) 0 0 k_L_law 723 [.ref 1, .ref 2, .ref 57, .int v3] [.int (if (z179.2.1 1 (gx (v3 + (nI 5)))) = 0 then (nI 0) else (nI 1)), .int (z179.2.1 1 (gx (v3 + (nI 4)))), .int (z179.2.1 1 (gx (v3 + (nI 3)))), .int (z179.2.1 1 (gx (v3 + (nI 2)))), .int (z179.2.1 1 (gx (v3 + (nI 1)))), .ref 57, .int z179.1] (gKn n, gRf f g, z179.2.1, z179.2.2) Q := by
      obtain ⟨z186, hz186, hr⟩ := gbnd hr
      refine r_invv (a := 57) [.int (z179.2.1 1 (gx (v3 + (nI 1)))), .int (z179.2.1 1 (gx (v3 + (nI 2)))), .int (z179.2.1 1 (gx (v3 + (nI 3)))), .int (z179.2.1 1 (gx (v3 + (nI 4)))), .int (if (z179.2.1 1 (gx (v3 + (nI 5)))) = 0 then (nI 0) else (nI 1))] rfl rfl rfl rfl rfl (Nat.le_of_ble_eq_true rfl) ⟨rfl, rfl⟩ ?_
      refine s_X8_drips  hz186 ?_
      show gW _ _ _ _ _ 724 [.ref 1, .ref 2, .ref 57, .int v3] [.int z186.1, .int z179.1] (gKn n, gRf f g, z186.2.1, z186.2.2) _
      refine r_icmp_eq 837 rfl rfl (fun c187 => ?_) (fun c187 => ?_)
      · rw [if_pos c187] at hr
        refine r_iinc (y := (v3 + (nI 6))) [.ref 1, .ref 2, .ref 57, .int (v3 + (nI 6))] rfl rfl rfl (ginc _ 6) rfl ?_
        refine r_goto 10 rfl rfl ?_
        exact hK10 _ _ _ hr
      · rw [if_neg c187] at hr
        refine r_const rfl (gcst 0) ?_
        refine r_zret rfl (Or.inl rfl) ?_
        cases hr
        exact hQ
    refine r_if_eq 722 rfl rfl (fun c185 => ?_) (fun c185 => ?_)
    · refine r_const rfl (gcst 0) ?_
      first | contradiction | simpa only [if_pos c185] using j189
    · refine r_const rfl (gcst 1) ?_
      refine r_goto 723 rfl rfl ?_
      first | contradiction | simpa only [if_neg c185] using j189
  refine r_if_eq 691 rfl rfl (fun c178 => ?_) (fun c178 => ?_)
  · refine r_const rfl (gcst 0) ?_
    first | contradiction | simpa only [if_pos c178] using j188
  · refine r_const rfl (gcst 1) ?_
    refine r_goto 692 rfl rfl ?_
    first | contradiction | simpa only [if_neg c178] using j188
def r_L_law_727 (n f g : Nat) (K10 : Int32 → (Nat → Nat → Int32) → (Nat → Nat → Int64) → Option gRs) (v3 : Int32) (I : Nat → Nat → Int32) (L : Nat → Nat → Int64) : Option gRs := (if gvp (v3 + (nI 1)) n = true then (if gvp (v3 + (nI 2)) n = true then (if gvp (v3 + (nI 1)) n = true then (if gvp (v3 + (nI 2)) n = true then (if (lg_cmp (f_X7_seed f g I L ((glshl (Int32.toInt64 (I 1 (gx (v3 + (nI 1))))) (nI 32)) ||| ((Int32.toInt64 (I 1 (gx (v3 + (nI 2))))) &&& (lN 4294967295)))) (f_X8_seed I (l_X7_seed f g I L ((glshl (Int32.toInt64 (I 1 (gx (v3 + (nI 1))))) (nI 32)) ||| ((Int32.toInt64 (I 1 (gx (v3 + (nI 2))))) &&& (lN 4294967295)))) ((glshl (Int32.toInt64 (I 1 (gx (v3 + (nI 1))))) (nI 32)) ||| ((Int32.toInt64 (I 1 (gx (v3 + (nI 2))))) &&& (lN 4294967295))))) = 0 then (K10 (v3 + (nI 6)) I (l_X8_seed I (l_X7_seed f g I L ((glshl (Int32.toInt64 (I 1 (gx (v3 + (nI 1))))) (nI 32)) ||| ((Int32.toInt64 (I 1 (gx (v3 + (nI 2))))) &&& (lN 4294967295)))) ((glshl (Int32.toInt64 (I 1 (gx (v3 + (nI 1))))) (nI 32)) ||| ((Int32.toInt64 (I 1 (gx (v3 + (nI 2))))) &&& (lN 4294967295))))) else some ((nI 0), I, (l_X8_seed I (l_X7_seed f g I L ((glshl (Int32.toInt64 (I 1 (gx (v3 + (nI 1))))) (nI 32)) ||| ((Int32.toInt64 (I 1 (gx (v3 + (nI 2))))) &&& (lN 4294967295)))) ((glshl (Int32.toInt64 (I 1 (gx (v3 + (nI 1))))) (nI 32)) ||| ((Int32.toInt64 (I 1 (gx (v3 + (nI 2))))) &&& (lN 4294967295)))))) else none) else none) else none) else none)
set_option maxHeartbeats 4000000 in
set_option maxRecDepth 100000 in
theorem t_L_law_727 {n f g d : Nat} {Q : gP} {z : gRs} (hw : gfw f g) {K10 : Int32 → (Nat → Nat → Int32) → (Nat → Nat → Int64) → Option gRs} (hK10 : ∀ v3 I L, K10 v3 I L = some z → gW gM (d + 11) 0 0 k_L_law 10 [.ref 1, .ref 2, .ref 57, .int v3] [] (gKn n, gRf f g, I, L) Q) {v3 : Int32} {I : Nat → Nat → Int32} {L : Nat → Nat → Int64} (hr : r_L_law_727 n f g K10 v3 I L = some z) (hQ : Q (some (.int z.1)) (gKn n, gRf f g, z.2.1, z.2.2)) : gW gM (d + 11) 0 0 k_L_law 727 [.ref 1, .ref 2, .ref 57, .int v3] [] (gKn n, gRf f g, I, L) Q := by
  have hfe := hw.f
  have hfd := hw.g
  unfold r_L_law_727 at hr
  refine r_aload rfl rfl ?_
  refine r_aload rfl rfl ?_
  refine r_iload rfl rfl ?_
  refine r_const rfl (gcst 1) ?_
  refine r_iadd rfl ?_
  obtain ⟨b190, hr⟩ := gopt hr
  refine r_iaload (n := n) rfl rfl (gvp_in b190) ?_
  refine r_i2l rfl ?_
  refine r_const rfl (gcst 32) ?_
  refine r_lshl rfl ?_
  refine r_aload rfl rfl ?_
  refine r_iload rfl rfl ?_
  refine r_const rfl (gcst 2) ?_
  refine r_iadd rfl ?_
  obtain ⟨b191, hr⟩ := gopt hr
  refine r_iaload (n := n) rfl rfl (gvp_in b191) ?_
  refine r_i2l rfl ?_
  refine r_lconst (v := lN 4294967295) rfl rfl ?_
  refine r_land rfl ?_
  refine r_lor rfl ?_
  refine r_invv (a := 2) [.long ((glshl (Int32.toInt64 (I 1 (gx (v3 + (nI 1))))) (nI 32)) ||| ((Int32.toInt64 (I 1 (gx (v3 + (nI 2))))) &&& (lN 4294967295)))] rfl rfl rfl rfl rfl (Nat.le_of_ble_eq_true rfl) ⟨rfl, rfl⟩ ?_
  refine s_X7_seed hw  ?_
  show gW _ _ _ _ _ 746 [.ref 1, .ref 2, .ref 57, .int v3] [.long (f_X7_seed f g I L ((glshl (Int32.toInt64 (I 1 (gx (v3 + (nI 1))))) (nI 32)) ||| ((Int32.toInt64 (I 1 (gx (v3 + (nI 2))))) &&& (lN 4294967295))))] (gKn n, gRf f g, I, (l_X7_seed f g I L ((glshl (Int32.toInt64 (I 1 (gx (v3 + (nI 1))))) (nI 32)) ||| ((Int32.toInt64 (I 1 (gx (v3 + (nI 2))))) &&& (lN 4294967295))))) _
  refine r_aload rfl rfl ?_
  refine r_aload rfl rfl ?_
  refine r_iload rfl rfl ?_
  refine r_const rfl (gcst 1) ?_
  refine r_iadd rfl ?_
  obtain ⟨b192, hr⟩ := gopt hr
  refine r_iaload (n := n) rfl rfl (gvp_in b192) ?_
  refine r_i2l rfl ?_
  refine r_const rfl (gcst 32) ?_
  refine r_lshl rfl ?_
  refine r_aload rfl rfl ?_
  refine r_iload rfl rfl ?_
  refine r_const rfl (gcst 2) ?_
  refine r_iadd rfl ?_
  obtain ⟨b193, hr⟩ := gopt hr
  refine r_iaload (n := n) rfl rfl (gvp_in b193) ?_
  refine r_i2l rfl ?_
  refine r_lconst (v := lN 4294967295) rfl rfl ?_
  refine r_land rfl ?_
  refine r_lor rfl ?_
  refine r_invv (a := 57) [.long ((glshl (Int32.toInt64 (I 1 (gx (v3 + (nI 1))))) (nI 32)) ||| ((Int32.toInt64 (I 1 (gx (v3 + (nI 2))))) &&& (lN 4294967295)))] rfl rfl rfl rfl rfl (Nat.le_of_ble_eq_true rfl) ⟨rfl, rfl⟩ ?_
  refine s_X8_seed  ?_
  show gW _ _ _ _ _ 765 [.ref 1, .ref 2, .ref 57, .int v3] [.long (f_X8_seed I (l_X7_seed f g I L ((glshl (Int32.toInt64 (I 1 (gx (v3 + (nI 1))))) (nI 32)) ||| ((Int32.toInt64 (I 1 (gx (v3 + (nI 2))))) &&& (lN 4294967295)))) ((glshl (Int32.toInt64 (I 1 (gx (v3 + (nI 1))))) (nI 32)) ||| ((Int32.toInt64 (I 1 (gx (v3 + (nI 2))))) &&& (lN 4294967295)))), .long (f_X7_seed f g I L ((glshl (Int32.toInt64 (I 1 (gx (v3 + (nI 1))))) (nI 32)) ||| ((Int32.toInt64 (I 1 (gx (v3 + (nI 2))))) &&& (lN 4294967295))))] (gKn n, gRf f g, I, (l_X8_seed I (l_X7_seed f g I L ((glshl (Int32.toInt64 (I 1 (gx (v3 + (nI 1))))) (nI 32)) ||| ((Int32.toInt64 (I 1 (gx (v3 + (nI 2))))) &&& (lN 4294967295)))) ((glshl (Int32.toInt64 (I 1 (gx (v3 + (nI 1))))) (nI 32)) ||| ((Int32.toInt64 (I 1 (gx (v3 + (nI 2))))) &&& (lN 4294967295))))) _
  refine r_lcmp rfl ?_
  refine r_if_eq 837 rfl rfl (fun c194 => ?_) (fun c194 => ?_)
  · rw [if_pos c194] at hr
    refine r_iinc (y := (v3 + (nI 6))) [.ref 1, .ref 2, .ref 57, .int (v3 + (nI 6))] rfl rfl rfl (ginc _ 6) rfl ?_
    refine r_goto 10 rfl rfl ?_
    exact hK10 _ _ _ hr
  · rw [if_neg c194] at hr
    refine r_const rfl (gcst 0) ?_
    refine r_zret rfl (Or.inl rfl) ?_
    cases hr
    exact hQ
def r_L_law_769 (n f g : Nat) (K10 : Int32 → (Nat → Nat → Int32) → (Nat → Nat → Int64) → Option gRs) (v3 : Int32) (I : Nat → Nat → Int32) (L : Nat → Nat → Int64) : Option gRs := (if gvp (v3 + (nI 1)) n = true then ((r_X7_winters f g I L (I 1 (gx (v3 + (nI 1))))).bind (fun z196 => (if gvp (v3 + (nI 1)) n = true then ((r_X8_winters z196.2.1 z196.2.2 (z196.2.1 1 (gx (v3 + (nI 1))))).bind (fun z198 => (if z196.1 = z198.1 then (K10 (v3 + (nI 6)) z198.2.1 z198.2.2) else some ((nI 0), z198.2.1, z198.2.2)))) else none))) else none)
set_option maxHeartbeats 4000000 in
set_option maxRecDepth 100000 in
theorem t_L_law_769 {n f g d : Nat} {Q : gP} {z : gRs} (hw : gfw f g) {K10 : Int32 → (Nat → Nat → Int32) → (Nat → Nat → Int64) → Option gRs} (hK10 : ∀ v3 I L, K10 v3 I L = some z → gW gM (d + 11) 0 0 k_L_law 10 [.ref 1, .ref 2, .ref 57, .int v3] [] (gKn n, gRf f g, I, L) Q) {v3 : Int32} {I : Nat → Nat → Int32} {L : Nat → Nat → Int64} (hr : r_L_law_769 n f g K10 v3 I L = some z) (hQ : Q (some (.int z.1)) (gKn n, gRf f g, z.2.1, z.2.2)) : gW gM (d + 11) 0 0 k_L_law 769 [.ref 1, .ref 2, .ref 57, .int v3] [] (gKn n, gRf f g, I, L) Q := by
  have hfe := hw.f
  have hfd := hw.g
  unfold r_L_law_769 at hr
  refine r_aload rfl rfl ?_
  refine r_aload rfl rfl ?_
  refine r_iload rfl rfl ?_
  refine r_const rfl (gcst 1) ?_
  refine r_iadd rfl ?_
  obtain ⟨b195, hr⟩ := gopt hr
  refine r_iaload (n := n) rfl rfl (gvp_in b195) ?_
  obtain ⟨z196, hz196, hr⟩ := gbnd hr
  refine r_invv (a := 2) [.int (I 1 (gx (v3 + (nI 1))))] rfl rfl rfl rfl rfl (Nat.le_of_ble_eq_true rfl) ⟨rfl, rfl⟩ ?_
  refine s_X7_winters hw  hz196 ?_
  show gW _ _ _ _ _ 776 [.ref 1, .ref 2, .ref 57, .int v3] [.int z196.1] (gKn n, gRf f g, z196.2.1, z196.2.2) _
  refine r_aload rfl rfl ?_
  refine r_aload rfl rfl ?_
  refine r_iload rfl rfl ?_
  refine r_const rfl (gcst 1) ?_
  refine r_iadd rfl ?_
  obtain ⟨b197, hr⟩ := gopt hr
  refine r_iaload (n := n) rfl rfl (gvp_in b197) ?_
  obtain ⟨z198, hz198, hr⟩ := gbnd hr
  refine r_invv (a := 57) [.int (z196.2.1 1 (gx (v3 + (nI 1))))] rfl rfl rfl rfl rfl (Nat.le_of_ble_eq_true rfl) ⟨rfl, rfl⟩ ?_
  refine s_X8_winters  hz198 ?_
  show gW _ _ _ _ _ 783 [.ref 1, .ref 2, .ref 57, .int v3] [.int z198.1, .int z196.1] (gKn n, gRf f g, z198.2.1, z198.2.2) _
  refine r_icmp_eq 837 rfl rfl (fun c199 => ?_) (fun c199 => ?_)
  · rw [if_pos c199] at hr
    refine r_iinc (y := (v3 + (nI 6))) [.ref 1, .ref 2, .ref 57, .int (v3 + (nI 6))] rfl rfl rfl (ginc _ 6) rfl ?_
    refine r_goto 10 rfl rfl ?_
    exact hK10 _ _ _ hr
  · rw [if_neg c199] at hr
    refine r_const rfl (gcst 0) ?_
    refine r_zret rfl (Or.inl rfl) ?_
    cases hr
    exact hQ
def r_L_law_786 (n f g : Nat) (K10 : Int32 → (Nat → Nat → Int32) → (Nat → Nat → Int64) → Option gRs) (v3 : Int32) (I : Nat → Nat → Int32) (L : Nat → Nat → Int64) : Option gRs := (if gvp (v3 + (nI 1)) n = true then ((r_X7_keep f g I L (I 1 (gx (v3 + (nI 1))))).bind (fun z201 => (if gvp (v3 + (nI 1)) n = true then ((r_X8_keep z201.2.1 z201.2.2 (z201.2.1 1 (gx (v3 + (nI 1))))).bind (fun z203 => (if z201.1 = z203.1 then (K10 (v3 + (nI 6)) z203.2.1 z203.2.2) else some ((nI 0), z203.2.1, z203.2.2)))) else none))) else none)
set_option maxHeartbeats 4000000 in
set_option maxRecDepth 100000 in
theorem t_L_law_786 {n f g d : Nat} {Q : gP} {z : gRs} (hw : gfw f g) {K10 : Int32 → (Nat → Nat → Int32) → (Nat → Nat → Int64) → Option gRs} (hK10 : ∀ v3 I L, K10 v3 I L = some z → gW gM (d + 11) 0 0 k_L_law 10 [.ref 1, .ref 2, .ref 57, .int v3] [] (gKn n, gRf f g, I, L) Q) {v3 : Int32} {I : Nat → Nat → Int32} {L : Nat → Nat → Int64} (hr : r_L_law_786 n f g K10 v3 I L = some z) (hQ : Q (some (.int z.1)) (gKn n, gRf f g, z.2.1, z.2.2)) : gW gM (d + 11) 0 0 k_L_law 786 [.ref 1, .ref 2, .ref 57, .int v3] [] (gKn n, gRf f g, I, L) Q := by
  have hfe := hw.f
  have hfd := hw.g
  unfold r_L_law_786 at hr
  refine r_aload rfl rfl ?_
  refine r_aload rfl rfl ?_
  refine r_iload rfl rfl ?_
  refine r_const rfl (gcst 1) ?_
  refine r_iadd rfl ?_
  obtain ⟨b200, hr⟩ := gopt hr
  refine r_iaload (n := n) rfl rfl (gvp_in b200) ?_
  obtain ⟨z201, hz201, hr⟩ := gbnd hr
  refine r_invv (a := 2) [.int (I 1 (gx (v3 + (nI 1))))] rfl rfl rfl rfl rfl (Nat.le_of_ble_eq_true rfl) ⟨rfl, rfl⟩ ?_
  refine s_X7_keep hw  hz201 ?_
  show gW _ _ _ _ _ 793 [.ref 1, .ref 2, .ref 57, .int v3] [.int z201.1] (gKn n, gRf f g, z201.2.1, z201.2.2) _
  refine r_aload rfl rfl ?_
  refine r_aload rfl rfl ?_
  refine r_iload rfl rfl ?_
  refine r_const rfl (gcst 1) ?_
  refine r_iadd rfl ?_
  obtain ⟨b202, hr⟩ := gopt hr
  refine r_iaload (n := n) rfl rfl (gvp_in b202) ?_
  obtain ⟨z203, hz203, hr⟩ := gbnd hr
  refine r_invv (a := 57) [.int (z201.2.1 1 (gx (v3 + (nI 1))))] rfl rfl rfl rfl rfl (Nat.le_of_ble_eq_true rfl) ⟨rfl, rfl⟩ ?_
  refine s_X8_keep  hz203 ?_
  show gW _ _ _ _ _ 800 [.ref 1, .ref 2, .ref 57, .int v3] [.int z203.1, .int z201.1] (gKn n, gRf f g, z203.2.1, z203.2.2) _
  refine r_icmp_eq 837 rfl rfl (fun c204 => ?_) (fun c204 => ?_)
  · rw [if_pos c204] at hr
    refine r_iinc (y := (v3 + (nI 6))) [.ref 1, .ref 2, .ref 57, .int (v3 + (nI 6))] rfl rfl rfl (ginc _ 6) rfl ?_
    refine r_goto 10 rfl rfl ?_
    exact hK10 _ _ _ hr
  · rw [if_neg c204] at hr
    refine r_const rfl (gcst 0) ?_
    refine r_zret rfl (Or.inl rfl) ?_
    cases hr
    exact hQ
def r_L_law_803 (n f g : Nat) (K10 : Int32 → (Nat → Nat → Int32) → (Nat → Nat → Int64) → Option gRs) (v3 : Int32) (I : Nat → Nat → Int32) (L : Nat → Nat → Int64) : Option gRs := (if gvp (v3 + (nI 1)) n = true then ((r_X7_again f g I L (I 1 (gx (v3 + (nI 1))))).bind (fun z206 => (if gvp (v3 + (nI 1)) n = true then ((r_X8_again z206.2.1 z206.2.2 (z206.2.1 1 (gx (v3 + (nI 1))))).bind (fun z208 => (if z206.1 = z208.1 then (K10 (v3 + (nI 6)) z208.2.1 z208.2.2) else some ((nI 0), z208.2.1, z208.2.2)))) else none))) else none)
set_option maxHeartbeats 4000000 in
set_option maxRecDepth 100000 in
theorem t_L_law_803 {n f g d : Nat} {Q : gP} {z : gRs} (hw : gfw f g) {K10 : Int32 → (Nat → Nat → Int32) → (Nat → Nat → Int64) → Option gRs} (hK10 : ∀ v3 I L, K10 v3 I L = some z → gW gM (d + 11) 0 0 k_L_law 10 [.ref 1, .ref 2, .ref 57, .int v3] [] (gKn n, gRf f g, I, L) Q) {v3 : Int32} {I : Nat → Nat → Int32} {L : Nat → Nat → Int64} (hr : r_L_law_803 n f g K10 v3 I L = some z) (hQ : Q (some (.int z.1)) (gKn n, gRf f g, z.2.1, z.2.2)) : gW gM (d + 11) 0 0 k_L_law 803 [.ref 1, .ref 2, .ref 57, .int v3] [] (gKn n, gRf f g, I, L) Q := by
  have hfe := hw.f
  have hfd := hw.g
  unfold r_L_law_803 at hr
  refine r_aload rfl rfl ?_
  refine r_aload rfl rfl ?_
  refine r_iload rfl rfl ?_
  refine r_const rfl (gcst 1) ?_
  refine r_iadd rfl ?_
  obtain ⟨b205, hr⟩ := gopt hr
  refine r_iaload (n := n) rfl rfl (gvp_in b205) ?_
  obtain ⟨z206, hz206, hr⟩ := gbnd hr
  refine r_invv (a := 2) [.int (I 1 (gx (v3 + (nI 1))))] rfl rfl rfl rfl rfl (Nat.le_of_ble_eq_true rfl) ⟨rfl, rfl⟩ ?_
  refine s_X7_again hw  hz206 ?_
  show gW _ _ _ _ _ 810 [.ref 1, .ref 2, .ref 57, .int v3] [.int z206.1] (gKn n, gRf f g, z206.2.1, z206.2.2) _
  refine r_aload rfl rfl ?_
  refine r_aload rfl rfl ?_
  refine r_iload rfl rfl ?_
  refine r_const rfl (gcst 1) ?_
  refine r_iadd rfl ?_
  obtain ⟨b207, hr⟩ := gopt hr
  refine r_iaload (n := n) rfl rfl (gvp_in b207) ?_
  obtain ⟨z208, hz208, hr⟩ := gbnd hr
  refine r_invv (a := 57) [.int (z206.2.1 1 (gx (v3 + (nI 1))))] rfl rfl rfl rfl rfl (Nat.le_of_ble_eq_true rfl) ⟨rfl, rfl⟩ ?_
  refine s_X8_again  hz208 ?_
  show gW _ _ _ _ _ 817 [.ref 1, .ref 2, .ref 57, .int v3] [.int z208.1, .int z206.1] (gKn n, gRf f g, z208.2.1, z208.2.2) _
  refine r_icmp_eq 837 rfl rfl (fun c209 => ?_) (fun c209 => ?_)
  · rw [if_pos c209] at hr
    refine r_iinc (y := (v3 + (nI 6))) [.ref 1, .ref 2, .ref 57, .int (v3 + (nI 6))] rfl rfl rfl (ginc _ 6) rfl ?_
    refine r_goto 10 rfl rfl ?_
    exact hK10 _ _ _ hr
  · rw [if_neg c209] at hr
    refine r_const rfl (gcst 0) ?_
    refine r_zret rfl (Or.inl rfl) ?_
    cases hr
    exact hQ
def r_L_law_820 (n f g : Nat) (K10 : Int32 → (Nat → Nat → Int32) → (Nat → Nat → Int64) → Option gRs) (v3 : Int32) (I : Nat → Nat → Int32) (L : Nat → Nat → Int64) : Option gRs := (if gvp (v3 + (nI 1)) n = true then (if gvp (v3 + (nI 1)) n = true then (if (f_X7_count f g I L (I 1 (gx (v3 + (nI 1))))) = (f_X8_count I L (I 1 (gx (v3 + (nI 1))))) then (K10 (v3 + (nI 6)) I L) else some ((nI 0), I, L)) else none) else none)
set_option maxHeartbeats 4000000 in
set_option maxRecDepth 100000 in
theorem t_L_law_820 {n f g d : Nat} {Q : gP} {z : gRs} (hw : gfw f g) {K10 : Int32 → (Nat → Nat → Int32) → (Nat → Nat → Int64) → Option gRs} (hK10 : ∀ v3 I L, K10 v3 I L = some z → gW gM (d + 11) 0 0 k_L_law 10 [.ref 1, .ref 2, .ref 57, .int v3] [] (gKn n, gRf f g, I, L) Q) {v3 : Int32} {I : Nat → Nat → Int32} {L : Nat → Nat → Int64} (hr : r_L_law_820 n f g K10 v3 I L = some z) (hQ : Q (some (.int z.1)) (gKn n, gRf f g, z.2.1, z.2.2)) : gW gM (d + 11) 0 0 k_L_law 820 [.ref 1, .ref 2, .ref 57, .int v3] [] (gKn n, gRf f g, I, L) Q := by
  have hfe := hw.f
  have hfd := hw.g
  unfold r_L_law_820 at hr
  refine r_aload rfl rfl ?_
  refine r_aload rfl rfl ?_
  refine r_iload rfl rfl ?_
  refine r_const rfl (gcst 1) ?_
  refine r_iadd rfl ?_
  obtain ⟨b210, hr⟩ := gopt hr
  refine r_iaload (n := n) rfl rfl (gvp_in b210) ?_
  refine r_invv (a := 2) [.int (I 1 (gx (v3 + (nI 1))))] rfl rfl rfl rfl rfl (Nat.le_of_ble_eq_true rfl) ⟨rfl, rfl⟩ ?_
  refine s_X7_count hw  ?_
  show gW _ _ _ _ _ 827 [.ref 1, .ref 2, .ref 57, .int v3] [.int (f_X7_count f g I L (I 1 (gx (v3 + (nI 1)))))] (gKn n, gRf f g, I, L) _
  refine r_aload rfl rfl ?_
  refine r_aload rfl rfl ?_
  refine r_iload rfl rfl ?_
  refine r_const rfl (gcst 1) ?_
  refine r_iadd rfl ?_
  obtain ⟨b211, hr⟩ := gopt hr
  refine r_iaload (n := n) rfl rfl (gvp_in b211) ?_
  refine r_invv (a := 57) [.int (I 1 (gx (v3 + (nI 1))))] rfl rfl rfl rfl rfl (Nat.le_of_ble_eq_true rfl) ⟨rfl, rfl⟩ ?_
  refine s_X8_count  ?_
  show gW _ _ _ _ _ 834 [.ref 1, .ref 2, .ref 57, .int v3] [.int (f_X8_count I L (I 1 (gx (v3 + (nI 1))))), .int (f_X7_count f g I L (I 1 (gx (v3 + (nI 1)))))] (gKn n, gRf f g, I, L) _
  refine r_icmp_eq 837 rfl rfl (fun c212 => ?_) (fun c212 => ?_)
  · rw [if_pos c212] at hr
    refine r_iinc (y := (v3 + (nI 6))) [.ref 1, .ref 2, .ref 57, .int (v3 + (nI 6))] rfl rfl rfl (ginc _ 6) rfl ?_
    refine r_goto 10 rfl rfl ?_
    exact hK10 _ _ _ hr
  · rw [if_neg c212] at hr
    refine r_const rfl (gcst 0) ?_
    refine r_zret rfl (Or.inl rfl) ?_
    cases hr
    exact hQ
