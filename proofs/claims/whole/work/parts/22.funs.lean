/-! FUNCTIONS (dec.py, dec2.py) -/
def r_X5_look (I : Nat → Nat → Int32) (L : Nat → Nat → Int64) (a1 : Nat) (a2 : Nat) (a3 : Int32) (a4 : Int32) : Option gRs := ((r_X5_tryRows (gu2 (gu2 I 44 2 (-9 : Int32)) 44 3 (-9 : Int32)) L a1 a2 a3 (f_J9_min_7cf53 (gu2 (gu2 I 44 2 (-9 : Int32)) 44 3 (-9 : Int32)) L a4 (nI 3)) (nI 0)).bind (fun z2 => some (0, z2.2.1, z2.2.2)))
set_option maxHeartbeats 4000000 in
set_option maxRecDepth 100000 in
theorem s_X5_look {n f g d : Nat} {Q : gP} {I : Nat → Nat → Int32} {L : Nat → Nat → Int64} {a1 : Nat} {a2 : Nat} {a3 : Int32} {a4 : Int32} {z : gRs} (h1 : gfe a1 = true) (h2 : gmo a2 = true) (hr : r_X5_look I L a1 a2 a3 a4 = some z) (hQ : Q none (gKn n, gRf f g, z.2.1, z.2.2)) : gR gM (d + 9) 47 [.ref 44, .ref a1, .ref a2, .int a3, .int a4] (gKn n, gRf f g, I, L) Q := by
  unfold r_X5_look at hr
  show gW gM (d + 9) 0 0 k_X5_look 0 [.ref 44, .ref a1, .ref a2, .int a3, .int a4] [] (gKn n, gRf f g, I, L) Q
  refine r_aload rfl rfl ?_
  refine r_const rfl (v := -9) (by decide) ?_
  refine r_putI (c := 5) (k := 2) rfl rfl ⟨rfl, rfl⟩ ?_
  refine r_aload rfl rfl ?_
  refine r_const rfl (v := -9) (by decide) ?_
  refine r_putI (c := 5) (k := 3) rfl rfl ⟨rfl, rfl⟩ ?_
  refine r_aload rfl rfl ?_
  refine r_aload rfl rfl ?_
  refine r_aload rfl rfl ?_
  refine r_iload rfl rfl ?_
  refine r_iload rfl rfl ?_
  refine r_const rfl (gcst 3) ?_
  refine r_invs [.int a4, .int (nI 3)] rfl rfl rfl rfl (Nat.le_of_ble_eq_true rfl) ⟨rfl, rfl⟩ ?_
  refine s_J9_min_7cf53  ?_
  show gW _ _ _ _ _ 13 [.ref 44, .ref a1, .ref a2, .int a3, .int a4] [.int (f_J9_min_7cf53 (gu2 (gu2 I 44 2 (-9 : Int32)) 44 3 (-9 : Int32)) L a4 (nI 3)), .int a3, .ref a2, .ref a1, .ref 44] (gKn n, gRf f g, (gu2 (gu2 I 44 2 (-9 : Int32)) 44 3 (-9 : Int32)), L) _
  refine r_const rfl (gcst 0) ?_
  obtain ⟨z2, hz2, hr⟩ := gbnd hr
  refine r_invs [.ref 44, .ref a1, .ref a2, .int a3, .int (f_J9_min_7cf53 (gu2 (gu2 I 44 2 (-9 : Int32)) 44 3 (-9 : Int32)) L a4 (nI 3)), .int (nI 0)] rfl rfl rfl rfl (Nat.le_of_ble_eq_true rfl) ⟨rfl, rfl⟩ ?_
  refine s_X5_tryRows h1 h2 hz2 ?_
  show gW _ _ _ _ _ 15 [.ref 44, .ref a1, .ref a2, .int a3, .int a4] [] (gKn n, gRf f g, z2.2.1, z2.2.2) _
  refine r_vret rfl ?_
  cases hr
  exact hQ
def r_X6_toneBits_4 (a0 : Nat)  : Nat → Int32 → Int32 → (Nat → Nat → Int32) → (Nat → Nat → Int64) → Option gRs
  | 0, _, _, _, _ => none
  | m + 1, v1, v2, I, L => (if (I a0 1) ≤ v2 then some ((v1 &&& (-4097 : Int32)), I, L) else (if gvp v2 12 = true then (r_X6_toneBits_4 a0 m (v1 ||| (gshl (nI 1) (I (a0 + 1) (gx v2)))) (v2 + (nI 1)) I L) else none))
set_option maxHeartbeats 4000000 in
set_option maxRecDepth 100000 in
theorem t_X6_toneBits_4 {n f g d : Nat} {Q : gP} {z : gRs} {a0 : Nat} (h0 : gso a0 = true)  : ∀ {m : Nat} {v1 : Int32} {v2 : Int32} {I : Nat → Nat → Int32} {L : Nat → Nat → Int64}, r_X6_toneBits_4 a0 m v1 v2 I L = some z → Q (some (.int z.1)) (gKn n, gRf f g, z.2.1, z.2.2) → gW gM (d + 0) 0 0 k_X6_toneBits 4 [.ref a0, .int v1, .int v2] [] (gKn n, gRf f g, I, L) Q := by
  intro m
  induction m with
  | zero =>
    intro v1 v2 I L hr _
    cases hr
  | succ m ih =>
    intro v1 v2 I L hr hQ
    have hK4 : ∀ v1 v2 I L, r_X6_toneBits_4 a0 m v1 v2 I L = some z → gW gM (d + 0) 0 0 k_X6_toneBits 4 [.ref a0, .int v1, .int v2] [] (gKn n, gRf f g, I, L) Q := fun v1 v2 I L hr => ih hr hQ
    unfold r_X6_toneBits_4 at hr
    refine r_iload rfl rfl ?_
    refine r_aload rfl rfl ?_
    refine r_getI (c := 6) (k := 1) rfl (shSong h0) ⟨rfl, rfl⟩ ?_
    refine r_icmp_ge 19 rfl rfl (fun c3 => ?_) (fun c3 => ?_)
    · rw [if_pos c3] at hr
      refine r_iload rfl rfl ?_
      refine r_const rfl (v := -4097) (by decide) ?_
      refine r_iand rfl ?_
      refine r_iret rfl ?_
      cases hr
      exact hQ
    · rw [if_neg c3] at hr
      refine r_iload rfl rfl ?_
      refine r_const rfl (gcst 1) ?_
      refine r_aload rfl rfl ?_
      refine r_getR (c := 6) (k := 0) (v := (a0 + 1)) rfl (shSong h0) ⟨rfl, rfl⟩ (rfSong h0) ?_
      refine r_iload rfl rfl ?_
      obtain ⟨b4, hr⟩ := gopt hr
      refine r_iaload (n := 12) rfl (shSong0 h0) (gvp_in b4) ?_
      refine r_ishl rfl ?_
      refine r_ior rfl ?_
      refine r_istore [.ref a0, .int (v1 ||| (gshl (nI 1) (I (a0 + 1) (gx v2)))), .int v2] rfl rfl (Nat.le_of_ble_eq_true rfl) rfl ?_
      refine r_iinc (y := (v2 + (nI 1))) [.ref a0, .int (v1 ||| (gshl (nI 1) (I (a0 + 1) (gx v2)))), .int (v2 + (nI 1))] rfl rfl rfl (ginc _ 1) rfl ?_
      refine r_goto 4 rfl rfl ?_
      exact hK4 _ _ _ _ hr
def r_X6_toneBits (I : Nat → Nat → Int32) (L : Nat → Nat → Int64) (a0 : Nat) : Option gRs := (r_X6_toneBits_4 a0 100 (nI 0) (nI 0) I L)
set_option maxHeartbeats 4000000 in
set_option maxRecDepth 100000 in
theorem s_X6_toneBits {n f g d : Nat} {Q : gP} {I : Nat → Nat → Int32} {L : Nat → Nat → Int64} {a0 : Nat} {z : gRs} (h0 : gso a0 = true) (hr : r_X6_toneBits I L a0 = some z) (hQ : Q (some (.int z.1)) (gKn n, gRf f g, z.2.1, z.2.2)) : gR gM (d + 0) 53 [.ref a0] (gKn n, gRf f g, I, L) Q := by
  unfold r_X6_toneBits at hr
  show gW gM (d + 0) 0 0 k_X6_toneBits 0 [.ref a0, .null, .null] [] (gKn n, gRf f g, I, L) Q
  refine r_const rfl (gcst 0) ?_
  refine r_istore [.ref a0, .int (nI 0), .null] rfl rfl (Nat.le_of_ble_eq_true rfl) rfl ?_
  refine r_const rfl (gcst 0) ?_
  refine r_istore [.ref a0, .int (nI 0), .int (nI 0)] rfl rfl (Nat.le_of_ble_eq_true rfl) rfl ?_
  exact t_X6_toneBits_4 h0 hr hQ
def r_X7_write_5 (f : Nat) (g : Nat)   (I : Nat → Nat → Int32) (L : Nat → Nat → Int64) : Option gRs := some ((-2 : Int32), I, L)
set_option maxHeartbeats 4000000 in
set_option maxRecDepth 100000 in
theorem t_X7_write_5 {n f g d : Nat} {Q : gP} {z : gRs}  (hw : gfw f g)    {I : Nat → Nat → Int32} {L : Nat → Nat → Int64} (hr : r_X7_write_5 f g I L = some z) (hQ : Q (some (.int z.1)) (gKn n, gRf f g, z.2.1, z.2.2)) : gW gM (d + 0) 0 0 k_X7_write 5 [.null, .null] [] (gKn n, gRf f g, I, L) Q := by
  have hfe := hw.f
  have hfd := hw.g
  unfold r_X7_write_5 at hr
  refine r_const rfl (v := -2) (by decide) ?_
  refine r_iret rfl ?_
  cases hr
  exact hQ
def r_X7_write (f g : Nat) (I : Nat → Nat → Int32) (L : Nat → Nat → Int64) (a1 : Int32) : Option gRs := (if a1 < 0 then (r_X7_write_5 f g I L) else (if a1 ≤ (nI 255) then (if (I 2 1) < (nI 60) then (if gvp (I 2 1) 60 = true then some (((gu2 (gu2 I 3 (gx (I 2 1)) a1) 2 1 (((gu2 I 3 (gx (I 2 1)) a1) 2 1) + (nI 1))) 2 1), (gu2 (gu2 I 3 (gx (I 2 1)) a1) 2 1 (((gu2 I 3 (gx (I 2 1)) a1) 2 1) + (nI 1))), L) else none) else some ((-4 : Int32), I, L)) else (r_X7_write_5 f g I L)))
set_option maxHeartbeats 4000000 in
set_option maxRecDepth 100000 in
theorem s_X7_write {n f g d : Nat} {Q : gP} {I : Nat → Nat → Int32} {L : Nat → Nat → Int64} {a1 : Int32} {z : gRs} (hw : gfw f g)  (hr : r_X7_write f g I L a1 = some z) (hQ : Q (some (.int z.1)) (gKn n, gRf f g, z.2.1, z.2.2)) : gR gM (d + 0) 56 [.ref 2, .int a1] (gKn n, gRf f g, I, L) Q := by
  have hfe := hw.f
  have hfd := hw.g
  unfold r_X7_write at hr
  show gW gM (d + 0) 0 0 k_X7_write 0 [.ref 2, .int a1] [] (gKn n, gRf f g, I, L) Q
  refine r_iload rfl rfl ?_
  refine r_if_lt 5 rfl rfl (fun c9 => ?_) (fun c9 => ?_)
  · rw [if_pos c9] at hr
    refine gforget (ls := [.null, .null]) ⟨(Or.inr (Or.inr ⟨rfl, _, rfl⟩)), ⟨(Or.inr (Or.inl ⟨rfl, _, rfl⟩)), trivial⟩⟩ ?_
    exact t_X7_write_5 hw hr hQ
  · rw [if_neg c9] at hr
    refine r_iload rfl rfl ?_
    refine r_const rfl (gcst 255) ?_
    refine r_icmp_le 7 rfl rfl (fun c10 => ?_) (fun c10 => ?_)
    · rw [if_pos c10] at hr
      refine r_aload rfl rfl ?_
      refine r_getI (c := 7) (k := 1) rfl rfl ⟨rfl, rfl⟩ ?_
      refine r_const rfl (gcst 60) ?_
      refine r_icmp_lt 13 rfl rfl (fun c11 => ?_) (fun c11 => ?_)
      · rw [if_pos c11] at hr
        refine r_aload rfl rfl ?_
        refine r_getR (c := 7) (k := 0) (v := 3) rfl rfl ⟨rfl, rfl⟩ rfl ?_
        refine r_aload rfl rfl ?_
        refine r_getI (c := 7) (k := 1) rfl rfl ⟨rfl, rfl⟩ ?_
        refine r_iload rfl rfl ?_
        obtain ⟨b12, hr⟩ := gopt hr
        refine r_iastore (n := 60) rfl rfl (gvp_in b12) (by decide) ?_
        refine r_aload rfl rfl ?_
        refine r_dup rfl rfl ?_
        refine r_getI (c := 7) (k := 1) rfl rfl ⟨rfl, rfl⟩ ?_
        refine r_const rfl (gcst 1) ?_
        refine r_iadd rfl ?_
        refine r_putI (c := 7) (k := 1) rfl rfl ⟨rfl, rfl⟩ ?_
        refine r_aload rfl rfl ?_
        refine r_getI (c := 7) (k := 1) rfl rfl ⟨rfl, rfl⟩ ?_
        refine r_iret rfl ?_
        cases hr
        exact hQ
      · rw [if_neg c11] at hr
        refine r_const rfl (v := -4) (by decide) ?_
        refine r_iret rfl ?_
        cases hr
        exact hQ
    · rw [if_neg c10] at hr
      refine gforget (ls := [.null, .null]) ⟨(Or.inr (Or.inr ⟨rfl, _, rfl⟩)), ⟨(Or.inr (Or.inl ⟨rfl, _, rfl⟩)), trivial⟩⟩ ?_
      exact t_X7_write_5 hw hr hQ
def f_X7_wipe (f g : Nat) (I : Nat → Nat → Int32) (L : Nat → Nat → Int64)  : Int32 := (I 2 1)
def i_X7_wipe (f g : Nat) (I : Nat → Nat → Int32) (L : Nat → Nat → Int64)  : Nat → Nat → Int32 := (gu2 I 2 1 (nI 0))
set_option maxHeartbeats 4000000 in
set_option maxRecDepth 100000 in
theorem s_X7_wipe {n f g d : Nat} {Q : gP} {I : Nat → Nat → Int32} {L : Nat → Nat → Int64}  (hw : gfw f g)  (hQ : Q (some (.int (f_X7_wipe f g I L ))) (gKn n, gRf f g, i_X7_wipe f g I L , L)) : gR gM (d + 0) 57 [.ref 2] (gKn n, gRf f g, I, L) Q := by
  unfold f_X7_wipe i_X7_wipe at hQ
  show gW gM (d + 0) 0 0 k_X7_wipe 0 [.ref 2, .null] [] (gKn n, gRf f g, I, L) Q
  refine r_aload rfl rfl ?_
  refine r_getI (c := 7) (k := 1) rfl rfl ⟨rfl, rfl⟩ ?_
  refine r_istore [.ref 2, .int (I 2 1)] rfl rfl (Nat.le_of_ble_eq_true rfl) rfl ?_
  refine r_aload rfl rfl ?_
  refine r_const rfl (gcst 0) ?_
  refine r_putI (c := 7) (k := 1) rfl rfl ⟨rfl, rfl⟩ ?_
  refine r_iload rfl rfl ?_
  refine r_iret rfl ?_
  first | exact hQ | simpa only [if_true] using hQ
def r_X7_fault (f g : Nat) (I : Nat → Nat → Int32) (L : Nat → Nat → Int64)  : Option gRs := ((r_X1_read I L g (I 2 1)).bind (fun z2 => some (z2.1, z2.2.1, z2.2.2)))
set_option maxHeartbeats 4000000 in
set_option maxRecDepth 100000 in
theorem s_X7_fault {n f g d : Nat} {Q : gP} {I : Nat → Nat → Int32} {L : Nat → Nat → Int64}  {z : gRs} (hw : gfw f g)  (hr : r_X7_fault f g I L  = some z) (hQ : Q (some (.int z.1)) (gKn n, gRf f g, z.2.1, z.2.2)) : gR gM (d + 5) 58 [.ref 2] (gKn n, gRf f g, I, L) Q := by
  have hfe := hw.f
  have hfd := hw.g
  unfold r_X7_fault at hr
  show gW gM (d + 5) 0 0 k_X7_fault 0 [.ref 2] [] (gKn n, gRf f g, I, L) Q
  refine r_aload rfl rfl ?_
  refine r_getR (c := 7) (k := 3) (v := g) rfl rfl ⟨rfl, rfl⟩ rfl ?_
  refine r_aload rfl rfl ?_
  refine r_getR (c := 7) (k := 0) (v := 3) rfl rfl ⟨rfl, rfl⟩ rfl ?_
  refine r_aload rfl rfl ?_
  refine r_getI (c := 7) (k := 1) rfl rfl ⟨rfl, rfl⟩ ?_
  obtain ⟨z2, hz2, hr⟩ := gbnd hr
  refine r_invv (a := g) [.ref 3, .int (I 2 1)] rfl rfl (shFen hfd) rfl rfl (Nat.le_of_ble_eq_true rfl) ⟨rfl, rfl⟩ ?_
  refine s_X1_read hfd hz2 ?_
  show gW _ _ _ _ _ 7 [.ref 2] [.int z2.1] (gKn n, gRf f g, z2.2.1, z2.2.2) _
  refine r_iret rfl ?_
  cases hr
  exact hQ
def r_X7_fen_31 (f : Nat) (g : Nat)  : Nat → Int32 → (Nat → Nat → Int32) → (Nat → Nat → Int64) → Option gRs
  | 0, _, _, _ => none
  | m + 1, v2, I, L => (if (nI 2) ≤ v2 then some ((((((nI 1000) * (I g 0)) + ((nI 100) * (I g 1))) + ((nI 10) * (I g 2))) + (I g 3)), I, L) else (if gvp v2 2 = true then (r_X7_fen_31 f g m (v2 + (nI 1)) (gu2 I 39 (gx v2) (nI 0)) L) else none))
set_option maxHeartbeats 4000000 in
set_option maxRecDepth 100000 in
theorem t_X7_fen_31 {n f g d : Nat} {Q : gP} {z : gRs}  (hw : gfw f g)   : ∀ {m : Nat} {v2 : Int32} {I : Nat → Nat → Int32} {L : Nat → Nat → Int64}, r_X7_fen_31 f g m v2 I L = some z → Q (some (.int z.1)) (gKn n, gRf g f, z.2.1, z.2.2) → gW gM (d + 5) 0 0 k_X7_fen 31 [.ref 2, .null, .int v2] [] (gKn n, gRf g f, I, L) Q := by
  intro m
  have hfe := hw.f
  have hfd := hw.g
  induction m with
  | zero =>
    intro v2 I L hr _
    cases hr
  | succ m ih =>
    intro v2 I L hr hQ
    have hK31 : ∀ v2 I L, r_X7_fen_31 f g m v2 I L = some z → gW gM (d + 5) 0 0 k_X7_fen 31 [.ref 2, .null, .int v2] [] (gKn n, gRf g f, I, L) Q := fun v2 I L hr => ih hr hQ
    unfold r_X7_fen_31 at hr
    refine r_iload rfl rfl ?_
    refine r_const rfl (gcst 2) ?_
    refine r_icmp_ge 41 rfl rfl (fun c6 => ?_) (fun c6 => ?_)
    · rw [if_pos c6] at hr
      refine r_const rfl (gcst 1000) ?_
      refine r_aload rfl rfl ?_
      refine r_getR (c := 7) (k := 2) (v := g) rfl rfl ⟨rfl, rfl⟩ rfl ?_
      refine r_getI (c := 1) (k := 0) rfl (shFen hfd) ⟨rfl, rfl⟩ ?_
      refine r_imul rfl ?_
      refine r_const rfl (gcst 100) ?_
      refine r_aload rfl rfl ?_
      refine r_getR (c := 7) (k := 2) (v := g) rfl rfl ⟨rfl, rfl⟩ rfl ?_
      refine r_getI (c := 1) (k := 1) rfl (shFen hfd) ⟨rfl, rfl⟩ ?_
      refine r_imul rfl ?_
      refine r_iadd rfl ?_
      refine r_const rfl (gcst 10) ?_
      refine r_aload rfl rfl ?_
      refine r_getR (c := 7) (k := 2) (v := g) rfl rfl ⟨rfl, rfl⟩ rfl ?_
      refine r_getI (c := 1) (k := 2) rfl (shFen hfd) ⟨rfl, rfl⟩ ?_
      refine r_imul rfl ?_
      refine r_iadd rfl ?_
      refine r_aload rfl rfl ?_
      refine r_getR (c := 7) (k := 2) (v := g) rfl rfl ⟨rfl, rfl⟩ rfl ?_
      refine r_getI (c := 1) (k := 3) rfl (shFen hfd) ⟨rfl, rfl⟩ ?_
      refine r_iadd rfl ?_
      refine r_iret rfl ?_
      cases hr
      exact hQ
    · rw [if_neg c6] at hr
      refine r_aload rfl rfl ?_
      refine r_getR (c := 7) (k := 8) (v := 39) rfl rfl ⟨rfl, rfl⟩ rfl ?_
      refine r_iload rfl rfl ?_
      refine r_const rfl (gcst 0) ?_
      obtain ⟨b7, hr⟩ := gopt hr
      refine r_bastore (n := 2) rfl rfl (gvp_in b7) (Or.inl rfl) ?_
      refine r_iinc (y := (v2 + (nI 1))) [.ref 2, .null, .int (v2 + (nI 1))] rfl rfl rfl (ginc _ 1) rfl ?_
      refine r_goto 31 rfl rfl ?_
      exact hK31 _ _ _ hr
def r_X7_fen_11 (f : Nat) (g : Nat)   (I : Nat → Nat → Int32) (L : Nat → Nat → Int64) : Option gRs := ((r_X4_begin I L 18 g).bind (fun z8 => (r_X7_fen_31 f g 100 (nI 0) (i_X0_forgetAll z8.2.1 z8.2.2) z8.2.2)))
set_option maxHeartbeats 4000000 in
set_option maxRecDepth 100000 in
theorem t_X7_fen_11 {n f g d : Nat} {Q : gP} {z : gRs}  (hw : gfw f g)    {I : Nat → Nat → Int32} {L : Nat → Nat → Int64} (hr : r_X7_fen_11 f g I L = some z) (hQ : Q (some (.int z.1)) (gKn n, gRf g f, z.2.1, z.2.2)) : gW gM (d + 5) 0 0 k_X7_fen 11 [.ref 2, .null, .null] [] (gKn n, gRf f g, I, L) Q := by
  have hfe := hw.f
  have hfd := hw.g
  unfold r_X7_fen_11 at hr
  refine r_aload rfl rfl ?_
  refine r_getR (c := 7) (k := 2) (v := f) rfl rfl ⟨rfl, rfl⟩ rfl ?_
  refine r_astore [.ref 2, .ref f, .null] rfl rfl (Nat.le_of_ble_eq_true rfl) rfl ?_
  refine r_aload rfl rfl ?_
  refine r_aload rfl rfl ?_
  refine r_getR (c := 7) (k := 3) (v := g) rfl rfl ⟨rfl, rfl⟩ rfl ?_
  refine r_putR (c := 7) (k := 2) rfl rfl ⟨rfl, rfl⟩ ?_
  refine r_aload rfl rfl ?_
  refine r_aload rfl rfl ?_
  refine r_putR (c := 7) (k := 3) rfl rfl ⟨rfl, rfl⟩ ?_
  rw [gRsw]
  refine r_aload rfl rfl ?_
  refine r_getR (c := 7) (k := 4) (v := 18) rfl rfl ⟨rfl, rfl⟩ rfl ?_
  refine r_aload rfl rfl ?_
  refine r_getR (c := 7) (k := 2) (v := g) rfl rfl ⟨rfl, rfl⟩ rfl ?_
  obtain ⟨z8, hz8, hr⟩ := gbnd hr
  refine r_invv (a := 18) [.ref g] rfl rfl rfl rfl rfl (Nat.le_of_ble_eq_true rfl) ⟨rfl, rfl⟩ ?_
  refine s_X4_begin rfl hfd hz8 ?_
  show gW _ _ _ _ _ 26 [.ref 2, .ref f, .null] [] (gKn n, gRf g f, z8.2.1, z8.2.2) _
  refine r_aload rfl rfl ?_
  refine r_getR (c := 7) (k := 6) (v := 20) rfl rfl ⟨rfl, rfl⟩ rfl ?_
  refine r_invv (a := 20) [] rfl rfl rfl rfl rfl (Nat.le_of_ble_eq_true rfl) ⟨rfl, rfl⟩ ?_
  refine s_X0_forgetAll  ?_
  show gW _ _ _ _ _ 29 [.ref 2, .ref f, .null] [] (gKn n, gRf g f, (i_X0_forgetAll z8.2.1 z8.2.2), z8.2.2) _
  refine r_const rfl (gcst 0) ?_
  refine r_istore [.ref 2, .ref f, .int (nI 0)] rfl rfl (Nat.le_of_ble_eq_true rfl) rfl ?_
  refine gforget (ls := [.ref 2, .null, .int (nI 0)]) ⟨(Or.inl rfl), ⟨(Or.inr (Or.inr ⟨rfl, _, rfl⟩)), ⟨(Or.inl rfl), trivial⟩⟩⟩ ?_
  exact t_X7_fen_31 hw hr hQ
set_option maxHeartbeats 4000000 in
set_option maxRecDepth 100000 in
theorem s_X7_fen_no {n f g d : Nat} {Q : gP} {I : Nat → Nat → Int32} {L : Nat → Nat → Int64} {z : gRs} (hw : gfw f g) (hz : r_X1_read I L g (I 2 1) = some z) (hc : ¬ z.1 = -9) (hQ : Q (some (.int (-3))) (gKn n, gRf f g, z.2.1, z.2.2)) : gR gM (d + 5) 59 [.ref 2] (gKn n, gRf f g, I, L) Q := by
  have hfe := hw.f
  have hfd := hw.g
  show gW gM (d + 5) 0 0 k_X7_fen 0 [.ref 2, .null, .null] [] (gKn n, gRf f g, I, L) Q
  refine r_aload rfl rfl ?_
  refine r_getR (c := 7) (k := 3) (v := g) rfl rfl ⟨rfl, rfl⟩ rfl ?_
  refine r_aload rfl rfl ?_
  refine r_getR (c := 7) (k := 0) (v := 3) rfl rfl ⟨rfl, rfl⟩ rfl ?_
  refine r_aload rfl rfl ?_
  refine r_getI (c := 7) (k := 1) rfl rfl ⟨rfl, rfl⟩ ?_
  refine r_invv (a := g) [.ref 3, .int (I 2 1)] rfl rfl (shFen hfd) rfl rfl (Nat.le_of_ble_eq_true rfl) ⟨rfl, rfl⟩ ?_
  refine s_X1_read hfd hz ?_
  show gW _ _ _ _ _ 7 [.ref 2, .null, .null] [.int z.1] (gKn n, gRf f g, z.2.1, z.2.2) _
  refine r_const rfl (v := -9) (by decide) ?_
  refine r_icmp_eq 11 rfl rfl (fun c1 => absurd c1 hc) (fun c1 => ?_)
  refine r_const rfl (v := -3) (by decide) ?_
  exact r_iret rfl hQ
set_option maxHeartbeats 4000000 in
set_option maxRecDepth 100000 in
theorem s_X7_fen_yes {n f g d : Nat} {Q : gP} {I : Nat → Nat → Int32} {L : Nat → Nat → Int64} {z : gRs} (hw : gfw f g) (hz : r_X1_read I L g (I 2 1) = some z) {z2 : gRs} (hc : z.1 = -9) (hr : r_X7_fen_11 f g z.2.1 z.2.2 = some z2) (hQ : Q (some (.int z2.1)) (gKn n, gRf g f, z2.2.1, z2.2.2)) : gR gM (d + 5) 59 [.ref 2] (gKn n, gRf f g, I, L) Q := by
  have hfe := hw.f
  have hfd := hw.g
  show gW gM (d + 5) 0 0 k_X7_fen 0 [.ref 2, .null, .null] [] (gKn n, gRf f g, I, L) Q
  refine r_aload rfl rfl ?_
  refine r_getR (c := 7) (k := 3) (v := g) rfl rfl ⟨rfl, rfl⟩ rfl ?_
  refine r_aload rfl rfl ?_
  refine r_getR (c := 7) (k := 0) (v := 3) rfl rfl ⟨rfl, rfl⟩ rfl ?_
  refine r_aload rfl rfl ?_
  refine r_getI (c := 7) (k := 1) rfl rfl ⟨rfl, rfl⟩ ?_
  refine r_invv (a := g) [.ref 3, .int (I 2 1)] rfl rfl (shFen hfd) rfl rfl (Nat.le_of_ble_eq_true rfl) ⟨rfl, rfl⟩ ?_
  refine s_X1_read hfd hz ?_
  show gW _ _ _ _ _ 7 [.ref 2, .null, .null] [.int z.1] (gKn n, gRf f g, z.2.1, z.2.2) _
  refine r_const rfl (v := -9) (by decide) ?_
  refine r_icmp_eq 11 rfl rfl (fun c1 => ?_) (fun c1 => absurd hc c1)
  exact t_X7_fen_11 hw hr hQ
def r_X7_gate (f g : Nat) (I : Nat → Nat → Int32) (L : Nat → Nat → Int64) (a1 : Int32) (a2 : Int32) : Option gRs := (if ¬ (f_X1_isGate I L f a1) = 0 then (if a2 = (nI 0) then some ((f_X4_noteOf I L 18 a1), I, L) else (if a2 = (nI 1) then (if gvp a1 5 = true then some ((I (f + 2) (gx a1)), I, L) else none) else (if a2 = (nI 2) then some ((f_X4_passedOf I L 18 a1), I, L) else (if a2 = (nI 3) then some (((gshr (I 18 2) a1) &&& (nI 1)), I, L) else (if a2 = (nI 4) then some (((gshr (I 18 3) a1) &&& (nI 1)), I, L) else (if a2 = (nI 5) then ((r_X1_lanesWith I L f a1).bind (fun z18 => some (z18.1, z18.2.1, z18.2.2))) else some ((-2 : Int32), I, L))))))) else some ((-1 : Int32), I, L))
set_option maxHeartbeats 4000000 in
set_option maxRecDepth 100000 in
theorem s_X7_gate {n f g d : Nat} {Q : gP} {I : Nat → Nat → Int32} {L : Nat → Nat → Int64} {a1 : Int32} {a2 : Int32} {z : gRs} (hw : gfw f g)  (hr : r_X7_gate f g I L a1 a2 = some z) (hQ : Q (some (.int z.1)) (gKn n, gRf f g, z.2.1, z.2.2)) : gR gM (d + 2) 60 [.ref 2, .int a1, .int a2] (gKn n, gRf f g, I, L) Q := by
  have hfe := hw.f
  have hfd := hw.g
  unfold r_X7_gate at hr
  show gW gM (d + 2) 0 0 k_X7_gate 0 [.ref 2, .int a1, .int a2] [] (gKn n, gRf f g, I, L) Q
  refine r_aload rfl rfl ?_
  refine r_getR (c := 7) (k := 2) (v := f) rfl rfl ⟨rfl, rfl⟩ rfl ?_
  refine r_iload rfl rfl ?_
  refine r_invv (a := f) [.int a1] rfl rfl (shFen hfe) rfl rfl (Nat.le_of_ble_eq_true rfl) ⟨rfl, rfl⟩ ?_
  refine s_X1_isGate hfe ?_
  show gW _ _ _ _ _ 4 [.ref 2, .int a1, .int a2] [.int (f_X1_isGate I L f a1)] (gKn n, gRf f g, I, L) _
  refine r_if_ne 7 rfl rfl (fun c10 => ?_) (fun c10 => ?_)
  · rw [if_pos c10] at hr
    refine r_iload rfl rfl ?_
    by_cases c11 : a2 = (nI 0)
    · rw [if_pos c11] at hr
      refine r_tsw 9 rfl (by rw [c11]; decide +kernel) ?_
      refine r_aload rfl rfl ?_
      refine r_getR (c := 7) (k := 4) (v := 18) rfl rfl ⟨rfl, rfl⟩ rfl ?_
      refine r_iload rfl rfl ?_
      refine r_invv (a := 18) [.int a1] rfl rfl rfl rfl rfl (Nat.le_of_ble_eq_true rfl) ⟨rfl, rfl⟩ ?_
      refine s_X4_noteOf rfl ?_
      show gW _ _ _ _ _ 13 [.ref 2, .int a1, .int a2] [.int (f_X4_noteOf I L 18 a1)] (gKn n, gRf f g, I, L) _
      refine r_iret rfl ?_
      cases hr
      exact hQ
    · rw [if_neg c11] at hr
      by_cases c12 : a2 = (nI 1)
      · rw [if_pos c12] at hr
        refine r_tsw 14 rfl (by rw [c12]; decide +kernel) ?_
        refine r_aload rfl rfl ?_
        refine r_getR (c := 7) (k := 2) (v := f) rfl rfl ⟨rfl, rfl⟩ rfl ?_
        refine r_getR (c := 1) (k := 6) (v := (f + 2)) rfl (shFen hfe) ⟨rfl, rfl⟩ (rfFen6 hfe) ?_
        refine r_iload rfl rfl ?_
        obtain ⟨b13, hr⟩ := gopt hr
        refine r_iaload (n := 5) rfl (shFen6 hfe) (gvp_in b13) ?_
        refine r_iret rfl ?_
        cases hr
        exact hQ
      · rw [if_neg c12] at hr
        by_cases c14 : a2 = (nI 2)
        · rw [if_pos c14] at hr
          refine r_tsw 20 rfl (by rw [c14]; decide +kernel) ?_
          refine r_aload rfl rfl ?_
          refine r_getR (c := 7) (k := 4) (v := 18) rfl rfl ⟨rfl, rfl⟩ rfl ?_
          refine r_iload rfl rfl ?_
          refine r_invv (a := 18) [.int a1] rfl rfl rfl rfl rfl (Nat.le_of_ble_eq_true rfl) ⟨rfl, rfl⟩ ?_
          refine s_X4_passedOf rfl ?_
          show gW _ _ _ _ _ 24 [.ref 2, .int a1, .int a2] [.int (f_X4_passedOf I L 18 a1)] (gKn n, gRf f g, I, L) _
          refine r_iret rfl ?_
          cases hr
          exact hQ
        · rw [if_neg c14] at hr
          by_cases c15 : a2 = (nI 3)
          · rw [if_pos c15] at hr
            refine r_tsw 25 rfl (by rw [c15]; decide +kernel) ?_
            refine r_aload rfl rfl ?_
            refine r_getR (c := 7) (k := 4) (v := 18) rfl rfl ⟨rfl, rfl⟩ rfl ?_
            refine r_getI (c := 4) (k := 2) rfl rfl ⟨rfl, rfl⟩ ?_
            refine r_iload rfl rfl ?_
            refine r_ishr rfl ?_
            refine r_const rfl (gcst 1) ?_
            refine r_iand rfl ?_
            refine r_iret rfl ?_
            cases hr
            exact hQ
          · rw [if_neg c15] at hr
            by_cases c16 : a2 = (nI 4)
            · rw [if_pos c16] at hr
              refine r_tsw 33 rfl (by rw [c16]; decide +kernel) ?_
              refine r_aload rfl rfl ?_
              refine r_getR (c := 7) (k := 4) (v := 18) rfl rfl ⟨rfl, rfl⟩ rfl ?_
              refine r_getI (c := 4) (k := 3) rfl rfl ⟨rfl, rfl⟩ ?_
              refine r_iload rfl rfl ?_
              refine r_ishr rfl ?_
              refine r_const rfl (gcst 1) ?_
              refine r_iand rfl ?_
              refine r_iret rfl ?_
              cases hr
              exact hQ
            · rw [if_neg c16] at hr
              by_cases c17 : a2 = (nI 5)
              · rw [if_pos c17] at hr
                refine r_tsw 41 rfl (by rw [c17]; decide +kernel) ?_
                refine r_aload rfl rfl ?_
                refine r_getR (c := 7) (k := 2) (v := f) rfl rfl ⟨rfl, rfl⟩ rfl ?_
                refine r_iload rfl rfl ?_
                obtain ⟨z18, hz18, hr⟩ := gbnd hr
                refine r_invv (a := f) [.int a1] rfl rfl (shFen hfe) rfl rfl (Nat.le_of_ble_eq_true rfl) ⟨rfl, rfl⟩ ?_
                refine s_X1_lanesWith hfe hz18 ?_
                show gW _ _ _ _ _ 45 [.ref 2, .int a1, .int a2] [.int z18.1] (gKn n, gRf f g, z18.2.1, z18.2.2) _
                refine r_iret rfl ?_
                cases hr
                exact hQ
              · rw [if_neg c17] at hr
                refine r_tsw 46 rfl (gtab_df rfl (fun z h1 h2 e => by
                    rcases (by omega : z = 0 ∨ z = 1 ∨ z = 2 ∨ z = 3 ∨ z = 4 ∨ z = 5) with rfl | rfl | rfl | rfl | rfl | rfl
                    · exact c11 (gI_of_toInt e)
                    · exact c12 (gI_of_toInt e)
                    · exact c14 (gI_of_toInt e)
                    · exact c15 (gI_of_toInt e)
                    · exact c16 (gI_of_toInt e)
                    · exact c17 (gI_of_toInt e))) ?_
                refine r_const rfl (v := -2) (by decide) ?_
                refine r_iret rfl ?_
                cases hr
                exact hQ
  · rw [if_neg c10] at hr
    refine r_const rfl (v := -1) (by decide) ?_
    refine r_iret rfl ?_
    cases hr
    exact hQ
def r_X7_beast (f g : Nat) (I : Nat → Nat → Int32) (L : Nat → Nat → Int64) (a1 : Int32) (a2 : Int32) : Option gRs := (if ¬ (f_X1_isBeast I L f a1) = 0 then (if a2 = (nI 0) then (if gvp a1 5 = true then some ((I (f + 4) (gx a1)), I, L) else none) else (if a2 = (nI 1) then (if gvp a1 5 = true then some ((I (f + 5) (gx a1)), I, L) else none) else (if a2 = (nI 2) then some (((gshr (I 18 4) a1) &&& (nI 1)), I, L) else some ((-2 : Int32), I, L)))) else some ((-1 : Int32), I, L))
set_option maxHeartbeats 4000000 in
set_option maxRecDepth 100000 in
theorem s_X7_beast {n f g d : Nat} {Q : gP} {I : Nat → Nat → Int32} {L : Nat → Nat → Int64} {a1 : Int32} {a2 : Int32} {z : gRs} (hw : gfw f g)  (hr : r_X7_beast f g I L a1 a2 = some z) (hQ : Q (some (.int z.1)) (gKn n, gRf f g, z.2.1, z.2.2)) : gR gM (d + 1) 61 [.ref 2, .int a1, .int a2] (gKn n, gRf f g, I, L) Q := by
  have hfe := hw.f
  have hfd := hw.g
  unfold r_X7_beast at hr
  show gW gM (d + 1) 0 0 k_X7_beast 0 [.ref 2, .int a1, .int a2] [] (gKn n, gRf f g, I, L) Q
  refine r_aload rfl rfl ?_
  refine r_getR (c := 7) (k := 2) (v := f) rfl rfl ⟨rfl, rfl⟩ rfl ?_
  refine r_iload rfl rfl ?_
  refine r_invv (a := f) [.int a1] rfl rfl (shFen hfe) rfl rfl (Nat.le_of_ble_eq_true rfl) ⟨rfl, rfl⟩ ?_
  refine s_X1_isBeast hfe ?_
  show gW _ _ _ _ _ 4 [.ref 2, .int a1, .int a2] [.int (f_X1_isBeast I L f a1)] (gKn n, gRf f g, I, L) _
  refine r_if_ne 7 rfl rfl (fun c7 => ?_) (fun c7 => ?_)
  · rw [if_pos c7] at hr
    refine r_iload rfl rfl ?_
    by_cases c8 : a2 = (nI 0)
    · rw [if_pos c8] at hr
      refine r_tsw 9 rfl (by rw [c8]; decide +kernel) ?_
      refine r_aload rfl rfl ?_
      refine r_getR (c := 7) (k := 2) (v := f) rfl rfl ⟨rfl, rfl⟩ rfl ?_
      refine r_getR (c := 1) (k := 8) (v := (f + 4)) rfl (shFen hfe) ⟨rfl, rfl⟩ (rfFen8 hfe) ?_
      refine r_iload rfl rfl ?_
      obtain ⟨b9, hr⟩ := gopt hr
      refine r_iaload (n := 5) rfl (shFen8 hfe) (gvp_in b9) ?_
      refine r_iret rfl ?_
      cases hr
      exact hQ
    · rw [if_neg c8] at hr
      by_cases c10 : a2 = (nI 1)
      · rw [if_pos c10] at hr
        refine r_tsw 15 rfl (by rw [c10]; decide +kernel) ?_
        refine r_aload rfl rfl ?_
        refine r_getR (c := 7) (k := 2) (v := f) rfl rfl ⟨rfl, rfl⟩ rfl ?_
        refine r_getR (c := 1) (k := 9) (v := (f + 5)) rfl (shFen hfe) ⟨rfl, rfl⟩ (rfFen9 hfe) ?_
        refine r_iload rfl rfl ?_
        obtain ⟨b11, hr⟩ := gopt hr
        refine r_iaload (n := 5) rfl (shFen9 hfe) (gvp_in b11) ?_
        refine r_iret rfl ?_
        cases hr
        exact hQ
      · rw [if_neg c10] at hr
        by_cases c12 : a2 = (nI 2)
        · rw [if_pos c12] at hr
          refine r_tsw 21 rfl (by rw [c12]; decide +kernel) ?_
          refine r_aload rfl rfl ?_
          refine r_getR (c := 7) (k := 4) (v := 18) rfl rfl ⟨rfl, rfl⟩ rfl ?_
          refine r_getI (c := 4) (k := 4) rfl rfl ⟨rfl, rfl⟩ ?_
          refine r_iload rfl rfl ?_
          refine r_ishr rfl ?_
          refine r_const rfl (gcst 1) ?_
          refine r_iand rfl ?_
          refine r_iret rfl ?_
          cases hr
          exact hQ
        · rw [if_neg c12] at hr
          refine r_tsw 29 rfl (gtab_df rfl (fun z h1 h2 e => by
              rcases (by omega : z = 0 ∨ z = 1 ∨ z = 2) with rfl | rfl | rfl
              · exact c8 (gI_of_toInt e)
              · exact c10 (gI_of_toInt e)
              · exact c12 (gI_of_toInt e))) ?_
          refine r_const rfl (v := -2) (by decide) ?_
          refine r_iret rfl ?_
          cases hr
          exact hQ
  · rw [if_neg c7] at hr
    refine r_const rfl (v := -1) (by decide) ?_
    refine r_iret rfl ?_
    cases hr
    exact hQ
def r_X7_tone_10 (f : Nat) (g : Nat)   (I : Nat → Nat → Int32) (L : Nat → Nat → Int64) : Option gRs := some ((-1 : Int32), I, L)
set_option maxHeartbeats 4000000 in
set_option maxRecDepth 100000 in
theorem t_X7_tone_10 {n f g d : Nat} {Q : gP} {z : gRs}  (hw : gfw f g)    {I : Nat → Nat → Int32} {L : Nat → Nat → Int64} (hr : r_X7_tone_10 f g I L = some z) (hQ : Q (some (.int z.1)) (gKn n, gRf f g, z.2.1, z.2.2)) : gW gM (d + 2) 0 0 k_X7_tone 10 [.null, .null, .null] [] (gKn n, gRf f g, I, L) Q := by
  have hfe := hw.f
  have hfd := hw.g
  unfold r_X7_tone_10 at hr
  refine r_const rfl (v := -1) (by decide) ?_
  refine r_iret rfl ?_
  cases hr
  exact hQ
def r_X7_tone (f g : Nat) (I : Nat → Nat → Int32) (L : Nat → Nat → Int64) (a1 : Int32) (a2 : Int32) : Option gRs := (if (f_X1_isGate I L f a1) = 0 then (r_X7_tone_10 f g I L) else (if ¬ (f_X1_isBeast I L f a2) = 0 then (if gvp a2 5 = true then (if gvp a2 5 = true then ((r_X1_toneBy I L f 18 a1 (I (f + 4) (gx a2)) (I (f + 5) (gx a2))).bind (fun z15 => some (z15.1, z15.2.1, z15.2.2))) else none) else none) else (r_X7_tone_10 f g I L)))
set_option maxHeartbeats 4000000 in
set_option maxRecDepth 100000 in
theorem s_X7_tone {n f g d : Nat} {Q : gP} {I : Nat → Nat → Int32} {L : Nat → Nat → Int64} {a1 : Int32} {a2 : Int32} {z : gRs} (hw : gfw f g)  (hr : r_X7_tone f g I L a1 a2 = some z) (hQ : Q (some (.int z.1)) (gKn n, gRf f g, z.2.1, z.2.2)) : gR gM (d + 2) 62 [.ref 2, .int a1, .int a2] (gKn n, gRf f g, I, L) Q := by
  have hfe := hw.f
  have hfd := hw.g
  unfold r_X7_tone at hr
  show gW gM (d + 2) 0 0 k_X7_tone 0 [.ref 2, .int a1, .int a2] [] (gKn n, gRf f g, I, L) Q
  refine r_aload rfl rfl ?_
  refine r_getR (c := 7) (k := 2) (v := f) rfl rfl ⟨rfl, rfl⟩ rfl ?_
  refine r_iload rfl rfl ?_
  refine r_invv (a := f) [.int a1] rfl rfl (shFen hfe) rfl rfl (Nat.le_of_ble_eq_true rfl) ⟨rfl, rfl⟩ ?_
  refine s_X1_isGate hfe ?_
  show gW _ _ _ _ _ 4 [.ref 2, .int a1, .int a2] [.int (f_X1_isGate I L f a1)] (gKn n, gRf f g, I, L) _
  refine r_if_eq 10 rfl rfl (fun c11 => ?_) (fun c11 => ?_)
  · rw [if_pos c11] at hr
    refine gforget (ls := [.null, .null, .null]) ⟨(Or.inr (Or.inr ⟨rfl, _, rfl⟩)), ⟨(Or.inr (Or.inl ⟨rfl, _, rfl⟩)), ⟨(Or.inr (Or.inl ⟨rfl, _, rfl⟩)), trivial⟩⟩⟩ ?_
    exact t_X7_tone_10 hw hr hQ
  · rw [if_neg c11] at hr
    refine r_aload rfl rfl ?_
    refine r_getR (c := 7) (k := 2) (v := f) rfl rfl ⟨rfl, rfl⟩ rfl ?_
    refine r_iload rfl rfl ?_
    refine r_invv (a := f) [.int a2] rfl rfl (shFen hfe) rfl rfl (Nat.le_of_ble_eq_true rfl) ⟨rfl, rfl⟩ ?_
    refine s_X1_isBeast hfe ?_
    show gW _ _ _ _ _ 9 [.ref 2, .int a1, .int a2] [.int (f_X1_isBeast I L f a2)] (gKn n, gRf f g, I, L) _
    refine r_if_ne 12 rfl rfl (fun c12 => ?_) (fun c12 => ?_)
    · rw [if_pos c12] at hr
      refine r_aload rfl rfl ?_
      refine r_getR (c := 7) (k := 2) (v := f) rfl rfl ⟨rfl, rfl⟩ rfl ?_
      refine r_aload rfl rfl ?_
      refine r_getR (c := 7) (k := 4) (v := 18) rfl rfl ⟨rfl, rfl⟩ rfl ?_
      refine r_iload rfl rfl ?_
      refine r_aload rfl rfl ?_
      refine r_getR (c := 7) (k := 2) (v := f) rfl rfl ⟨rfl, rfl⟩ rfl ?_
      refine r_getR (c := 1) (k := 8) (v := (f + 4)) rfl (shFen hfe) ⟨rfl, rfl⟩ (rfFen8 hfe) ?_
      refine r_iload rfl rfl ?_
      obtain ⟨b13, hr⟩ := gopt hr
      refine r_iaload (n := 5) rfl (shFen8 hfe) (gvp_in b13) ?_
      refine r_aload rfl rfl ?_
      refine r_getR (c := 7) (k := 2) (v := f) rfl rfl ⟨rfl, rfl⟩ rfl ?_
      refine r_getR (c := 1) (k := 9) (v := (f + 5)) rfl (shFen hfe) ⟨rfl, rfl⟩ (rfFen9 hfe) ?_
      refine r_iload rfl rfl ?_
      obtain ⟨b14, hr⟩ := gopt hr
      refine r_iaload (n := 5) rfl (shFen9 hfe) (gvp_in b14) ?_
      obtain ⟨z15, hz15, hr⟩ := gbnd hr
      refine r_invv (a := f) [.ref 18, .int a1, .int (I (f + 4) (gx a2)), .int (I (f + 5) (gx a2))] rfl rfl (shFen hfe) rfl rfl (Nat.le_of_ble_eq_true rfl) ⟨rfl, rfl⟩ ?_
      refine s_X1_toneBy hfe rfl hz15 ?_
      show gW _ _ _ _ _ 28 [.ref 2, .int a1, .int a2] [.int z15.1] (gKn n, gRf f g, z15.2.1, z15.2.2) _
      refine r_iret rfl ?_
      cases hr
      exact hQ
    · rw [if_neg c12] at hr
      refine gforget (ls := [.null, .null, .null]) ⟨(Or.inr (Or.inr ⟨rfl, _, rfl⟩)), ⟨(Or.inr (Or.inl ⟨rfl, _, rfl⟩)), ⟨(Or.inr (Or.inl ⟨rfl, _, rfl⟩)), trivial⟩⟩⟩ ?_
      exact t_X7_tone_10 hw hr hQ
def r_X7_song_47 (f : Nat) (g : Nat)  (s0 : Int32) (I : Nat → Nat → Int32) (L : Nat → Nat → Int64) : Option gRs := some (s0, I, L)
set_option maxHeartbeats 4000000 in
set_option maxRecDepth 100000 in
theorem t_X7_song_47 {n f g d : Nat} {Q : gP} {z : gRs}  (hw : gfw f g)   {s0 : Int32} {I : Nat → Nat → Int32} {L : Nat → Nat → Int64} (hr : r_X7_song_47 f g s0 I L = some z) (hQ : Q (some (.int z.1)) (gKn n, gRf f g, z.2.1, z.2.2)) : gW gM (d + 3) 0 0 k_X7_song 47 [.null, .null, .null, .null] [.int s0] (gKn n, gRf f g, I, L) Q := by
  have hfe := hw.f
  have hfd := hw.g
  unfold r_X7_song_47 at hr
  refine r_iret rfl ?_
  cases hr
  exact hQ
def r_X7_song_17 (f : Nat) (g : Nat)   (I : Nat → Nat → Int32) (L : Nat → Nat → Int64) : Option gRs := some ((-2 : Int32), I, L)
set_option maxHeartbeats 4000000 in
set_option maxRecDepth 100000 in
theorem t_X7_song_17 {n f g d : Nat} {Q : gP} {z : gRs}  (hw : gfw f g)    {I : Nat → Nat → Int32} {L : Nat → Nat → Int64} (hr : r_X7_song_17 f g I L = some z) (hQ : Q (some (.int z.1)) (gKn n, gRf f g, z.2.1, z.2.2)) : gW gM (d + 3) 0 0 k_X7_song 17 [.null, .null, .null, .null] [] (gKn n, gRf f g, I, L) Q := by
  have hfe := hw.f
  have hfd := hw.g
  unfold r_X7_song_17 at hr
  refine r_const rfl (v := -2) (by decide) ?_
  refine r_iret rfl ?_
  cases hr
  exact hQ
def r_X7_song_10 (f : Nat) (g : Nat)   (I : Nat → Nat → Int32) (L : Nat → Nat → Int64) : Option gRs := some ((-1 : Int32), I, L)
set_option maxHeartbeats 4000000 in
set_option maxRecDepth 100000 in
theorem t_X7_song_10 {n f g d : Nat} {Q : gP} {z : gRs}  (hw : gfw f g)    {I : Nat → Nat → Int32} {L : Nat → Nat → Int64} (hr : r_X7_song_10 f g I L = some z) (hQ : Q (some (.int z.1)) (gKn n, gRf f g, z.2.1, z.2.2)) : gW gM (d + 3) 0 0 k_X7_song 10 [.null, .null, .null, .null] [] (gKn n, gRf f g, I, L) Q := by
  have hfe := hw.f
  have hfd := hw.g
  unfold r_X7_song_10 at hr
  refine r_const rfl (v := -1) (by decide) ?_
  refine r_iret rfl ?_
  cases hr
  exact hQ
def r_X7_song (f g : Nat) (I : Nat → Nat → Int32) (L : Nat → Nat → Int64) (a1 : Int32) (a2 : Int32) (a3 : Int32) : Option gRs := (if (f_X1_isBeast I L f a1) = 0 then (r_X7_song_10 f g I L) else (if ¬ (f_X1_isLane I L f a2) = 0 then (if a3 < 0 then (r_X7_song_17 f g I L) else (if a3 ≤ (nI 12) then ((r_X1_sing I L f 18 a1 a2 53).bind (fun z21 => (if ¬ a3 = (nI 12) then (if (z21.2.1 53 1) ≤ a3 then (r_X7_song_47 f g (-9 : Int32) z21.2.1 z21.2.2) else (if gvp a3 12 = true then (r_X7_song_47 f g (z21.2.1 54 (gx a3)) z21.2.1 z21.2.2) else none)) else some ((z21.2.1 53 1), z21.2.1, z21.2.2)))) else (r_X7_song_17 f g I L))) else (r_X7_song_10 f g I L)))
set_option maxHeartbeats 4000000 in
set_option maxRecDepth 100000 in
theorem s_X7_song {n f g d : Nat} {Q : gP} {I : Nat → Nat → Int32} {L : Nat → Nat → Int64} {a1 : Int32} {a2 : Int32} {a3 : Int32} {z : gRs} (hw : gfw f g)  (hr : r_X7_song f g I L a1 a2 a3 = some z) (hQ : Q (some (.int z.1)) (gKn n, gRf f g, z.2.1, z.2.2)) : gR gM (d + 3) 63 [.ref 2, .int a1, .int a2, .int a3] (gKn n, gRf f g, I, L) Q := by
  have hfe := hw.f
  have hfd := hw.g
  unfold r_X7_song at hr
  show gW gM (d + 3) 0 0 k_X7_song 0 [.ref 2, .int a1, .int a2, .int a3] [] (gKn n, gRf f g, I, L) Q
  refine r_aload rfl rfl ?_
  refine r_getR (c := 7) (k := 2) (v := f) rfl rfl ⟨rfl, rfl⟩ rfl ?_
  refine r_iload rfl rfl ?_
  refine r_invv (a := f) [.int a1] rfl rfl (shFen hfe) rfl rfl (Nat.le_of_ble_eq_true rfl) ⟨rfl, rfl⟩ ?_
  refine s_X1_isBeast hfe ?_
  show gW _ _ _ _ _ 4 [.ref 2, .int a1, .int a2, .int a3] [.int (f_X1_isBeast I L f a1)] (gKn n, gRf f g, I, L) _
  refine r_if_eq 10 rfl rfl (fun c17 => ?_) (fun c17 => ?_)
  · rw [if_pos c17] at hr
    refine gforget (ls := [.null, .null, .null, .null]) ⟨(Or.inr (Or.inr ⟨rfl, _, rfl⟩)), ⟨(Or.inr (Or.inl ⟨rfl, _, rfl⟩)), ⟨(Or.inr (Or.inl ⟨rfl, _, rfl⟩)), ⟨(Or.inr (Or.inl ⟨rfl, _, rfl⟩)), trivial⟩⟩⟩⟩ ?_
    exact t_X7_song_10 hw hr hQ
  · rw [if_neg c17] at hr
    refine r_aload rfl rfl ?_
    refine r_getR (c := 7) (k := 2) (v := f) rfl rfl ⟨rfl, rfl⟩ rfl ?_
    refine r_iload rfl rfl ?_
    refine r_invv (a := f) [.int a2] rfl rfl (shFen hfe) rfl rfl (Nat.le_of_ble_eq_true rfl) ⟨rfl, rfl⟩ ?_
    refine s_X1_isLane hfe ?_
    show gW _ _ _ _ _ 9 [.ref 2, .int a1, .int a2, .int a3] [.int (f_X1_isLane I L f a2)] (gKn n, gRf f g, I, L) _
    refine r_if_ne 12 rfl rfl (fun c18 => ?_) (fun c18 => ?_)
    · rw [if_pos c18] at hr
      refine r_iload rfl rfl ?_
      refine r_if_lt 17 rfl rfl (fun c19 => ?_) (fun c19 => ?_)
      · rw [if_pos c19] at hr
        refine gforget (ls := [.null, .null, .null, .null]) ⟨(Or.inr (Or.inr ⟨rfl, _, rfl⟩)), ⟨(Or.inr (Or.inl ⟨rfl, _, rfl⟩)), ⟨(Or.inr (Or.inl ⟨rfl, _, rfl⟩)), ⟨(Or.inr (Or.inl ⟨rfl, _, rfl⟩)), trivial⟩⟩⟩⟩ ?_
        exact t_X7_song_17 hw hr hQ
      · rw [if_neg c19] at hr
        refine r_iload rfl rfl ?_
        refine r_const rfl (gcst 12) ?_
        refine r_icmp_le 19 rfl rfl (fun c20 => ?_) (fun c20 => ?_)
        · rw [if_pos c20] at hr
          refine r_aload rfl rfl ?_
          refine r_getR (c := 7) (k := 2) (v := f) rfl rfl ⟨rfl, rfl⟩ rfl ?_
          refine r_aload rfl rfl ?_
          refine r_getR (c := 7) (k := 4) (v := 18) rfl rfl ⟨rfl, rfl⟩ rfl ?_
          refine r_iload rfl rfl ?_
          refine r_iload rfl rfl ?_
          refine r_aload rfl rfl ?_
          refine r_getR (c := 7) (k := 12) (v := 53) rfl rfl ⟨rfl, rfl⟩ rfl ?_
          obtain ⟨z21, hz21, hr⟩ := gbnd hr
          refine r_invv (a := f) [.ref 18, .int a1, .int a2, .ref 53] rfl rfl (shFen hfe) rfl rfl (Nat.le_of_ble_eq_true rfl) ⟨rfl, rfl⟩ ?_
          refine s_X1_sing hfe rfl rfl hz21 ?_
          show gW _ _ _ _ _ 28 [.ref 2, .int a1, .int a2, .int a3] [] (gKn n, gRf f g, z21.2.1, z21.2.2) _
          refine r_iload rfl rfl ?_
          refine r_const rfl (gcst 12) ?_
          refine r_icmp_ne 35 rfl rfl (fun c22 => ?_) (fun c22 => ?_)
          · rw [if_pos c22] at hr
            refine r_iload rfl rfl ?_
            refine r_aload rfl rfl ?_
            refine r_getR (c := 7) (k := 12) (v := 53) rfl rfl ⟨rfl, rfl⟩ rfl ?_
            refine r_getI (c := 6) (k := 1) rfl rfl ⟨rfl, rfl⟩ ?_
            refine r_icmp_ge 46 rfl rfl (fun c23 => ?_) (fun c23 => ?_)
            · rw [if_pos c23] at hr
              refine r_const rfl (v := -9) (by decide) ?_
              refine gforget (ls := [.null, .null, .null, .null]) ⟨(Or.inr (Or.inr ⟨rfl, _, rfl⟩)), ⟨(Or.inr (Or.inl ⟨rfl, _, rfl⟩)), ⟨(Or.inr (Or.inl ⟨rfl, _, rfl⟩)), ⟨(Or.inr (Or.inl ⟨rfl, _, rfl⟩)), trivial⟩⟩⟩⟩ ?_
              exact t_X7_song_47 hw hr hQ
            · rw [if_neg c23] at hr
              refine r_aload rfl rfl ?_
              refine r_getR (c := 7) (k := 12) (v := 53) rfl rfl ⟨rfl, rfl⟩ rfl ?_
              refine r_getR (c := 6) (k := 0) (v := 54) rfl rfl ⟨rfl, rfl⟩ rfl ?_
              refine r_iload rfl rfl ?_
              obtain ⟨b24, hr⟩ := gopt hr
              refine r_iaload (n := 12) rfl rfl (gvp_in b24) ?_
              refine r_goto 47 rfl rfl ?_
              refine gforget (ls := [.null, .null, .null, .null]) ⟨(Or.inr (Or.inr ⟨rfl, _, rfl⟩)), ⟨(Or.inr (Or.inl ⟨rfl, _, rfl⟩)), ⟨(Or.inr (Or.inl ⟨rfl, _, rfl⟩)), ⟨(Or.inr (Or.inl ⟨rfl, _, rfl⟩)), trivial⟩⟩⟩⟩ ?_
              exact t_X7_song_47 hw hr hQ
          · rw [if_neg c22] at hr
            refine r_aload rfl rfl ?_
            refine r_getR (c := 7) (k := 12) (v := 53) rfl rfl ⟨rfl, rfl⟩ rfl ?_
            refine r_getI (c := 6) (k := 1) rfl rfl ⟨rfl, rfl⟩ ?_
            refine r_iret rfl ?_
            cases hr
            exact hQ
        · rw [if_neg c20] at hr
          refine gforget (ls := [.null, .null, .null, .null]) ⟨(Or.inr (Or.inr ⟨rfl, _, rfl⟩)), ⟨(Or.inr (Or.inl ⟨rfl, _, rfl⟩)), ⟨(Or.inr (Or.inl ⟨rfl, _, rfl⟩)), ⟨(Or.inr (Or.inl ⟨rfl, _, rfl⟩)), trivial⟩⟩⟩⟩ ?_
          exact t_X7_song_17 hw hr hQ
    · rw [if_neg c18] at hr
      refine gforget (ls := [.null, .null, .null, .null]) ⟨(Or.inr (Or.inr ⟨rfl, _, rfl⟩)), ⟨(Or.inr (Or.inl ⟨rfl, _, rfl⟩)), ⟨(Or.inr (Or.inl ⟨rfl, _, rfl⟩)), ⟨(Or.inr (Or.inl ⟨rfl, _, rfl⟩)), trivial⟩⟩⟩⟩ ?_
      exact t_X7_song_10 hw hr hQ
def f_X7_sung (f g : Nat) (I : Nat → Nat → Int32) (L : Nat → Nat → Int64) (a1 : Int32) : Int32 := (if (if a1 < 0 then true else (if a1 < (nI 12) then false else true)) = true then (-2 : Int32) else (f_X4_fromLast I L 18 a1))
set_option maxHeartbeats 4000000 in
set_option maxRecDepth 100000 in
theorem s_X7_sung {n f g d : Nat} {Q : gP} {I : Nat → Nat → Int32} {L : Nat → Nat → Int64} {a1 : Int32} (hw : gfw f g)  (hQ : Q (some (.int (f_X7_sung f g I L a1))) (gKn n, gRf f g, I, L)) : gR gM (d + 1) 64 [.ref 2, .int a1] (gKn n, gRf f g, I, L) Q := by
  unfold f_X7_sung at hQ
  show gW gM (d + 1) 0 0 k_X7_sung 0 [.ref 2, .int a1] [] (gKn n, gRf f g, I, L) Q
  refine r_iload rfl rfl ?_
  have j4 : (if a1 < 0 then true else (if a1 < (nI 12) then false else true)) = true → gW gM (d + 1) 0 0 k_X7_sung 5 [.ref 2, .int a1] [] (gKn n, gRf f g, I, L) Q := by
    intro hq
    try simp only [if_pos hq] at hQ
    refine r_const rfl (v := -2) (by decide) ?_
    refine r_iret rfl ?_
    first | exact hQ | simpa only [if_true] using hQ
  refine r_if_lt 5 rfl rfl (fun c1 => ?_) (fun c1 => ?_)
  · try simp only [if_pos c1] at hQ
    have hx := j4
    simp only [if_pos c1] at hx ⊢
    exact hx (by first | trivial | rfl)
  · try simp only [if_neg c1] at hQ
    refine r_iload rfl rfl ?_
    refine r_const rfl (gcst 12) ?_
    refine r_icmp_lt 7 rfl rfl (fun c2 => ?_) (fun c2 => ?_)
    · try simp only [if_pos c2] at hQ
      refine r_aload rfl rfl ?_
      refine r_getR (c := 7) (k := 4) (v := 18) rfl rfl ⟨rfl, rfl⟩ rfl ?_
      refine r_iload rfl rfl ?_
      refine r_invv (a := 18) [.int a1] rfl rfl rfl rfl rfl (Nat.le_of_ble_eq_true rfl) ⟨rfl, rfl⟩ ?_
      refine s_X4_fromLast rfl ?_
      show gW _ _ _ _ _ 11 [.ref 2, .int a1] [.int (f_X4_fromLast I L 18 a1)] (gKn n, gRf f g, I, L) _
      refine r_iret rfl ?_
      try simp only [Bool.false_eq_true, if_false] at hQ
      first | exact hQ | simpa only [if_neg c1, if_pos c2] using hQ
    · try simp only [if_neg c2] at hQ
      have hx := j4
      simp only [if_neg c1, if_neg c2] at hx ⊢
      exact hx (by first | trivial | rfl)
def r_X7_drive_10 (f : Nat) (g : Nat)   (I : Nat → Nat → Int32) (L : Nat → Nat → Int64) : Option gRs := some ((-1 : Int32), I, L)
set_option maxHeartbeats 4000000 in
set_option maxRecDepth 100000 in
theorem t_X7_drive_10 {n f g d : Nat} {Q : gP} {z : gRs}  (hw : gfw f g)    {I : Nat → Nat → Int32} {L : Nat → Nat → Int64} (hr : r_X7_drive_10 f g I L = some z) (hQ : Q (some (.int z.1)) (gKn n, gRf f g, z.2.1, z.2.2)) : gW gM (d + 4) 0 0 k_X7_drive 10 [.null, .null, .null] [] (gKn n, gRf f g, I, L) Q := by
  have hfe := hw.f
  have hfd := hw.g
  unfold r_X7_drive_10 at hr
  refine r_const rfl (v := -1) (by decide) ?_
  refine r_iret rfl ?_
  cases hr
  exact hQ
def r_X7_drive (f g : Nat) (I : Nat → Nat → Int32) (L : Nat → Nat → Int64) (a1 : Int32) (a2 : Int32) : Option gRs := (if (f_X1_isBeast I L f a1) = 0 then (r_X7_drive_10 f g I L) else (if ¬ (f_X1_isLane I L f a2) = 0 then (if (f_X4_isHome I L 18 a1) = 0 then ((r_X0_add I L 18).bind (fun z16 => ((r_X1_sendHome z16.2.1 z16.2.2 f 18 a1 a2 53).bind (fun z17 => ((r_X6_toneCount z17.2.1 z17.2.2 53).bind (fun z18 => some (z18.1, z18.2.1, z18.2.2))))))) else some ((-3 : Int32), I, L)) else (r_X7_drive_10 f g I L)))
set_option maxHeartbeats 4000000 in
set_option maxRecDepth 100000 in
theorem s_X7_drive {n f g d : Nat} {Q : gP} {I : Nat → Nat → Int32} {L : Nat → Nat → Int64} {a1 : Int32} {a2 : Int32} {z : gRs} (hw : gfw f g)  (hr : r_X7_drive f g I L a1 a2 = some z) (hQ : Q (some (.int z.1)) (gKn n, gRf f g, z.2.1, z.2.2)) : gR gM (d + 4) 65 [.ref 2, .int a1, .int a2] (gKn n, gRf f g, I, L) Q := by
  have hfe := hw.f
  have hfd := hw.g
  unfold r_X7_drive at hr
  show gW gM (d + 4) 0 0 k_X7_drive 0 [.ref 2, .int a1, .int a2] [] (gKn n, gRf f g, I, L) Q
  refine r_aload rfl rfl ?_
  refine r_getR (c := 7) (k := 2) (v := f) rfl rfl ⟨rfl, rfl⟩ rfl ?_
  refine r_iload rfl rfl ?_
  refine r_invv (a := f) [.int a1] rfl rfl (shFen hfe) rfl rfl (Nat.le_of_ble_eq_true rfl) ⟨rfl, rfl⟩ ?_
  refine s_X1_isBeast hfe ?_
  show gW _ _ _ _ _ 4 [.ref 2, .int a1, .int a2] [.int (f_X1_isBeast I L f a1)] (gKn n, gRf f g, I, L) _
  refine r_if_eq 10 rfl rfl (fun c13 => ?_) (fun c13 => ?_)
  · rw [if_pos c13] at hr
    refine gforget (ls := [.null, .null, .null]) ⟨(Or.inr (Or.inr ⟨rfl, _, rfl⟩)), ⟨(Or.inr (Or.inl ⟨rfl, _, rfl⟩)), ⟨(Or.inr (Or.inl ⟨rfl, _, rfl⟩)), trivial⟩⟩⟩ ?_
    exact t_X7_drive_10 hw hr hQ
  · rw [if_neg c13] at hr
    refine r_aload rfl rfl ?_
    refine r_getR (c := 7) (k := 2) (v := f) rfl rfl ⟨rfl, rfl⟩ rfl ?_
    refine r_iload rfl rfl ?_
    refine r_invv (a := f) [.int a2] rfl rfl (shFen hfe) rfl rfl (Nat.le_of_ble_eq_true rfl) ⟨rfl, rfl⟩ ?_
    refine s_X1_isLane hfe ?_
    show gW _ _ _ _ _ 9 [.ref 2, .int a1, .int a2] [.int (f_X1_isLane I L f a2)] (gKn n, gRf f g, I, L) _
    refine r_if_ne 12 rfl rfl (fun c14 => ?_) (fun c14 => ?_)
    · rw [if_pos c14] at hr
      refine r_aload rfl rfl ?_
      refine r_getR (c := 7) (k := 4) (v := 18) rfl rfl ⟨rfl, rfl⟩ rfl ?_
      refine r_iload rfl rfl ?_
      refine r_invv (a := 18) [.int a1] rfl rfl rfl rfl rfl (Nat.le_of_ble_eq_true rfl) ⟨rfl, rfl⟩ ?_
      refine s_X4_isHome rfl ?_
      show gW _ _ _ _ _ 16 [.ref 2, .int a1, .int a2] [.int (f_X4_isHome I L 18 a1)] (gKn n, gRf f g, I, L) _
      refine r_if_eq 19 rfl rfl (fun c15 => ?_) (fun c15 => ?_)
      · rw [if_pos c15] at hr
        refine r_aload rfl rfl ?_
        refine r_getR (c := 7) (k := 6) (v := 20) rfl rfl ⟨rfl, rfl⟩ rfl ?_
        refine r_aload rfl rfl ?_
        refine r_getR (c := 7) (k := 4) (v := 18) rfl rfl ⟨rfl, rfl⟩ rfl ?_
        obtain ⟨z16, hz16, hr⟩ := gbnd hr
        refine r_invv (a := 20) [.ref 18] rfl rfl rfl rfl rfl (Nat.le_of_ble_eq_true rfl) ⟨rfl, rfl⟩ ?_
        refine s_X0_add rfl hz16 ?_
        show gW _ _ _ _ _ 24 [.ref 2, .int a1, .int a2] [] (gKn n, gRf f g, z16.2.1, z16.2.2) _
        refine r_aload rfl rfl ?_
        refine r_getR (c := 7) (k := 2) (v := f) rfl rfl ⟨rfl, rfl⟩ rfl ?_
        refine r_aload rfl rfl ?_
        refine r_getR (c := 7) (k := 4) (v := 18) rfl rfl ⟨rfl, rfl⟩ rfl ?_
        refine r_iload rfl rfl ?_
        refine r_iload rfl rfl ?_
        refine r_aload rfl rfl ?_
        refine r_getR (c := 7) (k := 12) (v := 53) rfl rfl ⟨rfl, rfl⟩ rfl ?_
        obtain ⟨z17, hz17, hr⟩ := gbnd hr
        refine r_invv (a := f) [.ref 18, .int a1, .int a2, .ref 53] rfl rfl (shFen hfe) rfl rfl (Nat.le_of_ble_eq_true rfl) ⟨rfl, rfl⟩ ?_
        refine s_X1_sendHome hfe rfl rfl hz17 ?_
        show gW _ _ _ _ _ 33 [.ref 2, .int a1, .int a2] [] (gKn n, gRf f g, z17.2.1, z17.2.2) _
        refine r_aload rfl rfl ?_
        refine r_getR (c := 7) (k := 12) (v := 53) rfl rfl ⟨rfl, rfl⟩ rfl ?_
        obtain ⟨z18, hz18, hr⟩ := gbnd hr
        refine r_invv (a := 53) [] rfl rfl rfl rfl rfl (Nat.le_of_ble_eq_true rfl) ⟨rfl, rfl⟩ ?_
        refine s_X6_toneCount rfl hz18 ?_
        show gW _ _ _ _ _ 36 [.ref 2, .int a1, .int a2] [.int z18.1] (gKn n, gRf f g, z18.2.1, z18.2.2) _
        refine r_iret rfl ?_
        cases hr
        exact hQ
      · rw [if_neg c15] at hr
        refine r_const rfl (v := -3) (by decide) ?_
        refine r_iret rfl ?_
        cases hr
        exact hQ
    · rw [if_neg c14] at hr
      refine gforget (ls := [.null, .null, .null]) ⟨(Or.inr (Or.inr ⟨rfl, _, rfl⟩)), ⟨(Or.inr (Or.inl ⟨rfl, _, rfl⟩)), ⟨(Or.inr (Or.inl ⟨rfl, _, rfl⟩)), trivial⟩⟩⟩ ?_
      exact t_X7_drive_10 hw hr hQ
def r_X7_open (f g : Nat) (I : Nat → Nat → Int32) (L : Nat → Nat → Int64) (a1 : Int32) : Option gRs := (if ¬ (f_X1_isGate I L f a1) = 0 then ((r_X0_add I L 18).bind (fun z4 => some (((gshr ((gu2 z4.2.1 18 2 ((z4.2.1 18 2) ^^^ (gshl (nI 1) a1))) 18 2) a1) &&& (nI 1)), (gu2 z4.2.1 18 2 ((z4.2.1 18 2) ^^^ (gshl (nI 1) a1))), z4.2.2))) else some ((-1 : Int32), I, L))
set_option maxHeartbeats 4000000 in
set_option maxRecDepth 100000 in
theorem s_X7_open {n f g d : Nat} {Q : gP} {I : Nat → Nat → Int32} {L : Nat → Nat → Int64} {a1 : Int32} {z : gRs} (hw : gfw f g)  (hr : r_X7_open f g I L a1 = some z) (hQ : Q (some (.int z.1)) (gKn n, gRf f g, z.2.1, z.2.2)) : gR gM (d + 2) 66 [.ref 2, .int a1] (gKn n, gRf f g, I, L) Q := by
  have hfe := hw.f
  have hfd := hw.g
  unfold r_X7_open at hr
  show gW gM (d + 2) 0 0 k_X7_open 0 [.ref 2, .int a1] [] (gKn n, gRf f g, I, L) Q
  refine r_aload rfl rfl ?_
  refine r_getR (c := 7) (k := 2) (v := f) rfl rfl ⟨rfl, rfl⟩ rfl ?_
  refine r_iload rfl rfl ?_
  refine r_invv (a := f) [.int a1] rfl rfl (shFen hfe) rfl rfl (Nat.le_of_ble_eq_true rfl) ⟨rfl, rfl⟩ ?_
  refine s_X1_isGate hfe ?_
  show gW _ _ _ _ _ 4 [.ref 2, .int a1] [.int (f_X1_isGate I L f a1)] (gKn n, gRf f g, I, L) _
  refine r_if_ne 7 rfl rfl (fun c3 => ?_) (fun c3 => ?_)
  · rw [if_pos c3] at hr
    refine r_aload rfl rfl ?_
    refine r_getR (c := 7) (k := 6) (v := 20) rfl rfl ⟨rfl, rfl⟩ rfl ?_
    refine r_aload rfl rfl ?_
    refine r_getR (c := 7) (k := 4) (v := 18) rfl rfl ⟨rfl, rfl⟩ rfl ?_
    obtain ⟨z4, hz4, hr⟩ := gbnd hr
    refine r_invv (a := 20) [.ref 18] rfl rfl rfl rfl rfl (Nat.le_of_ble_eq_true rfl) ⟨rfl, rfl⟩ ?_
    refine s_X0_add rfl hz4 ?_
    show gW _ _ _ _ _ 12 [.ref 2, .int a1] [] (gKn n, gRf f g, z4.2.1, z4.2.2) _
    refine r_aload rfl rfl ?_
    refine r_getR (c := 7) (k := 4) (v := 18) rfl rfl ⟨rfl, rfl⟩ rfl ?_
    refine r_dup rfl rfl ?_
    refine r_getI (c := 4) (k := 2) rfl rfl ⟨rfl, rfl⟩ ?_
    refine r_const rfl (gcst 1) ?_
    refine r_iload rfl rfl ?_
    refine r_ishl rfl ?_
    refine r_ixor rfl ?_
    refine r_putI (c := 4) (k := 2) rfl rfl ⟨rfl, rfl⟩ ?_
    refine r_aload rfl rfl ?_
    refine r_getR (c := 7) (k := 4) (v := 18) rfl rfl ⟨rfl, rfl⟩ rfl ?_
    refine r_getI (c := 4) (k := 2) rfl rfl ⟨rfl, rfl⟩ ?_
    refine r_iload rfl rfl ?_
    refine r_ishr rfl ?_
    refine r_const rfl (gcst 1) ?_
    refine r_iand rfl ?_
    refine r_iret rfl ?_
    cases hr
    exact hQ
  · rw [if_neg c3] at hr
    refine r_const rfl (v := -1) (by decide) ?_
    refine r_iret rfl ?_
    cases hr
    exact hQ
def r_X7_oil (f g : Nat) (I : Nat → Nat → Int32) (L : Nat → Nat → Int64) (a1 : Int32) : Option gRs := (if ¬ (f_X1_isGate I L f a1) = 0 then ((r_X0_add I L 18).bind (fun z4 => some (((gshr ((gu2 z4.2.1 18 3 ((z4.2.1 18 3) ^^^ (gshl (nI 1) a1))) 18 3) a1) &&& (nI 1)), (gu2 z4.2.1 18 3 ((z4.2.1 18 3) ^^^ (gshl (nI 1) a1))), z4.2.2))) else some ((-1 : Int32), I, L))
set_option maxHeartbeats 4000000 in
set_option maxRecDepth 100000 in
theorem s_X7_oil {n f g d : Nat} {Q : gP} {I : Nat → Nat → Int32} {L : Nat → Nat → Int64} {a1 : Int32} {z : gRs} (hw : gfw f g)  (hr : r_X7_oil f g I L a1 = some z) (hQ : Q (some (.int z.1)) (gKn n, gRf f g, z.2.1, z.2.2)) : gR gM (d + 2) 67 [.ref 2, .int a1] (gKn n, gRf f g, I, L) Q := by
  have hfe := hw.f
  have hfd := hw.g
  unfold r_X7_oil at hr
  show gW gM (d + 2) 0 0 k_X7_oil 0 [.ref 2, .int a1] [] (gKn n, gRf f g, I, L) Q
  refine r_aload rfl rfl ?_
  refine r_getR (c := 7) (k := 2) (v := f) rfl rfl ⟨rfl, rfl⟩ rfl ?_
  refine r_iload rfl rfl ?_
  refine r_invv (a := f) [.int a1] rfl rfl (shFen hfe) rfl rfl (Nat.le_of_ble_eq_true rfl) ⟨rfl, rfl⟩ ?_
  refine s_X1_isGate hfe ?_
  show gW _ _ _ _ _ 4 [.ref 2, .int a1] [.int (f_X1_isGate I L f a1)] (gKn n, gRf f g, I, L) _
  refine r_if_ne 7 rfl rfl (fun c3 => ?_) (fun c3 => ?_)
  · rw [if_pos c3] at hr
    refine r_aload rfl rfl ?_
    refine r_getR (c := 7) (k := 6) (v := 20) rfl rfl ⟨rfl, rfl⟩ rfl ?_
    refine r_aload rfl rfl ?_
    refine r_getR (c := 7) (k := 4) (v := 18) rfl rfl ⟨rfl, rfl⟩ rfl ?_
    obtain ⟨z4, hz4, hr⟩ := gbnd hr
    refine r_invv (a := 20) [.ref 18] rfl rfl rfl rfl rfl (Nat.le_of_ble_eq_true rfl) ⟨rfl, rfl⟩ ?_
    refine s_X0_add rfl hz4 ?_
    show gW _ _ _ _ _ 12 [.ref 2, .int a1] [] (gKn n, gRf f g, z4.2.1, z4.2.2) _
    refine r_aload rfl rfl ?_
    refine r_getR (c := 7) (k := 4) (v := 18) rfl rfl ⟨rfl, rfl⟩ rfl ?_
    refine r_dup rfl rfl ?_
    refine r_getI (c := 4) (k := 3) rfl rfl ⟨rfl, rfl⟩ ?_
    refine r_const rfl (gcst 1) ?_
    refine r_iload rfl rfl ?_
    refine r_ishl rfl ?_
    refine r_ixor rfl ?_
    refine r_putI (c := 4) (k := 3) rfl rfl ⟨rfl, rfl⟩ ?_
    refine r_aload rfl rfl ?_
    refine r_getR (c := 7) (k := 4) (v := 18) rfl rfl ⟨rfl, rfl⟩ rfl ?_
    refine r_getI (c := 4) (k := 3) rfl rfl ⟨rfl, rfl⟩ ?_
    refine r_iload rfl rfl ?_
    refine r_ishr rfl ?_
    refine r_const rfl (gcst 1) ?_
    refine r_iand rfl ?_
    refine r_iret rfl ?_
    cases hr
    exact hQ
  · rw [if_neg c3] at hr
    refine r_const rfl (v := -1) (by decide) ?_
    refine r_iret rfl ?_
    cases hr
    exact hQ
def r_X7_hang_17 (f : Nat) (g : Nat)  (v1 : Int32) (s0 : Int32) (I : Nat → Nat → Int32) (L : Nat → Nat → Int64) : Option gRs := ((r_J9_floorMod_7cf53 I L ((f_X4_noteOf I L 18 v1) + s0) (nI 12)).bind (fun z8 => some ((f_X4_noteOf (i_X4_setNote z8.2.1 z8.2.2 18 v1 z8.1) z8.2.2 18 v1), (i_X4_setNote z8.2.1 z8.2.2 18 v1 z8.1), z8.2.2)))
set_option maxHeartbeats 4000000 in
set_option maxRecDepth 100000 in
theorem t_X7_hang_17 {n f g d : Nat} {Q : gP} {z : gRs}  (hw : gfw f g)   {v1 : Int32} {s0 : Int32} {I : Nat → Nat → Int32} {L : Nat → Nat → Int64} (hr : r_X7_hang_17 f g v1 s0 I L = some z) (hQ : Q (some (.int z.1)) (gKn n, gRf f g, z.2.1, z.2.2)) : gW gM (d + 2) 0 0 k_X7_hang 17 [.ref 2, .int v1, .null, .null] [.int s0] (gKn n, gRf f g, I, L) Q := by
  have hfe := hw.f
  have hfd := hw.g
  unfold r_X7_hang_17 at hr
  refine r_istore [.ref 2, .int v1, .null, .int s0] rfl rfl (Nat.le_of_ble_eq_true rfl) rfl ?_
  refine r_aload rfl rfl ?_
  refine r_getR (c := 7) (k := 4) (v := 18) rfl rfl ⟨rfl, rfl⟩ rfl ?_
  refine r_iload rfl rfl ?_
  refine r_aload rfl rfl ?_
  refine r_getR (c := 7) (k := 4) (v := 18) rfl rfl ⟨rfl, rfl⟩ rfl ?_
  refine r_iload rfl rfl ?_
  refine r_invv (a := 18) [.int v1] rfl rfl rfl rfl rfl (Nat.le_of_ble_eq_true rfl) ⟨rfl, rfl⟩ ?_
  refine s_X4_noteOf rfl ?_
  show gW _ _ _ _ _ 25 [.ref 2, .int v1, .null, .int s0] [.int (f_X4_noteOf I L 18 v1), .int v1, .ref 18] (gKn n, gRf f g, I, L) _
  refine r_iload rfl rfl ?_
  refine r_iadd rfl ?_
  refine r_const rfl (gcst 12) ?_
  obtain ⟨z8, hz8, hr⟩ := gbnd hr
  refine r_invs [.int ((f_X4_noteOf I L 18 v1) + s0), .int (nI 12)] rfl rfl rfl rfl (Nat.le_of_ble_eq_true rfl) ⟨rfl, rfl⟩ ?_
  refine s_J9_floorMod_7cf53  hz8 ?_
  show gW _ _ _ _ _ 29 [.ref 2, .int v1, .null, .int s0] [.int z8.1, .int v1, .ref 18] (gKn n, gRf f g, z8.2.1, z8.2.2) _
  refine r_invv (a := 18) [.int v1, .int z8.1] rfl rfl rfl rfl rfl (Nat.le_of_ble_eq_true rfl) ⟨rfl, rfl⟩ ?_
  refine s_X4_setNote rfl ?_
  show gW _ _ _ _ _ 30 [.ref 2, .int v1, .null, .int s0] [] (gKn n, gRf f g, (i_X4_setNote z8.2.1 z8.2.2 18 v1 z8.1), z8.2.2) _
  refine r_aload rfl rfl ?_
  refine r_getR (c := 7) (k := 4) (v := 18) rfl rfl ⟨rfl, rfl⟩ rfl ?_
  refine r_iload rfl rfl ?_
  refine r_invv (a := 18) [.int v1] rfl rfl rfl rfl rfl (Nat.le_of_ble_eq_true rfl) ⟨rfl, rfl⟩ ?_
  refine s_X4_noteOf rfl ?_
  show gW _ _ _ _ _ 34 [.ref 2, .int v1, .null, .int s0] [.int (f_X4_noteOf (i_X4_setNote z8.2.1 z8.2.2 18 v1 z8.1) z8.2.2 18 v1)] (gKn n, gRf f g, (i_X4_setNote z8.2.1 z8.2.2 18 v1 z8.1), z8.2.2) _
  refine r_iret rfl ?_
  cases hr
  exact hQ
def r_X7_hang (f g : Nat) (I : Nat → Nat → Int32) (L : Nat → Nat → Int64) (a1 : Int32) (a2 : Int32) : Option gRs := (if ¬ (f_X1_isGate I L f a1) = 0 then ((r_X0_add I L 18).bind (fun z10 => (if a2 = 0 then (r_X7_hang_17 f g a1 (-1 : Int32) z10.2.1 z10.2.2) else (r_X7_hang_17 f g a1 (nI 1) z10.2.1 z10.2.2)))) else some ((-1 : Int32), I, L))
set_option maxHeartbeats 4000000 in
set_option maxRecDepth 100000 in
theorem s_X7_hang {n f g d : Nat} {Q : gP} {I : Nat → Nat → Int32} {L : Nat → Nat → Int64} {a1 : Int32} {a2 : Int32} {z : gRs} (hw : gfw f g)  (hr : r_X7_hang f g I L a1 a2 = some z) (hQ : Q (some (.int z.1)) (gKn n, gRf f g, z.2.1, z.2.2)) : gR gM (d + 2) 68 [.ref 2, .int a1, .int a2] (gKn n, gRf f g, I, L) Q := by
  have hfe := hw.f
  have hfd := hw.g
  unfold r_X7_hang at hr
  show gW gM (d + 2) 0 0 k_X7_hang 0 [.ref 2, .int a1, .int a2, .null] [] (gKn n, gRf f g, I, L) Q
  refine r_aload rfl rfl ?_
  refine r_getR (c := 7) (k := 2) (v := f) rfl rfl ⟨rfl, rfl⟩ rfl ?_
  refine r_iload rfl rfl ?_
  refine r_invv (a := f) [.int a1] rfl rfl (shFen hfe) rfl rfl (Nat.le_of_ble_eq_true rfl) ⟨rfl, rfl⟩ ?_
  refine s_X1_isGate hfe ?_
  show gW _ _ _ _ _ 4 [.ref 2, .int a1, .int a2, .null] [.int (f_X1_isGate I L f a1)] (gKn n, gRf f g, I, L) _
  refine r_if_ne 7 rfl rfl (fun c9 => ?_) (fun c9 => ?_)
  · rw [if_pos c9] at hr
    refine r_aload rfl rfl ?_
    refine r_getR (c := 7) (k := 6) (v := 20) rfl rfl ⟨rfl, rfl⟩ rfl ?_
    refine r_aload rfl rfl ?_
    refine r_getR (c := 7) (k := 4) (v := 18) rfl rfl ⟨rfl, rfl⟩ rfl ?_
    obtain ⟨z10, hz10, hr⟩ := gbnd hr
    refine r_invv (a := 20) [.ref 18] rfl rfl rfl rfl rfl (Nat.le_of_ble_eq_true rfl) ⟨rfl, rfl⟩ ?_
    refine s_X0_add rfl hz10 ?_
    show gW _ _ _ _ _ 12 [.ref 2, .int a1, .int a2, .null] [] (gKn n, gRf f g, z10.2.1, z10.2.2) _
    refine r_iload rfl rfl ?_
    refine r_if_eq 16 rfl rfl (fun c11 => ?_) (fun c11 => ?_)
    · rw [if_pos c11] at hr
      refine r_const rfl (v := -1) (by decide) ?_
      refine gforget (ls := [.ref 2, .int a1, .null, .null]) ⟨(Or.inl rfl), ⟨(Or.inl rfl), ⟨(Or.inr (Or.inl ⟨rfl, _, rfl⟩)), ⟨(Or.inl rfl), trivial⟩⟩⟩⟩ ?_
      exact t_X7_hang_17 hw hr hQ
    · rw [if_neg c11] at hr
      refine r_const rfl (gcst 1) ?_
      refine r_goto 17 rfl rfl ?_
      refine gforget (ls := [.ref 2, .int a1, .null, .null]) ⟨(Or.inl rfl), ⟨(Or.inl rfl), ⟨(Or.inr (Or.inl ⟨rfl, _, rfl⟩)), ⟨(Or.inl rfl), trivial⟩⟩⟩⟩ ?_
      exact t_X7_hang_17 hw hr hQ
  · rw [if_neg c9] at hr
    refine r_const rfl (v := -1) (by decide) ?_
    refine r_iret rfl ?_
    cases hr
    exact hQ
def r_X7_turnOut (f g : Nat) (I : Nat → Nat → Int32) (L : Nat → Nat → Int64) (a1 : Int32) : Option gRs := (if ¬ (f_X1_isBeast I L f a1) = 0 then (if ¬ (f_X4_isHome I L 18 a1) = 0 then ((r_X0_add I L 18).bind (fun z6 => some ((f_X4_homeCount (gu2 z6.2.1 18 4 ((z6.2.1 18 4) ^^^ (gshl (nI 1) a1))) z6.2.2 18), (gu2 z6.2.1 18 4 ((z6.2.1 18 4) ^^^ (gshl (nI 1) a1))), z6.2.2))) else some ((-3 : Int32), I, L)) else some ((-1 : Int32), I, L))
set_option maxHeartbeats 4000000 in
set_option maxRecDepth 100000 in
theorem s_X7_turnOut {n f g d : Nat} {Q : gP} {I : Nat → Nat → Int32} {L : Nat → Nat → Int64} {a1 : Int32} {z : gRs} (hw : gfw f g)  (hr : r_X7_turnOut f g I L a1 = some z) (hQ : Q (some (.int z.1)) (gKn n, gRf f g, z.2.1, z.2.2)) : gR gM (d + 2) 69 [.ref 2, .int a1] (gKn n, gRf f g, I, L) Q := by
  have hfe := hw.f
  have hfd := hw.g
  unfold r_X7_turnOut at hr
  show gW gM (d + 2) 0 0 k_X7_turnOut 0 [.ref 2, .int a1] [] (gKn n, gRf f g, I, L) Q
  refine r_aload rfl rfl ?_
  refine r_getR (c := 7) (k := 2) (v := f) rfl rfl ⟨rfl, rfl⟩ rfl ?_
  refine r_iload rfl rfl ?_
  refine r_invv (a := f) [.int a1] rfl rfl (shFen hfe) rfl rfl (Nat.le_of_ble_eq_true rfl) ⟨rfl, rfl⟩ ?_
  refine s_X1_isBeast hfe ?_
  show gW _ _ _ _ _ 4 [.ref 2, .int a1] [.int (f_X1_isBeast I L f a1)] (gKn n, gRf f g, I, L) _
  refine r_if_ne 7 rfl rfl (fun c4 => ?_) (fun c4 => ?_)
  · rw [if_pos c4] at hr
    refine r_aload rfl rfl ?_
    refine r_getR (c := 7) (k := 4) (v := 18) rfl rfl ⟨rfl, rfl⟩ rfl ?_
    refine r_iload rfl rfl ?_
    refine r_invv (a := 18) [.int a1] rfl rfl rfl rfl rfl (Nat.le_of_ble_eq_true rfl) ⟨rfl, rfl⟩ ?_
    refine s_X4_isHome rfl ?_
    show gW _ _ _ _ _ 11 [.ref 2, .int a1] [.int (f_X4_isHome I L 18 a1)] (gKn n, gRf f g, I, L) _
    refine r_if_ne 14 rfl rfl (fun c5 => ?_) (fun c5 => ?_)
    · rw [if_pos c5] at hr
      refine r_aload rfl rfl ?_
      refine r_getR (c := 7) (k := 6) (v := 20) rfl rfl ⟨rfl, rfl⟩ rfl ?_
      refine r_aload rfl rfl ?_
      refine r_getR (c := 7) (k := 4) (v := 18) rfl rfl ⟨rfl, rfl⟩ rfl ?_
      obtain ⟨z6, hz6, hr⟩ := gbnd hr
      refine r_invv (a := 20) [.ref 18] rfl rfl rfl rfl rfl (Nat.le_of_ble_eq_true rfl) ⟨rfl, rfl⟩ ?_
      refine s_X0_add rfl hz6 ?_
      show gW _ _ _ _ _ 19 [.ref 2, .int a1] [] (gKn n, gRf f g, z6.2.1, z6.2.2) _
      refine r_aload rfl rfl ?_
      refine r_getR (c := 7) (k := 4) (v := 18) rfl rfl ⟨rfl, rfl⟩ rfl ?_
      refine r_dup rfl rfl ?_
      refine r_getI (c := 4) (k := 4) rfl rfl ⟨rfl, rfl⟩ ?_
      refine r_const rfl (gcst 1) ?_
      refine r_iload rfl rfl ?_
      refine r_ishl rfl ?_
      refine r_ixor rfl ?_
      refine r_putI (c := 4) (k := 4) rfl rfl ⟨rfl, rfl⟩ ?_
      refine r_aload rfl rfl ?_
      refine r_getR (c := 7) (k := 4) (v := 18) rfl rfl ⟨rfl, rfl⟩ rfl ?_
      refine r_invv (a := 18) [] rfl rfl rfl rfl rfl (Nat.le_of_ble_eq_true rfl) ⟨rfl, rfl⟩ ?_
      refine s_X4_homeCount rfl ?_
      show gW _ _ _ _ _ 31 [.ref 2, .int a1] [.int (f_X4_homeCount (gu2 z6.2.1 18 4 ((z6.2.1 18 4) ^^^ (gshl (nI 1) a1))) z6.2.2 18)] (gKn n, gRf f g, (gu2 z6.2.1 18 4 ((z6.2.1 18 4) ^^^ (gshl (nI 1) a1))), z6.2.2) _
      refine r_iret rfl ?_
      cases hr
      exact hQ
    · rw [if_neg c5] at hr
      refine r_const rfl (v := -3) (by decide) ?_
      refine r_iret rfl ?_
      cases hr
      exact hQ
  · rw [if_neg c4] at hr
    refine r_const rfl (v := -1) (by decide) ?_
    refine r_iret rfl ?_
    cases hr
    exact hQ
def r_X7_frost (f g : Nat) (I : Nat → Nat → Int32) (L : Nat → Nat → Int64)  : Option gRs := ((r_X0_add I L 18).bind (fun z2 => some (((gu2 z2.2.1 18 5 ((z2.2.1 18 5) ^^^ (nI 1))) 18 5), (gu2 z2.2.1 18 5 ((z2.2.1 18 5) ^^^ (nI 1))), z2.2.2)))
set_option maxHeartbeats 4000000 in
set_option maxRecDepth 100000 in
theorem s_X7_frost {n f g d : Nat} {Q : gP} {I : Nat → Nat → Int32} {L : Nat → Nat → Int64}  {z : gRs} (hw : gfw f g)  (hr : r_X7_frost f g I L  = some z) (hQ : Q (some (.int z.1)) (gKn n, gRf f g, z.2.1, z.2.2)) : gR gM (d + 2) 70 [.ref 2] (gKn n, gRf f g, I, L) Q := by
  have hfe := hw.f
  have hfd := hw.g
  unfold r_X7_frost at hr
  show gW gM (d + 2) 0 0 k_X7_frost 0 [.ref 2] [] (gKn n, gRf f g, I, L) Q
  refine r_aload rfl rfl ?_
  refine r_getR (c := 7) (k := 6) (v := 20) rfl rfl ⟨rfl, rfl⟩ rfl ?_
  refine r_aload rfl rfl ?_
  refine r_getR (c := 7) (k := 4) (v := 18) rfl rfl ⟨rfl, rfl⟩ rfl ?_
  obtain ⟨z2, hz2, hr⟩ := gbnd hr
  refine r_invv (a := 20) [.ref 18] rfl rfl rfl rfl rfl (Nat.le_of_ble_eq_true rfl) ⟨rfl, rfl⟩ ?_
  refine s_X0_add rfl hz2 ?_
  show gW _ _ _ _ _ 5 [.ref 2] [] (gKn n, gRf f g, z2.2.1, z2.2.2) _
  refine r_aload rfl rfl ?_
  refine r_getR (c := 7) (k := 4) (v := 18) rfl rfl ⟨rfl, rfl⟩ rfl ?_
  refine r_dup rfl rfl ?_
  refine r_getI (c := 4) (k := 5) rfl rfl ⟨rfl, rfl⟩ ?_
  refine r_const rfl (gcst 1) ?_
  refine r_ixor rfl ?_
  refine r_putI (c := 4) (k := 5) rfl rfl ⟨rfl, rfl⟩ ?_
  refine r_aload rfl rfl ?_
  refine r_getR (c := 7) (k := 4) (v := 18) rfl rfl ⟨rfl, rfl⟩ rfl ?_
  refine r_getI (c := 4) (k := 5) rfl rfl ⟨rfl, rfl⟩ ?_
  refine r_iret rfl ?_
  cases hr
  exact hQ
def r_X7_undo (f g : Nat) (I : Nat → Nat → Int32) (L : Nat → Nat → Int64)  : Option gRs := (if 0 < (I 20 2) then ((r_X0_takeLast I L 18).bind (fun z4 => some ((z4.2.1 20 2), z4.2.1, z4.2.2))) else some ((-3 : Int32), I, L))
set_option maxHeartbeats 4000000 in
set_option maxRecDepth 100000 in
theorem s_X7_undo {n f g d : Nat} {Q : gP} {I : Nat → Nat → Int32} {L : Nat → Nat → Int64}  {z : gRs} (hw : gfw f g)  (hr : r_X7_undo f g I L  = some z) (hQ : Q (some (.int z.1)) (gKn n, gRf f g, z.2.1, z.2.2)) : gR gM (d + 2) 71 [.ref 2] (gKn n, gRf f g, I, L) Q := by
  have hfe := hw.f
  have hfd := hw.g
  unfold r_X7_undo at hr
  show gW gM (d + 2) 0 0 k_X7_undo 0 [.ref 2] [] (gKn n, gRf f g, I, L) Q
  refine r_aload rfl rfl ?_
  refine r_getR (c := 7) (k := 6) (v := 20) rfl rfl ⟨rfl, rfl⟩ rfl ?_
  refine r_getI (c := 0) (k := 2) rfl rfl ⟨rfl, rfl⟩ ?_
  refine r_if_gt 6 rfl rfl (fun c3 => ?_) (fun c3 => ?_)
  · rw [if_pos c3] at hr
    refine r_aload rfl rfl ?_
    refine r_getR (c := 7) (k := 6) (v := 20) rfl rfl ⟨rfl, rfl⟩ rfl ?_
    refine r_aload rfl rfl ?_
    refine r_getR (c := 7) (k := 4) (v := 18) rfl rfl ⟨rfl, rfl⟩ rfl ?_
    obtain ⟨z4, hz4, hr⟩ := gbnd hr
    refine r_invv (a := 20) [.ref 18] rfl rfl rfl rfl rfl (Nat.le_of_ble_eq_true rfl) ⟨rfl, rfl⟩ ?_
    refine s_X0_takeLast rfl hz4 ?_
    show gW _ _ _ _ _ 11 [.ref 2] [] (gKn n, gRf f g, z4.2.1, z4.2.2) _
    refine r_aload rfl rfl ?_
    refine r_getR (c := 7) (k := 6) (v := 20) rfl rfl ⟨rfl, rfl⟩ rfl ?_
    refine r_getI (c := 0) (k := 2) rfl rfl ⟨rfl, rfl⟩ ?_
    refine r_iret rfl ?_
    cases hr
    exact hQ
  · rw [if_neg c3] at hr
    refine r_const rfl (v := -3) (by decide) ?_
    refine r_iret rfl ?_
    cases hr
    exact hQ
def r_X7_fitIn (f g : Nat) (I : Nat → Nat → Int32) (L : Nat → Nat → Int64) (a1 : Nat) (a2 : Int32) : Option gRs := ((r_X1_fitBehind (gu2 I 53 1 (nI 0)) L f a1 53 a2).bind (fun z2 => some (z2.1, z2.2.1, z2.2.2)))
set_option maxHeartbeats 4000000 in
set_option maxRecDepth 100000 in
theorem s_X7_fitIn {n f g d : Nat} {Q : gP} {I : Nat → Nat → Int32} {L : Nat → Nat → Int64} {a1 : Nat} {a2 : Int32} {z : gRs} (hw : gfw f g) (h1 : gmo a1 = true) (hr : r_X7_fitIn f g I L a1 a2 = some z) (hQ : Q (some (.int z.1)) (gKn n, gRf f g, z.2.1, z.2.2)) : gR gM (d + 2) 92 [.ref 2, .ref a1, .int a2] (gKn n, gRf f g, I, L) Q := by
  have hfe := hw.f
  have hfd := hw.g
  unfold r_X7_fitIn at hr
  show gW gM (d + 2) 0 0 k_X7_fitIn 0 [.ref 2, .ref a1, .int a2] [] (gKn n, gRf f g, I, L) Q
  refine r_aload rfl rfl ?_
  refine r_getR (c := 7) (k := 12) (v := 53) rfl rfl ⟨rfl, rfl⟩ rfl ?_
  refine r_const rfl (gcst 0) ?_
  refine r_putI (c := 6) (k := 1) rfl rfl ⟨rfl, rfl⟩ ?_
  refine r_aload rfl rfl ?_
  refine r_getR (c := 7) (k := 2) (v := f) rfl rfl ⟨rfl, rfl⟩ rfl ?_
  refine r_aload rfl rfl ?_
  refine r_aload rfl rfl ?_
  refine r_getR (c := 7) (k := 12) (v := 53) rfl rfl ⟨rfl, rfl⟩ rfl ?_
  refine r_iload rfl rfl ?_
  obtain ⟨z2, hz2, hr⟩ := gbnd hr
  refine r_invv (a := f) [.ref a1, .ref 53, .int a2] rfl rfl (shFen hfe) rfl rfl (Nat.le_of_ble_eq_true rfl) ⟨rfl, rfl⟩ ?_
  refine s_X1_fitBehind hfe h1 rfl hz2 ?_
  show gW _ _ _ _ _ 11 [.ref 2, .ref a1, .int a2] [.int z2.1] (gKn n, gRf f g, z2.2.1, z2.2.2) _
  refine r_iret rfl ?_
  cases hr
  exact hQ
def r_X7_fit (f g : Nat) (I : Nat → Nat → Int32) (L : Nat → Nat → Int64) (a1 : Int32) : Option gRs := (if ¬ (f_X1_isVerse I L f a1) = 0 then ((r_X7_fitIn f g I L 18 a1).bind (fun z4 => some (z4.1, z4.2.1, z4.2.2))) else some ((-1 : Int32), I, L))
set_option maxHeartbeats 4000000 in
set_option maxRecDepth 100000 in
theorem s_X7_fit {n f g d : Nat} {Q : gP} {I : Nat → Nat → Int32} {L : Nat → Nat → Int64} {a1 : Int32} {z : gRs} (hw : gfw f g)  (hr : r_X7_fit f g I L a1 = some z) (hQ : Q (some (.int z.1)) (gKn n, gRf f g, z.2.1, z.2.2)) : gR gM (d + 3) 72 [.ref 2, .int a1] (gKn n, gRf f g, I, L) Q := by
  have hfe := hw.f
  have hfd := hw.g
  unfold r_X7_fit at hr
  show gW gM (d + 3) 0 0 k_X7_fit 0 [.ref 2, .int a1] [] (gKn n, gRf f g, I, L) Q
  refine r_aload rfl rfl ?_
  refine r_getR (c := 7) (k := 2) (v := f) rfl rfl ⟨rfl, rfl⟩ rfl ?_
  refine r_iload rfl rfl ?_
  refine r_invv (a := f) [.int a1] rfl rfl (shFen hfe) rfl rfl (Nat.le_of_ble_eq_true rfl) ⟨rfl, rfl⟩ ?_
  refine s_X1_isVerse hfe ?_
  show gW _ _ _ _ _ 4 [.ref 2, .int a1] [.int (f_X1_isVerse I L f a1)] (gKn n, gRf f g, I, L) _
  refine r_if_ne 7 rfl rfl (fun c3 => ?_) (fun c3 => ?_)
  · rw [if_pos c3] at hr
    refine r_aload rfl rfl ?_
    refine r_aload rfl rfl ?_
    refine r_getR (c := 7) (k := 4) (v := 18) rfl rfl ⟨rfl, rfl⟩ rfl ?_
    refine r_iload rfl rfl ?_
    obtain ⟨z4, hz4, hr⟩ := gbnd hr
    refine r_invv (a := 2) [.ref 18, .int a1] rfl rfl rfl rfl rfl (Nat.le_of_ble_eq_true rfl) ⟨rfl, rfl⟩ ?_
    refine s_X7_fitIn hw rfl hz4 ?_
    show gW _ _ _ _ _ 12 [.ref 2, .int a1] [.int z4.1] (gKn n, gRf f g, z4.2.1, z4.2.2) _
    refine r_iret rfl ?_
    cases hr
    exact hQ
  · rw [if_neg c3] at hr
    refine r_const rfl (v := -1) (by decide) ?_
    refine r_iret rfl ?_
    cases hr
    exact hQ
def r_X7_harmony_20 (f : Nat) (g : Nat)   (I : Nat → Nat → Int32) (L : Nat → Nat → Int64) : Option gRs := some ((-1 : Int32), I, L)
set_option maxHeartbeats 4000000 in
set_option maxRecDepth 100000 in
theorem t_X7_harmony_20 {n f g d : Nat} {Q : gP} {z : gRs}  (hw : gfw f g)    {I : Nat → Nat → Int32} {L : Nat → Nat → Int64} (hr : r_X7_harmony_20 f g I L = some z) (hQ : Q (some (.int z.1)) (gKn n, gRf f g, z.2.1, z.2.2)) : gW gM (d + 3) 0 0 k_X7_harmony 20 [.null, .null, .null, .null, .null] [] (gKn n, gRf f g, I, L) Q := by
  have hfe := hw.f
  have hfd := hw.g
  unfold r_X7_harmony_20 at hr
  refine r_const rfl (v := -1) (by decide) ?_
  refine r_iret rfl ?_
  cases hr
  exact hQ
def r_X7_harmony (f g : Nat) (I : Nat → Nat → Int32) (L : Nat → Nat → Int64) (a1 : Int32) (a2 : Int32) (a3 : Int32) (a4 : Int32) : Option gRs := (if (f_X1_isBeast I L f a1) = 0 then (r_X7_harmony_20 f g I L) else (if (f_X1_isLane I L f a2) = 0 then (r_X7_harmony_20 f g I L) else (if (f_X1_isBeast I L f a3) = 0 then (r_X7_harmony_20 f g I L) else (if ¬ (f_X1_isLane I L f a4) = 0 then ((r_X1_sing I L f 18 a1 a2 53).bind (fun z19 => ((r_X1_sing z19.2.1 z19.2.2 f 18 a3 a4 55).bind (fun z20 => ((r_X6_harmonyWith z20.2.1 z20.2.2 53 55).bind (fun z21 => some (z21.1, z21.2.1, z21.2.2))))))) else (r_X7_harmony_20 f g I L)))))
set_option maxHeartbeats 4000000 in
set_option maxRecDepth 100000 in
theorem s_X7_harmony {n f g d : Nat} {Q : gP} {I : Nat → Nat → Int32} {L : Nat → Nat → Int64} {a1 : Int32} {a2 : Int32} {a3 : Int32} {a4 : Int32} {z : gRs} (hw : gfw f g)  (hr : r_X7_harmony f g I L a1 a2 a3 a4 = some z) (hQ : Q (some (.int z.1)) (gKn n, gRf f g, z.2.1, z.2.2)) : gR gM (d + 3) 73 [.ref 2, .int a1, .int a2, .int a3, .int a4] (gKn n, gRf f g, I, L) Q := by
  have hfe := hw.f
  have hfd := hw.g
  unfold r_X7_harmony at hr
  show gW gM (d + 3) 0 0 k_X7_harmony 0 [.ref 2, .int a1, .int a2, .int a3, .int a4] [] (gKn n, gRf f g, I, L) Q
  refine r_aload rfl rfl ?_
  refine r_getR (c := 7) (k := 2) (v := f) rfl rfl ⟨rfl, rfl⟩ rfl ?_
  refine r_iload rfl rfl ?_
  refine r_invv (a := f) [.int a1] rfl rfl (shFen hfe) rfl rfl (Nat.le_of_ble_eq_true rfl) ⟨rfl, rfl⟩ ?_
  refine s_X1_isBeast hfe ?_
  show gW _ _ _ _ _ 4 [.ref 2, .int a1, .int a2, .int a3, .int a4] [.int (f_X1_isBeast I L f a1)] (gKn n, gRf f g, I, L) _
  refine r_if_eq 20 rfl rfl (fun c15 => ?_) (fun c15 => ?_)
  · rw [if_pos c15] at hr
    refine gforget (ls := [.null, .null, .null, .null, .null]) ⟨(Or.inr (Or.inr ⟨rfl, _, rfl⟩)), ⟨(Or.inr (Or.inl ⟨rfl, _, rfl⟩)), ⟨(Or.inr (Or.inl ⟨rfl, _, rfl⟩)), ⟨(Or.inr (Or.inl ⟨rfl, _, rfl⟩)), ⟨(Or.inr (Or.inl ⟨rfl, _, rfl⟩)), trivial⟩⟩⟩⟩⟩ ?_
    exact t_X7_harmony_20 hw hr hQ
  · rw [if_neg c15] at hr
    refine r_aload rfl rfl ?_
    refine r_getR (c := 7) (k := 2) (v := f) rfl rfl ⟨rfl, rfl⟩ rfl ?_
    refine r_iload rfl rfl ?_
    refine r_invv (a := f) [.int a2] rfl rfl (shFen hfe) rfl rfl (Nat.le_of_ble_eq_true rfl) ⟨rfl, rfl⟩ ?_
    refine s_X1_isLane hfe ?_
    show gW _ _ _ _ _ 9 [.ref 2, .int a1, .int a2, .int a3, .int a4] [.int (f_X1_isLane I L f a2)] (gKn n, gRf f g, I, L) _
    refine r_if_eq 20 rfl rfl (fun c16 => ?_) (fun c16 => ?_)
    · rw [if_pos c16] at hr
      refine gforget (ls := [.null, .null, .null, .null, .null]) ⟨(Or.inr (Or.inr ⟨rfl, _, rfl⟩)), ⟨(Or.inr (Or.inl ⟨rfl, _, rfl⟩)), ⟨(Or.inr (Or.inl ⟨rfl, _, rfl⟩)), ⟨(Or.inr (Or.inl ⟨rfl, _, rfl⟩)), ⟨(Or.inr (Or.inl ⟨rfl, _, rfl⟩)), trivial⟩⟩⟩⟩⟩ ?_
      exact t_X7_harmony_20 hw hr hQ
    · rw [if_neg c16] at hr
      refine r_aload rfl rfl ?_
      refine r_getR (c := 7) (k := 2) (v := f) rfl rfl ⟨rfl, rfl⟩ rfl ?_
      refine r_iload rfl rfl ?_
      refine r_invv (a := f) [.int a3] rfl rfl (shFen hfe) rfl rfl (Nat.le_of_ble_eq_true rfl) ⟨rfl, rfl⟩ ?_
      refine s_X1_isBeast hfe ?_
      show gW _ _ _ _ _ 14 [.ref 2, .int a1, .int a2, .int a3, .int a4] [.int (f_X1_isBeast I L f a3)] (gKn n, gRf f g, I, L) _
      refine r_if_eq 20 rfl rfl (fun c17 => ?_) (fun c17 => ?_)
      · rw [if_pos c17] at hr
        refine gforget (ls := [.null, .null, .null, .null, .null]) ⟨(Or.inr (Or.inr ⟨rfl, _, rfl⟩)), ⟨(Or.inr (Or.inl ⟨rfl, _, rfl⟩)), ⟨(Or.inr (Or.inl ⟨rfl, _, rfl⟩)), ⟨(Or.inr (Or.inl ⟨rfl, _, rfl⟩)), ⟨(Or.inr (Or.inl ⟨rfl, _, rfl⟩)), trivial⟩⟩⟩⟩⟩ ?_
        exact t_X7_harmony_20 hw hr hQ
      · rw [if_neg c17] at hr
        refine r_aload rfl rfl ?_
        refine r_getR (c := 7) (k := 2) (v := f) rfl rfl ⟨rfl, rfl⟩ rfl ?_
        refine r_iload rfl rfl ?_
        refine r_invv (a := f) [.int a4] rfl rfl (shFen hfe) rfl rfl (Nat.le_of_ble_eq_true rfl) ⟨rfl, rfl⟩ ?_
        refine s_X1_isLane hfe ?_
        show gW _ _ _ _ _ 19 [.ref 2, .int a1, .int a2, .int a3, .int a4] [.int (f_X1_isLane I L f a4)] (gKn n, gRf f g, I, L) _
        refine r_if_ne 22 rfl rfl (fun c18 => ?_) (fun c18 => ?_)
        · rw [if_pos c18] at hr
          refine r_aload rfl rfl ?_
          refine r_getR (c := 7) (k := 2) (v := f) rfl rfl ⟨rfl, rfl⟩ rfl ?_
          refine r_aload rfl rfl ?_
          refine r_getR (c := 7) (k := 4) (v := 18) rfl rfl ⟨rfl, rfl⟩ rfl ?_
          refine r_iload rfl rfl ?_
          refine r_iload rfl rfl ?_
          refine r_aload rfl rfl ?_
          refine r_getR (c := 7) (k := 12) (v := 53) rfl rfl ⟨rfl, rfl⟩ rfl ?_
          obtain ⟨z19, hz19, hr⟩ := gbnd hr
          refine r_invv (a := f) [.ref 18, .int a1, .int a2, .ref 53] rfl rfl (shFen hfe) rfl rfl (Nat.le_of_ble_eq_true rfl) ⟨rfl, rfl⟩ ?_
          refine s_X1_sing hfe rfl rfl hz19 ?_
          show gW _ _ _ _ _ 31 [.ref 2, .int a1, .int a2, .int a3, .int a4] [] (gKn n, gRf f g, z19.2.1, z19.2.2) _
          refine r_aload rfl rfl ?_
          refine r_getR (c := 7) (k := 2) (v := f) rfl rfl ⟨rfl, rfl⟩ rfl ?_
          refine r_aload rfl rfl ?_
          refine r_getR (c := 7) (k := 4) (v := 18) rfl rfl ⟨rfl, rfl⟩ rfl ?_
          refine r_iload rfl rfl ?_
          refine r_iload rfl rfl ?_
          refine r_aload rfl rfl ?_
          refine r_getR (c := 7) (k := 13) (v := 55) rfl rfl ⟨rfl, rfl⟩ rfl ?_
          obtain ⟨z20, hz20, hr⟩ := gbnd hr
          refine r_invv (a := f) [.ref 18, .int a3, .int a4, .ref 55] rfl rfl (shFen hfe) rfl rfl (Nat.le_of_ble_eq_true rfl) ⟨rfl, rfl⟩ ?_
          refine s_X1_sing hfe rfl rfl hz20 ?_
          show gW _ _ _ _ _ 40 [.ref 2, .int a1, .int a2, .int a3, .int a4] [] (gKn n, gRf f g, z20.2.1, z20.2.2) _
          refine r_aload rfl rfl ?_
          refine r_getR (c := 7) (k := 12) (v := 53) rfl rfl ⟨rfl, rfl⟩ rfl ?_
          refine r_aload rfl rfl ?_
          refine r_getR (c := 7) (k := 13) (v := 55) rfl rfl ⟨rfl, rfl⟩ rfl ?_
          obtain ⟨z21, hz21, hr⟩ := gbnd hr
          refine r_invv (a := 53) [.ref 55] rfl rfl rfl rfl rfl (Nat.le_of_ble_eq_true rfl) ⟨rfl, rfl⟩ ?_
          refine s_X6_harmonyWith rfl rfl hz21 ?_
          show gW _ _ _ _ _ 45 [.ref 2, .int a1, .int a2, .int a3, .int a4] [.int z21.1] (gKn n, gRf f g, z21.2.1, z21.2.2) _
          refine r_iret rfl ?_
          cases hr
          exact hQ
        · rw [if_neg c18] at hr
          refine gforget (ls := [.null, .null, .null, .null, .null]) ⟨(Or.inr (Or.inr ⟨rfl, _, rfl⟩)), ⟨(Or.inr (Or.inl ⟨rfl, _, rfl⟩)), ⟨(Or.inr (Or.inl ⟨rfl, _, rfl⟩)), ⟨(Or.inr (Or.inl ⟨rfl, _, rfl⟩)), ⟨(Or.inr (Or.inl ⟨rfl, _, rfl⟩)), trivial⟩⟩⟩⟩⟩ ?_
          exact t_X7_harmony_20 hw hr hQ
def r_X7_best_33 (f : Nat) (g : Nat)  (s0 : Int32) (I : Nat → Nat → Int32) (L : Nat → Nat → Int64) : Option gRs := some (s0, I, L)
set_option maxHeartbeats 4000000 in
set_option maxRecDepth 100000 in
theorem t_X7_best_33 {n f g d : Nat} {Q : gP} {z : gRs}  (hw : gfw f g)   {s0 : Int32} {I : Nat → Nat → Int32} {L : Nat → Nat → Int64} (hr : r_X7_best_33 f g s0 I L = some z) (hQ : Q (some (.int z.1)) (gKn n, gRf f g, z.2.1, z.2.2)) : gW gM (d + 10) 0 0 k_X7_best 33 [.null, .null, .null, .null] [.int s0] (gKn n, gRf f g, I, L) Q := by
  have hfe := hw.f
  have hfd := hw.g
  unfold r_X7_best_33 at hr
  refine r_iret rfl ?_
  cases hr
  exact hQ
def r_X7_best_13 (f : Nat) (g : Nat)   (I : Nat → Nat → Int32) (L : Nat → Nat → Int64) : Option gRs := some ((-2 : Int32), I, L)
set_option maxHeartbeats 4000000 in
set_option maxRecDepth 100000 in
theorem t_X7_best_13 {n f g d : Nat} {Q : gP} {z : gRs}  (hw : gfw f g)    {I : Nat → Nat → Int32} {L : Nat → Nat → Int64} (hr : r_X7_best_13 f g I L = some z) (hQ : Q (some (.int z.1)) (gKn n, gRf f g, z.2.1, z.2.2)) : gW gM (d + 10) 0 0 k_X7_best 13 [.null, .null, .null, .null] [] (gKn n, gRf f g, I, L) Q := by
  have hfe := hw.f
  have hfd := hw.g
  unfold r_X7_best_13 at hr
  refine r_const rfl (v := -2) (by decide) ?_
  refine r_iret rfl ?_
  cases hr
  exact hQ
def r_X7_best (f g : Nat) (I : Nat → Nat → Int32) (L : Nat → Nat → Int64) (a1 : Int32) (a2 : Int32) (a3 : Int32) : Option gRs := (if ¬ (f_X1_isVerse I L f a1) = 0 then (if a2 < (nI 1) then (r_X7_best_13 f g I L) else (if a2 ≤ (nI 3) then ((r_X5_look I L f 18 a1 a2).bind (fun z14 => (if a3 = 0 then (r_X7_best_33 f g (z14.2.1 44 2) z14.2.1 z14.2.2) else (r_X7_best_33 f g (z14.2.1 44 3) z14.2.1 z14.2.2)))) else (r_X7_best_13 f g I L))) else some ((-1 : Int32), I, L))
set_option maxHeartbeats 4000000 in
set_option maxRecDepth 100000 in
theorem s_X7_best {n f g d : Nat} {Q : gP} {I : Nat → Nat → Int32} {L : Nat → Nat → Int64} {a1 : Int32} {a2 : Int32} {a3 : Int32} {z : gRs} (hw : gfw f g)  (hr : r_X7_best f g I L a1 a2 a3 = some z) (hQ : Q (some (.int z.1)) (gKn n, gRf f g, z.2.1, z.2.2)) : gR gM (d + 10) 74 [.ref 2, .int a1, .int a2, .int a3] (gKn n, gRf f g, I, L) Q := by
  have hfe := hw.f
  have hfd := hw.g
  unfold r_X7_best at hr
  show gW gM (d + 10) 0 0 k_X7_best 0 [.ref 2, .int a1, .int a2, .int a3] [] (gKn n, gRf f g, I, L) Q
  refine r_aload rfl rfl ?_
  refine r_getR (c := 7) (k := 2) (v := f) rfl rfl ⟨rfl, rfl⟩ rfl ?_
  refine r_iload rfl rfl ?_
  refine r_invv (a := f) [.int a1] rfl rfl (shFen hfe) rfl rfl (Nat.le_of_ble_eq_true rfl) ⟨rfl, rfl⟩ ?_
  refine s_X1_isVerse hfe ?_
  show gW _ _ _ _ _ 4 [.ref 2, .int a1, .int a2, .int a3] [.int (f_X1_isVerse I L f a1)] (gKn n, gRf f g, I, L) _
  refine r_if_ne 7 rfl rfl (fun c11 => ?_) (fun c11 => ?_)
  · rw [if_pos c11] at hr
    refine r_iload rfl rfl ?_
    refine r_const rfl (gcst 1) ?_
    refine r_icmp_lt 13 rfl rfl (fun c12 => ?_) (fun c12 => ?_)
    · rw [if_pos c12] at hr
      refine gforget (ls := [.null, .null, .null, .null]) ⟨(Or.inr (Or.inr ⟨rfl, _, rfl⟩)), ⟨(Or.inr (Or.inl ⟨rfl, _, rfl⟩)), ⟨(Or.inr (Or.inl ⟨rfl, _, rfl⟩)), ⟨(Or.inr (Or.inl ⟨rfl, _, rfl⟩)), trivial⟩⟩⟩⟩ ?_
      exact t_X7_best_13 hw hr hQ
    · rw [if_neg c12] at hr
      refine r_iload rfl rfl ?_
      refine r_const rfl (gcst 3) ?_
      refine r_icmp_le 15 rfl rfl (fun c13 => ?_) (fun c13 => ?_)
      · rw [if_pos c13] at hr
        refine r_aload rfl rfl ?_
        refine r_getR (c := 7) (k := 10) (v := 44) rfl rfl ⟨rfl, rfl⟩ rfl ?_
        refine r_aload rfl rfl ?_
        refine r_getR (c := 7) (k := 2) (v := f) rfl rfl ⟨rfl, rfl⟩ rfl ?_
        refine r_aload rfl rfl ?_
        refine r_getR (c := 7) (k := 4) (v := 18) rfl rfl ⟨rfl, rfl⟩ rfl ?_
        refine r_iload rfl rfl ?_
        refine r_iload rfl rfl ?_
        obtain ⟨z14, hz14, hr⟩ := gbnd hr
        refine r_invv (a := 44) [.ref f, .ref 18, .int a1, .int a2] rfl rfl rfl rfl rfl (Nat.le_of_ble_eq_true rfl) ⟨rfl, rfl⟩ ?_
        refine s_X5_look hfe rfl hz14 ?_
        show gW _ _ _ _ _ 24 [.ref 2, .int a1, .int a2, .int a3] [] (gKn n, gRf f g, z14.2.1, z14.2.2) _
        refine r_iload rfl rfl ?_
        refine r_if_eq 30 rfl rfl (fun c15 => ?_) (fun c15 => ?_)
        · rw [if_pos c15] at hr
          refine r_aload rfl rfl ?_
          refine r_getR (c := 7) (k := 10) (v := 44) rfl rfl ⟨rfl, rfl⟩ rfl ?_
          refine r_getI (c := 5) (k := 2) rfl rfl ⟨rfl, rfl⟩ ?_
          refine gforget (ls := [.null, .null, .null, .null]) ⟨(Or.inr (Or.inr ⟨rfl, _, rfl⟩)), ⟨(Or.inr (Or.inl ⟨rfl, _, rfl⟩)), ⟨(Or.inr (Or.inl ⟨rfl, _, rfl⟩)), ⟨(Or.inr (Or.inl ⟨rfl, _, rfl⟩)), trivial⟩⟩⟩⟩ ?_
          exact t_X7_best_33 hw hr hQ
        · rw [if_neg c15] at hr
          refine r_aload rfl rfl ?_
          refine r_getR (c := 7) (k := 10) (v := 44) rfl rfl ⟨rfl, rfl⟩ rfl ?_
          refine r_getI (c := 5) (k := 3) rfl rfl ⟨rfl, rfl⟩ ?_
          refine r_goto 33 rfl rfl ?_
          refine gforget (ls := [.null, .null, .null, .null]) ⟨(Or.inr (Or.inr ⟨rfl, _, rfl⟩)), ⟨(Or.inr (Or.inl ⟨rfl, _, rfl⟩)), ⟨(Or.inr (Or.inl ⟨rfl, _, rfl⟩)), ⟨(Or.inr (Or.inl ⟨rfl, _, rfl⟩)), trivial⟩⟩⟩⟩ ?_
          exact t_X7_best_33 hw hr hQ
      · rw [if_neg c13] at hr
        refine gforget (ls := [.null, .null, .null, .null]) ⟨(Or.inr (Or.inr ⟨rfl, _, rfl⟩)), ⟨(Or.inr (Or.inl ⟨rfl, _, rfl⟩)), ⟨(Or.inr (Or.inl ⟨rfl, _, rfl⟩)), ⟨(Or.inr (Or.inl ⟨rfl, _, rfl⟩)), trivial⟩⟩⟩⟩ ?_
        exact t_X7_best_13 hw hr hQ
  · rw [if_neg c11] at hr
    refine r_const rfl (v := -1) (by decide) ?_
    refine r_iret rfl ?_
    cases hr
    exact hQ
def r_X7_fewest_18 (f : Nat) (g : Nat)  : Nat → Int32 → Int32 → (Nat → Nat → Int32) → (Nat → Nat → Int64) → Option gRs
  | 0, _, _, _, _ => none
  | m + 1, v1, v2, I, L => (if (nI 3) < v2 then some ((-9 : Int32), I, L) else ((r_X5_look I L f 18 v1 v2).bind (fun z8 => (if ¬ (z8.2.1 44 2) = (nI 4) then (r_X7_fewest_18 f g m v1 (v2 + (nI 1)) z8.2.1 z8.2.2) else some (v2, z8.2.1, z8.2.2)))))
set_option maxHeartbeats 4000000 in
set_option maxRecDepth 100000 in
theorem t_X7_fewest_18 {n f g d : Nat} {Q : gP} {z : gRs}  (hw : gfw f g)   : ∀ {m : Nat} {v1 : Int32} {v2 : Int32} {I : Nat → Nat → Int32} {L : Nat → Nat → Int64}, r_X7_fewest_18 f g m v1 v2 I L = some z → Q (some (.int z.1)) (gKn n, gRf f g, z.2.1, z.2.2) → gW gM (d + 10) 0 0 k_X7_fewest 18 [.ref 2, .int v1, .int v2] [] (gKn n, gRf f g, I, L) Q := by
  intro m
  have hfe := hw.f
  have hfd := hw.g
  induction m with
  | zero =>
    intro v1 v2 I L hr _
    cases hr
  | succ m ih =>
    intro v1 v2 I L hr hQ
    have hK18 : ∀ v1 v2 I L, r_X7_fewest_18 f g m v1 v2 I L = some z → gW gM (d + 10) 0 0 k_X7_fewest 18 [.ref 2, .int v1, .int v2] [] (gKn n, gRf f g, I, L) Q := fun v1 v2 I L hr => ih hr hQ
    unfold r_X7_fewest_18 at hr
    refine r_iload rfl rfl ?_
    refine r_const rfl (gcst 3) ?_
    refine r_icmp_gt 39 rfl rfl (fun c7 => ?_) (fun c7 => ?_)
    · rw [if_pos c7] at hr
      refine r_const rfl (v := -9) (by decide) ?_
      refine r_iret rfl ?_
      cases hr
      exact hQ
    · rw [if_neg c7] at hr
      refine r_aload rfl rfl ?_
      refine r_getR (c := 7) (k := 10) (v := 44) rfl rfl ⟨rfl, rfl⟩ rfl ?_
      refine r_aload rfl rfl ?_
      refine r_getR (c := 7) (k := 2) (v := f) rfl rfl ⟨rfl, rfl⟩ rfl ?_
      refine r_aload rfl rfl ?_
      refine r_getR (c := 7) (k := 4) (v := 18) rfl rfl ⟨rfl, rfl⟩ rfl ?_
      refine r_iload rfl rfl ?_
      refine r_iload rfl rfl ?_
      obtain ⟨z8, hz8, hr⟩ := gbnd hr
      refine r_invv (a := 44) [.ref f, .ref 18, .int v1, .int v2] rfl rfl rfl rfl rfl (Nat.le_of_ble_eq_true rfl) ⟨rfl, rfl⟩ ?_
      refine s_X5_look hfe rfl hz8 ?_
      show gW _ _ _ _ _ 30 [.ref 2, .int v1, .int v2] [] (gKn n, gRf f g, z8.2.1, z8.2.2) _
      refine r_aload rfl rfl ?_
      refine r_getR (c := 7) (k := 10) (v := 44) rfl rfl ⟨rfl, rfl⟩ rfl ?_
      refine r_getI (c := 5) (k := 2) rfl rfl ⟨rfl, rfl⟩ ?_
      refine r_const rfl (gcst 4) ?_
      refine r_icmp_ne 37 rfl rfl (fun c9 => ?_) (fun c9 => ?_)
      · rw [if_pos c9] at hr
        refine r_iinc (y := (v2 + (nI 1))) [.ref 2, .int v1, .int (v2 + (nI 1))] rfl rfl rfl (ginc _ 1) rfl ?_
        refine r_goto 18 rfl rfl ?_
        exact hK18 _ _ _ _ hr
      · rw [if_neg c9] at hr
        refine r_iload rfl rfl ?_
        refine r_iret rfl ?_
        cases hr
        exact hQ
def r_X7_fewest (f g : Nat) (I : Nat → Nat → Int32) (L : Nat → Nat → Int64) (a1 : Int32) : Option gRs := (if ¬ (f_X1_isVerse I L f a1) = 0 then ((r_X7_fitIn f g I L 18 a1).bind (fun z11 => (if ¬ z11.1 = (nI 4) then (r_X7_fewest_18 f g 100 a1 (nI 1) z11.2.1 z11.2.2) else some ((nI 0), z11.2.1, z11.2.2)))) else some ((-1 : Int32), I, L))
set_option maxHeartbeats 4000000 in
set_option maxRecDepth 100000 in
theorem s_X7_fewest {n f g d : Nat} {Q : gP} {I : Nat → Nat → Int32} {L : Nat → Nat → Int64} {a1 : Int32} {z : gRs} (hw : gfw f g)  (hr : r_X7_fewest f g I L a1 = some z) (hQ : Q (some (.int z.1)) (gKn n, gRf f g, z.2.1, z.2.2)) : gR gM (d + 10) 75 [.ref 2, .int a1] (gKn n, gRf f g, I, L) Q := by
  have hfe := hw.f
  have hfd := hw.g
  unfold r_X7_fewest at hr
  show gW gM (d + 10) 0 0 k_X7_fewest 0 [.ref 2, .int a1, .null] [] (gKn n, gRf f g, I, L) Q
  refine r_aload rfl rfl ?_
  refine r_getR (c := 7) (k := 2) (v := f) rfl rfl ⟨rfl, rfl⟩ rfl ?_
  refine r_iload rfl rfl ?_
  refine r_invv (a := f) [.int a1] rfl rfl (shFen hfe) rfl rfl (Nat.le_of_ble_eq_true rfl) ⟨rfl, rfl⟩ ?_
  refine s_X1_isVerse hfe ?_
  show gW _ _ _ _ _ 4 [.ref 2, .int a1, .null] [.int (f_X1_isVerse I L f a1)] (gKn n, gRf f g, I, L) _
  refine r_if_ne 7 rfl rfl (fun c10 => ?_) (fun c10 => ?_)
  · rw [if_pos c10] at hr
    refine r_aload rfl rfl ?_
    refine r_aload rfl rfl ?_
    refine r_getR (c := 7) (k := 4) (v := 18) rfl rfl ⟨rfl, rfl⟩ rfl ?_
    refine r_iload rfl rfl ?_
    obtain ⟨z11, hz11, hr⟩ := gbnd hr
    refine r_invv (a := 2) [.ref 18, .int a1] rfl rfl rfl rfl rfl (Nat.le_of_ble_eq_true rfl) ⟨rfl, rfl⟩ ?_
    refine s_X7_fitIn hw rfl hz11 ?_
    show gW _ _ _ _ _ 12 [.ref 2, .int a1, .null] [.int z11.1] (gKn n, gRf f g, z11.2.1, z11.2.2) _
    refine r_const rfl (gcst 4) ?_
    refine r_icmp_ne 16 rfl rfl (fun c12 => ?_) (fun c12 => ?_)
    · rw [if_pos c12] at hr
      refine r_const rfl (gcst 1) ?_
      refine r_istore [.ref 2, .int a1, .int (nI 1)] rfl rfl (Nat.le_of_ble_eq_true rfl) rfl ?_
      exact t_X7_fewest_18 hw hr hQ
    · rw [if_neg c12] at hr
      refine r_const rfl (gcst 0) ?_
      refine r_iret rfl ?_
      cases hr
      exact hQ
  · rw [if_neg c10] at hr
    refine r_const rfl (v := -1) (by decide) ?_
    refine r_iret rfl ?_
    cases hr
    exact hQ
def r_X7_has_49 (f : Nat) (g : Nat) (K21 : Int32 → Int32 → Int32 → Int32 → (Nat → Nat → Int32) → (Nat → Nat → Int64) → Option gRs) (v2 : Int32) (v3 : Int32) (v4 : Int32) (v5 : Int32) (I : Nat → Nat → Int32) (L : Nat → Nat → Int64) : Option gRs := (K21 v2 v3 v4 (v5 + (nI 1)) I L)
set_option maxHeartbeats 4000000 in
set_option maxRecDepth 100000 in
theorem t_X7_has_49 {n f g d : Nat} {Q : gP} {z : gRs}  (hw : gfw f g)  {K21 : Int32 → Int32 → Int32 → Int32 → (Nat → Nat → Int32) → (Nat → Nat → Int64) → Option gRs} (hK21 : ∀ v2 v3 v4 v5 I L, K21 v2 v3 v4 v5 I L = some z → gW gM (d + 3) 0 0 k_X7_has 21 [.ref 2, .null, .int v2, .int v3, .int v4, .int v5] [] (gKn n, gRf f g, I, L) Q) {v2 : Int32} {v3 : Int32} {v4 : Int32} {v5 : Int32} {I : Nat → Nat → Int32} {L : Nat → Nat → Int64} (hr : r_X7_has_49 f g K21 v2 v3 v4 v5 I L = some z) (hQ : Q (some (.int z.1)) (gKn n, gRf f g, z.2.1, z.2.2)) : gW gM (d + 3) 0 0 k_X7_has 49 [.ref 2, .null, .int v2, .int v3, .int v4, .int v5] [] (gKn n, gRf f g, I, L) Q := by
  have hfe := hw.f
  have hfd := hw.g
  unfold r_X7_has_49 at hr
  refine r_iinc (y := (v5 + (nI 1))) [.ref 2, .null, .int v2, .int v3, .int v4, .int (v5 + (nI 1))] rfl rfl rfl (ginc _ 1) rfl ?_
  refine r_goto 21 rfl rfl ?_
  exact hK21 _ _ _ _ _ _ hr
def r_X7_has_21 (f : Nat) (g : Nat)  : Nat → Int32 → Int32 → Int32 → Int32 → (Nat → Nat → Int32) → (Nat → Nat → Int64) → Option gRs
  | 0, _, _, _, _, _, _ => none
  | m + 1, v2, v3, v4, v5, I, L => (if (I f 2) ≤ v5 then some (v4, I, L) else ((r_X1_sing I L f 18 v5 v2 53).bind (fun z19 => ((r_X6_toneBits z19.2.1 z19.2.2 53).bind (fun z20 => (if ¬ (v3 &&& (z20.1 ^^^ (-1 : Int32))) = 0 then (r_X7_has_49 f g (r_X7_has_21 f g m) v2 v3 v4 v5 z20.2.1 z20.2.2) else (r_X7_has_49 f g (r_X7_has_21 f g m) v2 v3 (v4 ||| (gshl (nI 1) v5)) v5 z20.2.1 z20.2.2)))))))
set_option maxHeartbeats 4000000 in
set_option maxRecDepth 100000 in
theorem t_X7_has_21 {n f g d : Nat} {Q : gP} {z : gRs}  (hw : gfw f g)   : ∀ {m : Nat} {v2 : Int32} {v3 : Int32} {v4 : Int32} {v5 : Int32} {I : Nat → Nat → Int32} {L : Nat → Nat → Int64}, r_X7_has_21 f g m v2 v3 v4 v5 I L = some z → Q (some (.int z.1)) (gKn n, gRf f g, z.2.1, z.2.2) → gW gM (d + 3) 0 0 k_X7_has 21 [.ref 2, .null, .int v2, .int v3, .int v4, .int v5] [] (gKn n, gRf f g, I, L) Q := by
  intro m
  have hfe := hw.f
  have hfd := hw.g
  induction m with
  | zero =>
    intro v2 v3 v4 v5 I L hr _
    cases hr
  | succ m ih =>
    intro v2 v3 v4 v5 I L hr hQ
    have hK21 : ∀ v2 v3 v4 v5 I L, r_X7_has_21 f g m v2 v3 v4 v5 I L = some z → gW gM (d + 3) 0 0 k_X7_has 21 [.ref 2, .null, .int v2, .int v3, .int v4, .int v5] [] (gKn n, gRf f g, I, L) Q := fun v2 v3 v4 v5 I L hr => ih hr hQ
    unfold r_X7_has_21 at hr
    refine r_iload rfl rfl ?_
    refine r_aload rfl rfl ?_
    refine r_getR (c := 7) (k := 2) (v := f) rfl rfl ⟨rfl, rfl⟩ rfl ?_
    refine r_getI (c := 1) (k := 2) rfl (shFen hfe) ⟨rfl, rfl⟩ ?_
    refine r_icmp_ge 51 rfl rfl (fun c18 => ?_) (fun c18 => ?_)
    · rw [if_pos c18] at hr
      refine r_iload rfl rfl ?_
      refine r_iret rfl ?_
      cases hr
      exact hQ
    · rw [if_neg c18] at hr
      refine r_aload rfl rfl ?_
      refine r_getR (c := 7) (k := 2) (v := f) rfl rfl ⟨rfl, rfl⟩ rfl ?_
      refine r_aload rfl rfl ?_
      refine r_getR (c := 7) (k := 4) (v := 18) rfl rfl ⟨rfl, rfl⟩ rfl ?_
      refine r_iload rfl rfl ?_
      refine r_iload rfl rfl ?_
      refine r_aload rfl rfl ?_
      refine r_getR (c := 7) (k := 12) (v := 53) rfl rfl ⟨rfl, rfl⟩ rfl ?_
      obtain ⟨z19, hz19, hr⟩ := gbnd hr
      refine r_invv (a := f) [.ref 18, .int v5, .int v2, .ref 53] rfl rfl (shFen hfe) rfl rfl (Nat.le_of_ble_eq_true rfl) ⟨rfl, rfl⟩ ?_
      refine s_X1_sing hfe rfl rfl hz19 ?_
      show gW _ _ _ _ _ 35 [.ref 2, .null, .int v2, .int v3, .int v4, .int v5] [] (gKn n, gRf f g, z19.2.1, z19.2.2) _
      refine r_iload rfl rfl ?_
      refine r_aload rfl rfl ?_
      refine r_getR (c := 7) (k := 12) (v := 53) rfl rfl ⟨rfl, rfl⟩ rfl ?_
      obtain ⟨z20, hz20, hr⟩ := gbnd hr
      refine r_invv (a := 53) [] rfl rfl rfl rfl rfl (Nat.le_of_ble_eq_true rfl) ⟨rfl, rfl⟩ ?_
      refine s_X6_toneBits rfl hz20 ?_
      show gW _ _ _ _ _ 39 [.ref 2, .null, .int v2, .int v3, .int v4, .int v5] [.int z20.1, .int v3] (gKn n, gRf f g, z20.2.1, z20.2.2) _
      refine r_const rfl (v := -1) (by decide) ?_
      refine r_ixor rfl ?_
      refine r_iand rfl ?_
      refine r_if_ne 49 rfl rfl (fun c21 => ?_) (fun c21 => ?_)
      · rw [if_pos c21] at hr
        exact t_X7_has_49 hw hK21 hr hQ
      · rw [if_neg c21] at hr
        refine r_iload rfl rfl ?_
        refine r_const rfl (gcst 1) ?_
        refine r_iload rfl rfl ?_
        refine r_ishl rfl ?_
        refine r_ior rfl ?_
        refine r_istore [.ref 2, .null, .int v2, .int v3, .int (v4 ||| (gshl (nI 1) v5)), .int v5] rfl rfl (Nat.le_of_ble_eq_true rfl) rfl ?_
        exact t_X7_has_49 hw hK21 hr hQ
def r_X7_has_10 (f : Nat) (g : Nat)   (I : Nat → Nat → Int32) (L : Nat → Nat → Int64) : Option gRs := some ((-1 : Int32), I, L)
set_option maxHeartbeats 4000000 in
set_option maxRecDepth 100000 in
theorem t_X7_has_10 {n f g d : Nat} {Q : gP} {z : gRs}  (hw : gfw f g)    {I : Nat → Nat → Int32} {L : Nat → Nat → Int64} (hr : r_X7_has_10 f g I L = some z) (hQ : Q (some (.int z.1)) (gKn n, gRf f g, z.2.1, z.2.2)) : gW gM (d + 3) 0 0 k_X7_has 10 [.null, .null, .null, .null, .null, .null] [] (gKn n, gRf f g, I, L) Q := by
  have hfe := hw.f
  have hfd := hw.g
  unfold r_X7_has_10 at hr
  refine r_const rfl (v := -1) (by decide) ?_
  refine r_iret rfl ?_
  cases hr
  exact hQ
def r_X7_has (f g : Nat) (I : Nat → Nat → Int32) (L : Nat → Nat → Int64) (a1 : Int32) (a2 : Int32) : Option gRs := (if (f_X1_isVerse I L f a1) = 0 then (r_X7_has_10 f g I L) else (if ¬ (f_X1_isLane I L f a2) = 0 then ((r_X1_verseBits I L f a1).bind (fun z24 => (r_X7_has_21 f g 100 a2 z24.1 (nI 0) (nI 0) z24.2.1 z24.2.2))) else (r_X7_has_10 f g I L)))
set_option maxHeartbeats 4000000 in
set_option maxRecDepth 100000 in
theorem s_X7_has {n f g d : Nat} {Q : gP} {I : Nat → Nat → Int32} {L : Nat → Nat → Int64} {a1 : Int32} {a2 : Int32} {z : gRs} (hw : gfw f g)  (hr : r_X7_has f g I L a1 a2 = some z) (hQ : Q (some (.int z.1)) (gKn n, gRf f g, z.2.1, z.2.2)) : gR gM (d + 3) 76 [.ref 2, .int a1, .int a2] (gKn n, gRf f g, I, L) Q := by
  have hfe := hw.f
  have hfd := hw.g
  unfold r_X7_has at hr
  show gW gM (d + 3) 0 0 k_X7_has 0 [.ref 2, .int a1, .int a2, .null, .null, .null] [] (gKn n, gRf f g, I, L) Q
  refine r_aload rfl rfl ?_
  refine r_getR (c := 7) (k := 2) (v := f) rfl rfl ⟨rfl, rfl⟩ rfl ?_
  refine r_iload rfl rfl ?_
  refine r_invv (a := f) [.int a1] rfl rfl (shFen hfe) rfl rfl (Nat.le_of_ble_eq_true rfl) ⟨rfl, rfl⟩ ?_
  refine s_X1_isVerse hfe ?_
  show gW _ _ _ _ _ 4 [.ref 2, .int a1, .int a2, .null, .null, .null] [.int (f_X1_isVerse I L f a1)] (gKn n, gRf f g, I, L) _
  refine r_if_eq 10 rfl rfl (fun c22 => ?_) (fun c22 => ?_)
  · rw [if_pos c22] at hr
    refine gforget (ls := [.null, .null, .null, .null, .null, .null]) ⟨(Or.inr (Or.inr ⟨rfl, _, rfl⟩)), ⟨(Or.inr (Or.inl ⟨rfl, _, rfl⟩)), ⟨(Or.inr (Or.inl ⟨rfl, _, rfl⟩)), ⟨(Or.inl rfl), ⟨(Or.inl rfl), ⟨(Or.inl rfl), trivial⟩⟩⟩⟩⟩⟩ ?_
    exact t_X7_has_10 hw hr hQ
  · rw [if_neg c22] at hr
    refine r_aload rfl rfl ?_
    refine r_getR (c := 7) (k := 2) (v := f) rfl rfl ⟨rfl, rfl⟩ rfl ?_
    refine r_iload rfl rfl ?_
    refine r_invv (a := f) [.int a2] rfl rfl (shFen hfe) rfl rfl (Nat.le_of_ble_eq_true rfl) ⟨rfl, rfl⟩ ?_
    refine s_X1_isLane hfe ?_
    show gW _ _ _ _ _ 9 [.ref 2, .int a1, .int a2, .null, .null, .null] [.int (f_X1_isLane I L f a2)] (gKn n, gRf f g, I, L) _
    refine r_if_ne 12 rfl rfl (fun c23 => ?_) (fun c23 => ?_)
    · rw [if_pos c23] at hr
      refine r_aload rfl rfl ?_
      refine r_getR (c := 7) (k := 2) (v := f) rfl rfl ⟨rfl, rfl⟩ rfl ?_
      refine r_iload rfl rfl ?_
      obtain ⟨z24, hz24, hr⟩ := gbnd hr
      refine r_invv (a := f) [.int a1] rfl rfl (shFen hfe) rfl rfl (Nat.le_of_ble_eq_true rfl) ⟨rfl, rfl⟩ ?_
      refine s_X1_verseBits hfe hz24 ?_
      show gW _ _ _ _ _ 16 [.ref 2, .int a1, .int a2, .null, .null, .null] [.int z24.1] (gKn n, gRf f g, z24.2.1, z24.2.2) _
      refine r_istore [.ref 2, .int a1, .int a2, .int z24.1, .null, .null] rfl rfl (Nat.le_of_ble_eq_true rfl) rfl ?_
      refine r_const rfl (gcst 0) ?_
      refine r_istore [.ref 2, .int a1, .int a2, .int z24.1, .int (nI 0), .null] rfl rfl (Nat.le_of_ble_eq_true rfl) rfl ?_
      refine r_const rfl (gcst 0) ?_
      refine r_istore [.ref 2, .int a1, .int a2, .int z24.1, .int (nI 0), .int (nI 0)] rfl rfl (Nat.le_of_ble_eq_true rfl) rfl ?_
      refine gforget (ls := [.ref 2, .null, .int a2, .int z24.1, .int (nI 0), .int (nI 0)]) ⟨(Or.inl rfl), ⟨(Or.inr (Or.inl ⟨rfl, _, rfl⟩)), ⟨(Or.inl rfl), ⟨(Or.inl rfl), ⟨(Or.inl rfl), ⟨(Or.inl rfl), trivial⟩⟩⟩⟩⟩⟩ ?_
      exact t_X7_has_21 hw hr hQ
    · rw [if_neg c23] at hr
      refine gforget (ls := [.null, .null, .null, .null, .null, .null]) ⟨(Or.inr (Or.inr ⟨rfl, _, rfl⟩)), ⟨(Or.inr (Or.inl ⟨rfl, _, rfl⟩)), ⟨(Or.inr (Or.inl ⟨rfl, _, rfl⟩)), ⟨(Or.inl rfl), ⟨(Or.inl rfl), ⟨(Or.inl rfl), trivial⟩⟩⟩⟩⟩⟩ ?_
      exact t_X7_has_10 hw hr hQ
def r_X7_sounds_2 (f : Nat) (g : Nat)  : Nat → Int32 → Int32 → (Nat → Nat → Int32) → (Nat → Nat → Int64) → Option gRs
  | 0, _, _, _, _ => none
  | m + 1, v1, v2, I, L => (if (I f 2) ≤ v2 then some ((nI 0), I, L) else (if gvp v2 5 = true then (if gvp v2 5 = true then ((r_X1_toneBy I L f 18 v1 (I (f + 4) (gx v2)) (I (f + 5) (gx v2))).bind (fun z9 => (if z9.1 = (nI 12) then (r_X7_sounds_2 f g m v1 (v2 + (nI 1)) z9.2.1 z9.2.2) else some ((nI 1), z9.2.1, z9.2.2)))) else none) else none))
set_option maxHeartbeats 4000000 in
set_option maxRecDepth 100000 in
theorem t_X7_sounds_2 {n f g d : Nat} {Q : gP} {z : gRs}  (hw : gfw f g)   : ∀ {m : Nat} {v1 : Int32} {v2 : Int32} {I : Nat → Nat → Int32} {L : Nat → Nat → Int64}, r_X7_sounds_2 f g m v1 v2 I L = some z → Q (some (.int z.1)) (gKn n, gRf f g, z.2.1, z.2.2) → gW gM (d + 2) 0 0 k_X7_sounds 2 [.ref 2, .int v1, .int v2] [] (gKn n, gRf f g, I, L) Q := by
  intro m
  have hfe := hw.f
  have hfd := hw.g
  induction m with
  | zero =>
    intro v1 v2 I L hr _
    cases hr
  | succ m ih =>
    intro v1 v2 I L hr hQ
    have hK2 : ∀ v1 v2 I L, r_X7_sounds_2 f g m v1 v2 I L = some z → gW gM (d + 2) 0 0 k_X7_sounds 2 [.ref 2, .int v1, .int v2] [] (gKn n, gRf f g, I, L) Q := fun v1 v2 I L hr => ih hr hQ
    unfold r_X7_sounds_2 at hr
    refine r_iload rfl rfl ?_
    refine r_aload rfl rfl ?_
    refine r_getR (c := 7) (k := 2) (v := f) rfl rfl ⟨rfl, rfl⟩ rfl ?_
    refine r_getI (c := 1) (k := 2) rfl (shFen hfe) ⟨rfl, rfl⟩ ?_
    refine r_icmp_ge 29 rfl rfl (fun c6 => ?_) (fun c6 => ?_)
    · rw [if_pos c6] at hr
      refine r_const rfl (gcst 0) ?_
      refine r_zret rfl (Or.inl rfl) ?_
      cases hr
      exact hQ
    · rw [if_neg c6] at hr
      refine r_aload rfl rfl ?_
      refine r_getR (c := 7) (k := 2) (v := f) rfl rfl ⟨rfl, rfl⟩ rfl ?_
      refine r_aload rfl rfl ?_
      refine r_getR (c := 7) (k := 4) (v := 18) rfl rfl ⟨rfl, rfl⟩ rfl ?_
      refine r_iload rfl rfl ?_
      refine r_aload rfl rfl ?_
      refine r_getR (c := 7) (k := 2) (v := f) rfl rfl ⟨rfl, rfl⟩ rfl ?_
      refine r_getR (c := 1) (k := 8) (v := (f + 4)) rfl (shFen hfe) ⟨rfl, rfl⟩ (rfFen8 hfe) ?_
      refine r_iload rfl rfl ?_
      obtain ⟨b7, hr⟩ := gopt hr
      refine r_iaload (n := 5) rfl (shFen8 hfe) (gvp_in b7) ?_
      refine r_aload rfl rfl ?_
      refine r_getR (c := 7) (k := 2) (v := f) rfl rfl ⟨rfl, rfl⟩ rfl ?_
      refine r_getR (c := 1) (k := 9) (v := (f + 5)) rfl (shFen hfe) ⟨rfl, rfl⟩ (rfFen9 hfe) ?_
      refine r_iload rfl rfl ?_
      obtain ⟨b8, hr⟩ := gopt hr
      refine r_iaload (n := 5) rfl (shFen9 hfe) (gvp_in b8) ?_
      obtain ⟨z9, hz9, hr⟩ := gbnd hr
      refine r_invv (a := f) [.ref 18, .int v1, .int (I (f + 4) (gx v2)), .int (I (f + 5) (gx v2))] rfl rfl (shFen hfe) rfl rfl (Nat.le_of_ble_eq_true rfl) ⟨rfl, rfl⟩ ?_
      refine s_X1_toneBy hfe rfl hz9 ?_
      show gW _ _ _ _ _ 23 [.ref 2, .int v1, .int v2] [.int z9.1] (gKn n, gRf f g, z9.2.1, z9.2.2) _
      refine r_const rfl (gcst 12) ?_
      refine r_icmp_eq 27 rfl rfl (fun c10 => ?_) (fun c10 => ?_)
      · rw [if_pos c10] at hr
        refine r_iinc (y := (v2 + (nI 1))) [.ref 2, .int v1, .int (v2 + (nI 1))] rfl rfl rfl (ginc _ 1) rfl ?_
        refine r_goto 2 rfl rfl ?_
        exact hK2 _ _ _ _ hr
      · rw [if_neg c10] at hr
        refine r_const rfl (gcst 1) ?_
        refine r_zret rfl (Or.inr rfl) ?_
        cases hr
        exact hQ
def r_X7_sounds (f g : Nat) (I : Nat → Nat → Int32) (L : Nat → Nat → Int64) (a1 : Int32) : Option gRs := (r_X7_sounds_2 f g 100 a1 (nI 0) I L)
set_option maxHeartbeats 4000000 in
set_option maxRecDepth 100000 in
theorem s_X7_sounds {n f g d : Nat} {Q : gP} {I : Nat → Nat → Int32} {L : Nat → Nat → Int64} {a1 : Int32} {z : gRs} (hw : gfw f g)  (hr : r_X7_sounds f g I L a1 = some z) (hQ : Q (some (.int z.1)) (gKn n, gRf f g, z.2.1, z.2.2)) : gR gM (d + 2) 93 [.ref 2, .int a1] (gKn n, gRf f g, I, L) Q := by
  have hfe := hw.f
  have hfd := hw.g
  unfold r_X7_sounds at hr
  show gW gM (d + 2) 0 0 k_X7_sounds 0 [.ref 2, .int a1, .null] [] (gKn n, gRf f g, I, L) Q
  refine r_const rfl (gcst 0) ?_
  refine r_istore [.ref 2, .int a1, .int (nI 0)] rfl rfl (Nat.le_of_ble_eq_true rfl) rfl ?_
  exact t_X7_sounds_2 hw hr hQ
def r_X7_silence_35 (f : Nat) (g : Nat) (K11 : Int32 → Int32 → Int32 → (Nat → Nat → Int32) → (Nat → Nat → Int64) → Option gRs) (v1 : Int32) (v2 : Int32) (v3 : Int32) (I : Nat → Nat → Int32) (L : Nat → Nat → Int64) : Option gRs := (K11 v1 v2 (v3 + (nI 1)) I L)
set_option maxHeartbeats 4000000 in
set_option maxRecDepth 100000 in
theorem t_X7_silence_35 {n f g d : Nat} {Q : gP} {z : gRs}  (hw : gfw f g)  {K11 : Int32 → Int32 → Int32 → (Nat → Nat → Int32) → (Nat → Nat → Int64) → Option gRs} (hK11 : ∀ v1 v2 v3 I L, K11 v1 v2 v3 I L = some z → gW gM (d + 3) 0 0 k_X7_silence 11 [.ref 2, .int v1, .int v2, .int v3] [] (gKn n, gRf f g, I, L) Q) {v1 : Int32} {v2 : Int32} {v3 : Int32} {I : Nat → Nat → Int32} {L : Nat → Nat → Int64} (hr : r_X7_silence_35 f g K11 v1 v2 v3 I L = some z) (hQ : Q (some (.int z.1)) (gKn n, gRf f g, z.2.1, z.2.2)) : gW gM (d + 3) 0 0 k_X7_silence 35 [.ref 2, .int v1, .int v2, .int v3] [] (gKn n, gRf f g, I, L) Q := by
  have hfe := hw.f
  have hfd := hw.g
  unfold r_X7_silence_35 at hr
  refine r_iinc (y := (v3 + (nI 1))) [.ref 2, .int v1, .int v2, .int (v3 + (nI 1))] rfl rfl rfl (ginc _ 1) rfl ?_
  refine r_goto 11 rfl rfl ?_
  exact hK11 _ _ _ _ _ hr
def r_X7_silence_11 (f : Nat) (g : Nat)  : Nat → Int32 → Int32 → Int32 → (Nat → Nat → Int32) → (Nat → Nat → Int64) → Option gRs
  | 0, _, _, _, _, _ => none
  | m + 1, v1, v2, v3, I, L => (if (I f 0) ≤ v3 then some (v2, I, L) else ((r_X1_lanesWith I L f v3).bind (fun z14 => (if ((gshr z14.1 v1) &&& (nI 1)) = 0 then (r_X7_silence_35 f g (r_X7_silence_11 f g m) v1 v2 v3 z14.2.1 z14.2.2) else ((r_X7_sounds f g z14.2.1 z14.2.2 v3).bind (fun z16 => (if z16.1 = 0 then (r_X7_silence_35 f g (r_X7_silence_11 f g m) v1 v2 v3 z16.2.1 z16.2.2) else (r_X7_silence_35 f g (r_X7_silence_11 f g m) v1 (v2 ||| (gshl (nI 1) v3)) v3 z16.2.1 z16.2.2))))))))
set_option maxHeartbeats 4000000 in
set_option maxRecDepth 100000 in
theorem t_X7_silence_11 {n f g d : Nat} {Q : gP} {z : gRs}  (hw : gfw f g)   : ∀ {m : Nat} {v1 : Int32} {v2 : Int32} {v3 : Int32} {I : Nat → Nat → Int32} {L : Nat → Nat → Int64}, r_X7_silence_11 f g m v1 v2 v3 I L = some z → Q (some (.int z.1)) (gKn n, gRf f g, z.2.1, z.2.2) → gW gM (d + 3) 0 0 k_X7_silence 11 [.ref 2, .int v1, .int v2, .int v3] [] (gKn n, gRf f g, I, L) Q := by
  intro m
  have hfe := hw.f
  have hfd := hw.g
  induction m with
  | zero =>
    intro v1 v2 v3 I L hr _
    cases hr
  | succ m ih =>
    intro v1 v2 v3 I L hr hQ
    have hK11 : ∀ v1 v2 v3 I L, r_X7_silence_11 f g m v1 v2 v3 I L = some z → gW gM (d + 3) 0 0 k_X7_silence 11 [.ref 2, .int v1, .int v2, .int v3] [] (gKn n, gRf f g, I, L) Q := fun v1 v2 v3 I L hr => ih hr hQ
    unfold r_X7_silence_11 at hr
    refine r_iload rfl rfl ?_
    refine r_aload rfl rfl ?_
    refine r_getR (c := 7) (k := 2) (v := f) rfl rfl ⟨rfl, rfl⟩ rfl ?_
    refine r_getI (c := 1) (k := 0) rfl (shFen hfe) ⟨rfl, rfl⟩ ?_
    refine r_icmp_ge 37 rfl rfl (fun c13 => ?_) (fun c13 => ?_)
    · rw [if_pos c13] at hr
      refine r_iload rfl rfl ?_
      refine r_iret rfl ?_
      cases hr
      exact hQ
    · rw [if_neg c13] at hr
      refine r_aload rfl rfl ?_
      refine r_getR (c := 7) (k := 2) (v := f) rfl rfl ⟨rfl, rfl⟩ rfl ?_
      refine r_iload rfl rfl ?_
      obtain ⟨z14, hz14, hr⟩ := gbnd hr
      refine r_invv (a := f) [.int v3] rfl rfl (shFen hfe) rfl rfl (Nat.le_of_ble_eq_true rfl) ⟨rfl, rfl⟩ ?_
      refine s_X1_lanesWith hfe hz14 ?_
      show gW _ _ _ _ _ 20 [.ref 2, .int v1, .int v2, .int v3] [.int z14.1] (gKn n, gRf f g, z14.2.1, z14.2.2) _
      refine r_iload rfl rfl ?_
      refine r_ishr rfl ?_
      refine r_const rfl (gcst 1) ?_
      refine r_iand rfl ?_
      refine r_if_eq 35 rfl rfl (fun c15 => ?_) (fun c15 => ?_)
      · rw [if_pos c15] at hr
        exact t_X7_silence_35 hw hK11 hr hQ
      · rw [if_neg c15] at hr
        refine r_aload rfl rfl ?_
        refine r_iload rfl rfl ?_
        obtain ⟨z16, hz16, hr⟩ := gbnd hr
        refine r_invv (a := 2) [.int v3] rfl rfl rfl rfl rfl (Nat.le_of_ble_eq_true rfl) ⟨rfl, rfl⟩ ?_
        refine s_X7_sounds hw  hz16 ?_
        show gW _ _ _ _ _ 28 [.ref 2, .int v1, .int v2, .int v3] [.int z16.1] (gKn n, gRf f g, z16.2.1, z16.2.2) _
        refine r_if_eq 35 rfl rfl (fun c17 => ?_) (fun c17 => ?_)
        · rw [if_pos c17] at hr
          exact t_X7_silence_35 hw hK11 hr hQ
        · rw [if_neg c17] at hr
          refine r_iload rfl rfl ?_
          refine r_const rfl (gcst 1) ?_
          refine r_iload rfl rfl ?_
          refine r_ishl rfl ?_
          refine r_ior rfl ?_
          refine r_istore [.ref 2, .int v1, .int (v2 ||| (gshl (nI 1) v3)), .int v3] rfl rfl (Nat.le_of_ble_eq_true rfl) rfl ?_
          exact t_X7_silence_35 hw hK11 hr hQ
def r_X7_silence (f g : Nat) (I : Nat → Nat → Int32) (L : Nat → Nat → Int64) (a1 : Int32) : Option gRs := (if ¬ (f_X1_isLane I L f a1) = 0 then (r_X7_silence_11 f g 100 a1 (nI 0) (nI 0) I L) else some ((-1 : Int32), I, L))
set_option maxHeartbeats 4000000 in
set_option maxRecDepth 100000 in
theorem s_X7_silence {n f g d : Nat} {Q : gP} {I : Nat → Nat → Int32} {L : Nat → Nat → Int64} {a1 : Int32} {z : gRs} (hw : gfw f g)  (hr : r_X7_silence f g I L a1 = some z) (hQ : Q (some (.int z.1)) (gKn n, gRf f g, z.2.1, z.2.2)) : gR gM (d + 3) 77 [.ref 2, .int a1] (gKn n, gRf f g, I, L) Q := by
  have hfe := hw.f
  have hfd := hw.g
  unfold r_X7_silence at hr
  show gW gM (d + 3) 0 0 k_X7_silence 0 [.ref 2, .int a1, .null, .null] [] (gKn n, gRf f g, I, L) Q
  refine r_aload rfl rfl ?_
  refine r_getR (c := 7) (k := 2) (v := f) rfl rfl ⟨rfl, rfl⟩ rfl ?_
  refine r_iload rfl rfl ?_
  refine r_invv (a := f) [.int a1] rfl rfl (shFen hfe) rfl rfl (Nat.le_of_ble_eq_true rfl) ⟨rfl, rfl⟩ ?_
  refine s_X1_isLane hfe ?_
  show gW _ _ _ _ _ 4 [.ref 2, .int a1, .null, .null] [.int (f_X1_isLane I L f a1)] (gKn n, gRf f g, I, L) _
  refine r_if_ne 7 rfl rfl (fun c18 => ?_) (fun c18 => ?_)
  · rw [if_pos c18] at hr
    refine r_const rfl (gcst 0) ?_
    refine r_istore [.ref 2, .int a1, .int (nI 0), .null] rfl rfl (Nat.le_of_ble_eq_true rfl) rfl ?_
    refine r_const rfl (gcst 0) ?_
    refine r_istore [.ref 2, .int a1, .int (nI 0), .int (nI 0)] rfl rfl (Nat.le_of_ble_eq_true rfl) rfl ?_
    exact t_X7_silence_11 hw hr hQ
  · rw [if_neg c18] at hr
    refine r_const rfl (v := -1) (by decide) ?_
    refine r_iret rfl ?_
    cases hr
    exact hQ
def f_X7_togglesOpen (f g : Nat) (I : Nat → Nat → Int32) (L : Nat → Nat → Int64) (a1 : Nat) (a2 : Int32) : Int32 := (if ¬ (f_X1_isGate I L f a2) = 0 then (nI 1) else (nI 0))
def i_X7_togglesOpen (f g : Nat) (I : Nat → Nat → Int32) (L : Nat → Nat → Int64) (a1 : Nat) (a2 : Int32) : Nat → Nat → Int32 := (if ¬ (f_X1_isGate I L f a2) = 0 then (gu2 I a1 2 ((I a1 2) ^^^ (gshl (nI 1) a2))) else I)
set_option maxHeartbeats 4000000 in
set_option maxRecDepth 100000 in
theorem s_X7_togglesOpen {n f g d : Nat} {Q : gP} {I : Nat → Nat → Int32} {L : Nat → Nat → Int64} {a1 : Nat} {a2 : Int32} (hw : gfw f g) (h1 : gmo a1 = true) (hQ : Q (some (.int (f_X7_togglesOpen f g I L a1 a2))) (gKn n, gRf f g, i_X7_togglesOpen f g I L a1 a2, L)) : gR gM (d + 1) 95 [.ref 2, .ref a1, .int a2] (gKn n, gRf f g, I, L) Q := by
  have hfe := hw.f
  have hfd := hw.g
  unfold f_X7_togglesOpen i_X7_togglesOpen at hQ
  show gW gM (d + 1) 0 0 k_X7_togglesOpen 0 [.ref 2, .ref a1, .int a2] [] (gKn n, gRf f g, I, L) Q
  refine r_aload rfl rfl ?_
  refine r_getR (c := 7) (k := 2) (v := f) rfl rfl ⟨rfl, rfl⟩ rfl ?_
  refine r_iload rfl rfl ?_
  refine r_invv (a := f) [.int a2] rfl rfl (shFen hfe) rfl rfl (Nat.le_of_ble_eq_true rfl) ⟨rfl, rfl⟩ ?_
  refine s_X1_isGate hfe ?_
  show gW _ _ _ _ _ 4 [.ref 2, .ref a1, .int a2] [.int (f_X1_isGate I L f a2)] (gKn n, gRf f g, I, L) _
  refine r_if_ne 7 rfl rfl (fun c2 => ?_) (fun c2 => ?_)
  · try simp only [if_pos c2] at hQ
    refine r_aload rfl rfl ?_
    refine r_dup rfl rfl ?_
    refine r_getI (c := 4) (k := 2) rfl (shMom h1) ⟨rfl, rfl⟩ ?_
    refine r_const rfl (gcst 1) ?_
    refine r_iload rfl rfl ?_
    refine r_ishl rfl ?_
    refine r_ixor rfl ?_
    refine r_putI (c := 4) (k := 2) rfl (shMom h1) ⟨rfl, rfl⟩ ?_
    refine r_const rfl (gcst 1) ?_
    refine r_zret rfl (Or.inr rfl) ?_
    try simp only [Bool.false_eq_true, if_false] at hQ
    first | exact hQ | simpa only [if_pos c2] using hQ
  · try simp only [if_neg c2] at hQ
    refine r_const rfl (gcst 0) ?_
    refine r_zret rfl (Or.inl rfl) ?_
    try simp only [Bool.false_eq_true, if_false] at hQ
    first | exact hQ | simpa only [if_neg c2] using hQ
def f_X7_togglesOil (f g : Nat) (I : Nat → Nat → Int32) (L : Nat → Nat → Int64) (a1 : Nat) (a2 : Int32) : Int32 := (if ¬ (f_X1_isGate I L f a2) = 0 then (nI 1) else (nI 0))
def i_X7_togglesOil (f g : Nat) (I : Nat → Nat → Int32) (L : Nat → Nat → Int64) (a1 : Nat) (a2 : Int32) : Nat → Nat → Int32 := (if ¬ (f_X1_isGate I L f a2) = 0 then (gu2 I a1 3 ((I a1 3) ^^^ (gshl (nI 1) a2))) else I)
set_option maxHeartbeats 4000000 in
set_option maxRecDepth 100000 in
theorem s_X7_togglesOil {n f g d : Nat} {Q : gP} {I : Nat → Nat → Int32} {L : Nat → Nat → Int64} {a1 : Nat} {a2 : Int32} (hw : gfw f g) (h1 : gmo a1 = true) (hQ : Q (some (.int (f_X7_togglesOil f g I L a1 a2))) (gKn n, gRf f g, i_X7_togglesOil f g I L a1 a2, L)) : gR gM (d + 1) 96 [.ref 2, .ref a1, .int a2] (gKn n, gRf f g, I, L) Q := by
  have hfe := hw.f
  have hfd := hw.g
  unfold f_X7_togglesOil i_X7_togglesOil at hQ
  show gW gM (d + 1) 0 0 k_X7_togglesOil 0 [.ref 2, .ref a1, .int a2] [] (gKn n, gRf f g, I, L) Q
  refine r_aload rfl rfl ?_
  refine r_getR (c := 7) (k := 2) (v := f) rfl rfl ⟨rfl, rfl⟩ rfl ?_
  refine r_iload rfl rfl ?_
  refine r_invv (a := f) [.int a2] rfl rfl (shFen hfe) rfl rfl (Nat.le_of_ble_eq_true rfl) ⟨rfl, rfl⟩ ?_
  refine s_X1_isGate hfe ?_
  show gW _ _ _ _ _ 4 [.ref 2, .ref a1, .int a2] [.int (f_X1_isGate I L f a2)] (gKn n, gRf f g, I, L) _
  refine r_if_ne 7 rfl rfl (fun c2 => ?_) (fun c2 => ?_)
  · try simp only [if_pos c2] at hQ
    refine r_aload rfl rfl ?_
    refine r_dup rfl rfl ?_
    refine r_getI (c := 4) (k := 3) rfl (shMom h1) ⟨rfl, rfl⟩ ?_
    refine r_const rfl (gcst 1) ?_
    refine r_iload rfl rfl ?_
    refine r_ishl rfl ?_
    refine r_ixor rfl ?_
    refine r_putI (c := 4) (k := 3) rfl (shMom h1) ⟨rfl, rfl⟩ ?_
    refine r_const rfl (gcst 1) ?_
    refine r_zret rfl (Or.inr rfl) ?_
    try simp only [Bool.false_eq_true, if_false] at hQ
    first | exact hQ | simpa only [if_pos c2] using hQ
  · try simp only [if_neg c2] at hQ
    refine r_const rfl (gcst 0) ?_
    refine r_zret rfl (Or.inl rfl) ?_
    try simp only [Bool.false_eq_true, if_false] at hQ
    first | exact hQ | simpa only [if_neg c2] using hQ
