/-! FUNCTIONS (dec.py, dec2.py) -/
def r_X8_beast_34   (s0 : Int32) (I : Nat → Nat → Int32) (L : Nat → Nat → Int64) : Option gRs := some (s0, I, L)
set_option maxHeartbeats 4000000 in
set_option maxRecDepth 100000 in
theorem t_X8_beast_34 {n f g d : Nat} {Q : gP} {z : gRs}    {s0 : Int32} {I : Nat → Nat → Int32} {L : Nat → Nat → Int64} (hr : r_X8_beast_34 s0 I L = some z) (hQ : Q (some (.int z.1)) (gKn n, gRf f g, z.2.1, z.2.2)) : gW gM (d + 2) 0 0 k_X8_beast 34 [.null, .null, .null] [.int s0] (gKn n, gRf f g, I, L) Q := by
  unfold r_X8_beast_34 at hr
  refine r_iret rfl ?_
  cases hr
  exact hQ
def r_X8_beast (I : Nat → Nat → Int32) (L : Nat → Nat → Int64) (a1 : Int32) (a2 : Int32) : Option gRs := ((r_X8_isBeast I L a1).bind (fun z15 => (if ¬ z15.1 = 0 then (if ¬ a2 = 0 then (if ¬ a2 = (nI 1) then (if ¬ a2 = (nI 2) then (r_X8_beast_34 (-2 : Int32) z15.2.1 z15.2.2) else (r_X8_beast_34 ((gshr (z15.2.1 63 (gx (nI 12))) a1) &&& (nI 1)) z15.2.1 z15.2.2)) else (if gvp a1 5 = true then (r_X8_beast_34 (z15.2.1 61 (gx a1)) z15.2.1 z15.2.2) else none)) else (if gvp a1 5 = true then (r_X8_beast_34 (z15.2.1 60 (gx a1)) z15.2.1 z15.2.2) else none)) else some ((-1 : Int32), z15.2.1, z15.2.2))))
set_option maxHeartbeats 4000000 in
set_option maxRecDepth 100000 in
theorem s_X8_beast {n f g d : Nat} {Q : gP} {I : Nat → Nat → Int32} {L : Nat → Nat → Int64} {a1 : Int32} {a2 : Int32} {z : gRs}  (hr : r_X8_beast I L a1 a2 = some z) (hQ : Q (some (.int z.1)) (gKn n, gRf f g, z.2.1, z.2.2)) : gR gM (d + 2) 129 [.ref 57, .int a1, .int a2] (gKn n, gRf f g, I, L) Q := by
  unfold r_X8_beast at hr
  show gW gM (d + 2) 0 0 k_X8_beast 0 [.ref 57, .int a1, .int a2] [] (gKn n, gRf f g, I, L) Q
  refine r_aload rfl rfl ?_
  refine r_iload rfl rfl ?_
  obtain ⟨z15, hz15, hr⟩ := gbnd hr
  refine r_invv (a := 57) [.int a1] rfl rfl rfl rfl rfl (Nat.le_of_ble_eq_true rfl) ⟨rfl, rfl⟩ ?_
  refine s_X8_isBeast  hz15 ?_
  show gW _ _ _ _ _ 3 [.ref 57, .int a1, .int a2] [.int z15.1] (gKn n, gRf f g, z15.2.1, z15.2.2) _
  refine r_if_ne 6 rfl rfl (fun c16 => ?_) (fun c16 => ?_)
  · rw [if_pos c16] at hr
    refine r_iload rfl rfl ?_
    refine r_if_ne 13 rfl rfl (fun c17 => ?_) (fun c17 => ?_)
    · rw [if_pos c17] at hr
      refine r_iload rfl rfl ?_
      refine r_const rfl (gcst 1) ?_
      refine r_icmp_ne 21 rfl rfl (fun c18 => ?_) (fun c18 => ?_)
      · rw [if_pos c18] at hr
        refine r_iload rfl rfl ?_
        refine r_const rfl (gcst 2) ?_
        refine r_icmp_ne 33 rfl rfl (fun c19 => ?_) (fun c19 => ?_)
        · rw [if_pos c19] at hr
          refine r_const rfl (v := -2) (by decide) ?_
          refine gforget (ls := [.null, .null, .null]) ⟨(Or.inr (Or.inr ⟨rfl, _, rfl⟩)), ⟨(Or.inr (Or.inl ⟨rfl, _, rfl⟩)), ⟨(Or.inr (Or.inl ⟨rfl, _, rfl⟩)), trivial⟩⟩⟩ ?_
          exact t_X8_beast_34  hr hQ
        · rw [if_neg c19] at hr
          refine r_aload rfl rfl ?_
          refine r_getR (c := 8) (k := 9) (v := 63) rfl rfl ⟨rfl, rfl⟩ rfl ?_
          refine r_const rfl (gcst 12) ?_
          refine r_iaload (n := 54) rfl rfl (vp_in_nI (n := 12) (N := 54) (by decide) (by decide)) ?_
          refine r_iload rfl rfl ?_
          refine r_ishr rfl ?_
          refine r_const rfl (gcst 1) ?_
          refine r_iand rfl ?_
          refine r_goto 34 rfl rfl ?_
          refine gforget (ls := [.null, .null, .null]) ⟨(Or.inr (Or.inr ⟨rfl, _, rfl⟩)), ⟨(Or.inr (Or.inl ⟨rfl, _, rfl⟩)), ⟨(Or.inr (Or.inl ⟨rfl, _, rfl⟩)), trivial⟩⟩⟩ ?_
          exact t_X8_beast_34  hr hQ
      · rw [if_neg c18] at hr
        refine r_aload rfl rfl ?_
        refine r_getR (c := 8) (k := 7) (v := 61) rfl rfl ⟨rfl, rfl⟩ rfl ?_
        refine r_iload rfl rfl ?_
        obtain ⟨b20, hr⟩ := gopt hr
        refine r_iaload (n := 5) rfl rfl (gvp_in b20) ?_
        refine r_goto 34 rfl rfl ?_
        refine gforget (ls := [.null, .null, .null]) ⟨(Or.inr (Or.inr ⟨rfl, _, rfl⟩)), ⟨(Or.inr (Or.inl ⟨rfl, _, rfl⟩)), ⟨(Or.inr (Or.inl ⟨rfl, _, rfl⟩)), trivial⟩⟩⟩ ?_
        exact t_X8_beast_34  hr hQ
    · rw [if_neg c17] at hr
      refine r_aload rfl rfl ?_
      refine r_getR (c := 8) (k := 6) (v := 60) rfl rfl ⟨rfl, rfl⟩ rfl ?_
      refine r_iload rfl rfl ?_
      obtain ⟨b21, hr⟩ := gopt hr
      refine r_iaload (n := 5) rfl rfl (gvp_in b21) ?_
      refine r_goto 34 rfl rfl ?_
      refine gforget (ls := [.null, .null, .null]) ⟨(Or.inr (Or.inr ⟨rfl, _, rfl⟩)), ⟨(Or.inr (Or.inl ⟨rfl, _, rfl⟩)), ⟨(Or.inr (Or.inl ⟨rfl, _, rfl⟩)), trivial⟩⟩⟩ ?_
      exact t_X8_beast_34  hr hQ
  · rw [if_neg c16] at hr
    refine r_const rfl (v := -1) (by decide) ?_
    refine r_iret rfl ?_
    cases hr
    exact hQ
def r_X8_tone_22   (s0 : Int32) (I : Nat → Nat → Int32) (L : Nat → Nat → Int64) : Option gRs := some (s0, I, L)
set_option maxHeartbeats 4000000 in
set_option maxRecDepth 100000 in
theorem t_X8_tone_22 {n f g d : Nat} {Q : gP} {z : gRs}    {s0 : Int32} {I : Nat → Nat → Int32} {L : Nat → Nat → Int64} (hr : r_X8_tone_22 s0 I L = some z) (hQ : Q (some (.int z.1)) (gKn n, gRf f g, z.2.1, z.2.2)) : gW gM (d + 2) 0 0 k_X8_tone 22 [.null, .null, .null] [.int s0] (gKn n, gRf f g, I, L) Q := by
  unfold r_X8_tone_22 at hr
  refine r_iret rfl ?_
  cases hr
  exact hQ
def r_X8_tone (I : Nat → Nat → Int32) (L : Nat → Nat → Int64) (a1 : Int32) (a2 : Int32) : Option gRs := ((r_X8_isGate I L a1).bind (fun z15 => (if z15.1 = 0 then (r_X8_tone_22 (-1 : Int32) z15.2.1 z15.2.2) else ((r_X8_isBeast z15.2.1 z15.2.2 a2).bind (fun z17 => (if z17.1 = 0 then (r_X8_tone_22 (-1 : Int32) z17.2.1 z17.2.2) else (if gvp a2 5 = true then (if gvp a2 5 = true then ((r_X8_toneOf z17.2.1 z17.2.2 (nI 0) a1 (z17.2.1 61 (gx a2)) (z17.2.1 60 (gx a2))).bind (fun z21 => (r_X8_tone_22 z21.1 z21.2.1 z21.2.2))) else none) else none)))))))
set_option maxHeartbeats 4000000 in
set_option maxRecDepth 100000 in
theorem s_X8_tone {n f g d : Nat} {Q : gP} {I : Nat → Nat → Int32} {L : Nat → Nat → Int64} {a1 : Int32} {a2 : Int32} {z : gRs}  (hr : r_X8_tone I L a1 a2 = some z) (hQ : Q (some (.int z.1)) (gKn n, gRf f g, z.2.1, z.2.2)) : gR gM (d + 2) 130 [.ref 57, .int a1, .int a2] (gKn n, gRf f g, I, L) Q := by
  unfold r_X8_tone at hr
  show gW gM (d + 2) 0 0 k_X8_tone 0 [.ref 57, .int a1, .int a2] [] (gKn n, gRf f g, I, L) Q
  refine r_aload rfl rfl ?_
  refine r_iload rfl rfl ?_
  obtain ⟨z15, hz15, hr⟩ := gbnd hr
  refine r_invv (a := 57) [.int a1] rfl rfl rfl rfl rfl (Nat.le_of_ble_eq_true rfl) ⟨rfl, rfl⟩ ?_
  refine s_X8_isGate  hz15 ?_
  show gW _ _ _ _ _ 3 [.ref 57, .int a1, .int a2] [.int z15.1] (gKn n, gRf f g, z15.2.1, z15.2.2) _
  refine r_if_eq 21 rfl rfl (fun c16 => ?_) (fun c16 => ?_)
  · rw [if_pos c16] at hr
    refine r_const rfl (v := -1) (by decide) ?_
    refine gforget (ls := [.null, .null, .null]) ⟨(Or.inr (Or.inr ⟨rfl, _, rfl⟩)), ⟨(Or.inr (Or.inl ⟨rfl, _, rfl⟩)), ⟨(Or.inr (Or.inl ⟨rfl, _, rfl⟩)), trivial⟩⟩⟩ ?_
    exact t_X8_tone_22  hr hQ
  · rw [if_neg c16] at hr
    refine r_aload rfl rfl ?_
    refine r_iload rfl rfl ?_
    obtain ⟨z17, hz17, hr⟩ := gbnd hr
    refine r_invv (a := 57) [.int a2] rfl rfl rfl rfl rfl (Nat.le_of_ble_eq_true rfl) ⟨rfl, rfl⟩ ?_
    refine s_X8_isBeast  hz17 ?_
    show gW _ _ _ _ _ 7 [.ref 57, .int a1, .int a2] [.int z17.1] (gKn n, gRf f g, z17.2.1, z17.2.2) _
    refine r_if_eq 21 rfl rfl (fun c18 => ?_) (fun c18 => ?_)
    · rw [if_pos c18] at hr
      refine r_const rfl (v := -1) (by decide) ?_
      refine gforget (ls := [.null, .null, .null]) ⟨(Or.inr (Or.inr ⟨rfl, _, rfl⟩)), ⟨(Or.inr (Or.inl ⟨rfl, _, rfl⟩)), ⟨(Or.inr (Or.inl ⟨rfl, _, rfl⟩)), trivial⟩⟩⟩ ?_
      exact t_X8_tone_22  hr hQ
    · rw [if_neg c18] at hr
      refine r_aload rfl rfl ?_
      refine r_const rfl (gcst 0) ?_
      refine r_iload rfl rfl ?_
      refine r_aload rfl rfl ?_
      refine r_getR (c := 8) (k := 7) (v := 61) rfl rfl ⟨rfl, rfl⟩ rfl ?_
      refine r_iload rfl rfl ?_
      obtain ⟨b19, hr⟩ := gopt hr
      refine r_iaload (n := 5) rfl rfl (gvp_in b19) ?_
      refine r_aload rfl rfl ?_
      refine r_getR (c := 8) (k := 6) (v := 60) rfl rfl ⟨rfl, rfl⟩ rfl ?_
      refine r_iload rfl rfl ?_
      obtain ⟨b20, hr⟩ := gopt hr
      refine r_iaload (n := 5) rfl rfl (gvp_in b20) ?_
      obtain ⟨z21, hz21, hr⟩ := gbnd hr
      refine r_invv (a := 57) [.int (nI 0), .int a1, .int (z17.2.1 61 (gx a2)), .int (z17.2.1 60 (gx a2))] rfl rfl rfl rfl rfl (Nat.le_of_ble_eq_true rfl) ⟨rfl, rfl⟩ ?_
      refine s_X8_toneOf  hz21 ?_
      show gW _ _ _ _ _ 20 [.ref 57, .int a1, .int a2] [.int z21.1] (gKn n, gRf f g, z21.2.1, z21.2.2) _
      refine r_goto 22 rfl rfl ?_
      refine gforget (ls := [.null, .null, .null]) ⟨(Or.inr (Or.inr ⟨rfl, _, rfl⟩)), ⟨(Or.inr (Or.inl ⟨rfl, _, rfl⟩)), ⟨(Or.inr (Or.inl ⟨rfl, _, rfl⟩)), trivial⟩⟩⟩ ?_
      exact t_X8_tone_22  hr hQ
def r_X8_song_39   (s0 : Int32) (I : Nat → Nat → Int32) (L : Nat → Nat → Int64) : Option gRs := some (s0, I, L)
set_option maxHeartbeats 4000000 in
set_option maxRecDepth 100000 in
theorem t_X8_song_39 {n f g d : Nat} {Q : gP} {z : gRs}    {s0 : Int32} {I : Nat → Nat → Int32} {L : Nat → Nat → Int64} (hr : r_X8_song_39 s0 I L = some z) (hQ : Q (some (.int z.1)) (gKn n, gRf f g, z.2.1, z.2.2)) : gW gM (d + 3) 0 0 k_X8_song 39 [.null, .null, .null, .null, .null] [.int s0] (gKn n, gRf f g, I, L) Q := by
  unfold r_X8_song_39 at hr
  refine r_iret rfl ?_
  cases hr
  exact hQ
def r_X8_song_8    (I : Nat → Nat → Int32) (L : Nat → Nat → Int64) : Option gRs := some ((-1 : Int32), I, L)
set_option maxHeartbeats 4000000 in
set_option maxRecDepth 100000 in
theorem t_X8_song_8 {n f g d : Nat} {Q : gP} {z : gRs}     {I : Nat → Nat → Int32} {L : Nat → Nat → Int64} (hr : r_X8_song_8 I L = some z) (hQ : Q (some (.int z.1)) (gKn n, gRf f g, z.2.1, z.2.2)) : gW gM (d + 3) 0 0 k_X8_song 8 [.null, .null, .null, .null, .null] [] (gKn n, gRf f g, I, L) Q := by
  unfold r_X8_song_8 at hr
  refine r_const rfl (v := -1) (by decide) ?_
  refine r_iret rfl ?_
  cases hr
  exact hQ
def r_X8_song (I : Nat → Nat → Int32) (L : Nat → Nat → Int64) (a1 : Int32) (a2 : Int32) (a3 : Int32) : Option gRs := ((r_X8_isBeast I L a1).bind (fun z19 => (if z19.1 = 0 then (r_X8_song_8 z19.2.1 z19.2.2) else ((r_X8_isLane z19.2.1 z19.2.2 a2).bind (fun z21 => (if ¬ z21.1 = 0 then (if ¬ (f_X8_in z21.2.1 z21.2.2 (Int32.toInt64 a3) (lN 0) (lN 12)) = 0 then ((r_X8_laySong z21.2.1 z21.2.2 (nI 0) (nI 0) a1 a2).bind (fun z24 => (if ¬ a3 = (nI 12) then (if z24.1 ≤ a3 then (r_X8_song_39 (-9 : Int32) z24.2.1 z24.2.2) else (if gvp a3 24 = true then (r_X8_song_39 (z24.2.1 69 (gx a3)) z24.2.1 z24.2.2) else none)) else (r_X8_song_39 z24.1 z24.2.1 z24.2.2)))) else some ((-2 : Int32), z21.2.1, z21.2.2)) else (r_X8_song_8 z21.2.1 z21.2.2)))))))
set_option maxHeartbeats 4000000 in
set_option maxRecDepth 100000 in
theorem s_X8_song {n f g d : Nat} {Q : gP} {I : Nat → Nat → Int32} {L : Nat → Nat → Int64} {a1 : Int32} {a2 : Int32} {a3 : Int32} {z : gRs}  (hr : r_X8_song I L a1 a2 a3 = some z) (hQ : Q (some (.int z.1)) (gKn n, gRf f g, z.2.1, z.2.2)) : gR gM (d + 3) 131 [.ref 57, .int a1, .int a2, .int a3] (gKn n, gRf f g, I, L) Q := by
  unfold r_X8_song at hr
  show gW gM (d + 3) 0 0 k_X8_song 0 [.ref 57, .int a1, .int a2, .int a3, .null] [] (gKn n, gRf f g, I, L) Q
  refine r_aload rfl rfl ?_
  refine r_iload rfl rfl ?_
  obtain ⟨z19, hz19, hr⟩ := gbnd hr
  refine r_invv (a := 57) [.int a1] rfl rfl rfl rfl rfl (Nat.le_of_ble_eq_true rfl) ⟨rfl, rfl⟩ ?_
  refine s_X8_isBeast  hz19 ?_
  show gW _ _ _ _ _ 3 [.ref 57, .int a1, .int a2, .int a3, .null] [.int z19.1] (gKn n, gRf f g, z19.2.1, z19.2.2) _
  refine r_if_eq 8 rfl rfl (fun c20 => ?_) (fun c20 => ?_)
  · rw [if_pos c20] at hr
    refine gforget (ls := [.null, .null, .null, .null, .null]) ⟨(Or.inr (Or.inr ⟨rfl, _, rfl⟩)), ⟨(Or.inr (Or.inl ⟨rfl, _, rfl⟩)), ⟨(Or.inr (Or.inl ⟨rfl, _, rfl⟩)), ⟨(Or.inr (Or.inl ⟨rfl, _, rfl⟩)), ⟨(Or.inl rfl), trivial⟩⟩⟩⟩⟩ ?_
    exact t_X8_song_8  hr hQ
  · rw [if_neg c20] at hr
    refine r_aload rfl rfl ?_
    refine r_iload rfl rfl ?_
    obtain ⟨z21, hz21, hr⟩ := gbnd hr
    refine r_invv (a := 57) [.int a2] rfl rfl rfl rfl rfl (Nat.le_of_ble_eq_true rfl) ⟨rfl, rfl⟩ ?_
    refine s_X8_isLane  hz21 ?_
    show gW _ _ _ _ _ 7 [.ref 57, .int a1, .int a2, .int a3, .null] [.int z21.1] (gKn n, gRf f g, z21.2.1, z21.2.2) _
    refine r_if_ne 10 rfl rfl (fun c22 => ?_) (fun c22 => ?_)
    · rw [if_pos c22] at hr
      refine r_iload rfl rfl ?_
      refine r_i2l rfl ?_
      refine r_lconst (v := lN 0) rfl rfl ?_
      refine r_lconst (v := lN 12) rfl rfl ?_
      refine r_invs [.long (Int32.toInt64 a3), .long (lN 0), .long (lN 12)] rfl rfl rfl rfl (Nat.le_of_ble_eq_true rfl) ⟨rfl, rfl⟩ ?_
      refine s_X8_in  ?_
      show gW _ _ _ _ _ 15 [.ref 57, .int a1, .int a2, .int a3, .null] [.int (f_X8_in z21.2.1 z21.2.2 (Int32.toInt64 a3) (lN 0) (lN 12))] (gKn n, gRf f g, z21.2.1, z21.2.2) _
      refine r_if_ne 18 rfl rfl (fun c23 => ?_) (fun c23 => ?_)
      · rw [if_pos c23] at hr
        refine r_aload rfl rfl ?_
        refine r_const rfl (gcst 0) ?_
        refine r_const rfl (gcst 0) ?_
        refine r_iload rfl rfl ?_
        refine r_iload rfl rfl ?_
        obtain ⟨z24, hz24, hr⟩ := gbnd hr
        refine r_invv (a := 57) [.int (nI 0), .int (nI 0), .int a1, .int a2] rfl rfl rfl rfl rfl (Nat.le_of_ble_eq_true rfl) ⟨rfl, rfl⟩ ?_
        refine s_X8_laySong  hz24 ?_
        show gW _ _ _ _ _ 24 [.ref 57, .int a1, .int a2, .int a3, .null] [.int z24.1] (gKn n, gRf f g, z24.2.1, z24.2.2) _
        refine r_istore [.ref 57, .int a1, .int a2, .int a3, .int z24.1] rfl rfl (Nat.le_of_ble_eq_true rfl) rfl ?_
        refine r_iload rfl rfl ?_
        refine r_const rfl (gcst 12) ?_
        refine r_icmp_ne 30 rfl rfl (fun c25 => ?_) (fun c25 => ?_)
        · rw [if_pos c25] at hr
          refine r_iload rfl rfl ?_
          refine r_iload rfl rfl ?_
          refine r_icmp_ge 38 rfl rfl (fun c26 => ?_) (fun c26 => ?_)
          · rw [if_pos c26] at hr
            refine r_const rfl (v := -9) (by decide) ?_
            refine gforget (ls := [.null, .null, .null, .null, .null]) ⟨(Or.inr (Or.inr ⟨rfl, _, rfl⟩)), ⟨(Or.inr (Or.inl ⟨rfl, _, rfl⟩)), ⟨(Or.inr (Or.inl ⟨rfl, _, rfl⟩)), ⟨(Or.inr (Or.inl ⟨rfl, _, rfl⟩)), ⟨(Or.inr (Or.inl ⟨rfl, _, rfl⟩)), trivial⟩⟩⟩⟩⟩ ?_
            exact t_X8_song_39  hr hQ
          · rw [if_neg c26] at hr
            refine r_aload rfl rfl ?_
            refine r_getR (c := 8) (k := 23) (v := 69) rfl rfl ⟨rfl, rfl⟩ rfl ?_
            refine r_iload rfl rfl ?_
            obtain ⟨b27, hr⟩ := gopt hr
            refine r_iaload (n := 24) rfl rfl (gvp_in b27) ?_
            refine r_goto 39 rfl rfl ?_
            refine gforget (ls := [.null, .null, .null, .null, .null]) ⟨(Or.inr (Or.inr ⟨rfl, _, rfl⟩)), ⟨(Or.inr (Or.inl ⟨rfl, _, rfl⟩)), ⟨(Or.inr (Or.inl ⟨rfl, _, rfl⟩)), ⟨(Or.inr (Or.inl ⟨rfl, _, rfl⟩)), ⟨(Or.inr (Or.inl ⟨rfl, _, rfl⟩)), trivial⟩⟩⟩⟩⟩ ?_
            exact t_X8_song_39  hr hQ
        · rw [if_neg c25] at hr
          refine r_iload rfl rfl ?_
          refine r_goto 39 rfl rfl ?_
          refine gforget (ls := [.null, .null, .null, .null, .null]) ⟨(Or.inr (Or.inr ⟨rfl, _, rfl⟩)), ⟨(Or.inr (Or.inl ⟨rfl, _, rfl⟩)), ⟨(Or.inr (Or.inl ⟨rfl, _, rfl⟩)), ⟨(Or.inr (Or.inl ⟨rfl, _, rfl⟩)), ⟨(Or.inr (Or.inl ⟨rfl, _, rfl⟩)), trivial⟩⟩⟩⟩⟩ ?_
          exact t_X8_song_39  hr hQ
      · rw [if_neg c23] at hr
        refine r_const rfl (v := -2) (by decide) ?_
        refine r_iret rfl ?_
        cases hr
        exact hQ
    · rw [if_neg c22] at hr
      refine gforget (ls := [.null, .null, .null, .null, .null]) ⟨(Or.inr (Or.inr ⟨rfl, _, rfl⟩)), ⟨(Or.inr (Or.inl ⟨rfl, _, rfl⟩)), ⟨(Or.inr (Or.inl ⟨rfl, _, rfl⟩)), ⟨(Or.inr (Or.inl ⟨rfl, _, rfl⟩)), ⟨(Or.inl rfl), trivial⟩⟩⟩⟩⟩ ?_
      exact t_X8_song_8  hr hQ
def r_X8_sungOn_31   (s0 : Int32) (I : Nat → Nat → Int32) (L : Nat → Nat → Int64) : Option gRs := some (s0, I, L)
set_option maxHeartbeats 4000000 in
set_option maxRecDepth 100000 in
theorem t_X8_sungOn_31 {n f g d : Nat} {Q : gP} {z : gRs}    {s0 : Int32} {I : Nat → Nat → Int32} {L : Nat → Nat → Int64} (hr : r_X8_sungOn_31 s0 I L = some z) (hQ : Q (some (.int z.1)) (gKn n, gRf f g, z.2.1, z.2.2)) : gW gM (d + 0) 0 0 k_X8_sungOn 31 [.null, .null, .null, .null] [.int s0] (gKn n, gRf f g, I, L) Q := by
  unfold r_X8_sungOn_31 at hr
  refine r_iret rfl ?_
  cases hr
  exact hQ
def r_X8_sungOn (I : Nat → Nat → Int32) (L : Nat → Nat → Int64) (a1 : Int32) (a2 : Int32) : Option gRs := (if gvp (((nI 27) * a1) + (nI 14)) 54 = true then (if (I 63 (gx (((nI 27) * a1) + (nI 14)))) ≤ a2 then (r_X8_sungOn_31 (-9 : Int32) I L) else (if gvp (((nI 27) * a1) + (nI 14)) 54 = true then (if gvp ((((((nI 27) * a1) + (nI 15)) + (I 63 (gx (((nI 27) * a1) + (nI 14))))) - (nI 1)) - a2) 54 = true then (r_X8_sungOn_31 (I 63 (gx ((((((nI 27) * a1) + (nI 15)) + (I 63 (gx (((nI 27) * a1) + (nI 14))))) - (nI 1)) - a2))) I L) else none) else none)) else none)
set_option maxHeartbeats 4000000 in
set_option maxRecDepth 100000 in
theorem s_X8_sungOn {n f g d : Nat} {Q : gP} {I : Nat → Nat → Int32} {L : Nat → Nat → Int64} {a1 : Int32} {a2 : Int32} {z : gRs}  (hr : r_X8_sungOn I L a1 a2 = some z) (hQ : Q (some (.int z.1)) (gKn n, gRf f g, z.2.1, z.2.2)) : gR gM (d + 0) 132 [.ref 57, .int a1, .int a2] (gKn n, gRf f g, I, L) Q := by
  unfold r_X8_sungOn at hr
  show gW gM (d + 0) 0 0 k_X8_sungOn 0 [.ref 57, .int a1, .int a2, .null] [] (gKn n, gRf f g, I, L) Q
  refine r_const rfl (gcst 27) ?_
  refine r_iload rfl rfl ?_
  refine r_imul rfl ?_
  refine r_istore [.ref 57, .int a1, .int a2, .int ((nI 27) * a1)] rfl rfl (Nat.le_of_ble_eq_true rfl) rfl ?_
  refine r_iload rfl rfl ?_
  refine r_aload rfl rfl ?_
  refine r_getR (c := 8) (k := 9) (v := 63) rfl rfl ⟨rfl, rfl⟩ rfl ?_
  refine r_iload rfl rfl ?_
  refine r_const rfl (gcst 14) ?_
  refine r_iadd rfl ?_
  obtain ⟨b9, hr⟩ := gopt hr
  refine r_iaload (n := 54) rfl rfl (gvp_in b9) ?_
  refine r_icmp_ge 30 rfl rfl (fun c10 => ?_) (fun c10 => ?_)
  · rw [if_pos c10] at hr
    refine r_const rfl (v := -9) (by decide) ?_
    refine gforget (ls := [.null, .null, .null, .null]) ⟨(Or.inr (Or.inr ⟨rfl, _, rfl⟩)), ⟨(Or.inr (Or.inl ⟨rfl, _, rfl⟩)), ⟨(Or.inr (Or.inl ⟨rfl, _, rfl⟩)), ⟨(Or.inr (Or.inl ⟨rfl, _, rfl⟩)), trivial⟩⟩⟩⟩ ?_
    exact t_X8_sungOn_31  hr hQ
  · rw [if_neg c10] at hr
    refine r_aload rfl rfl ?_
    refine r_getR (c := 8) (k := 9) (v := 63) rfl rfl ⟨rfl, rfl⟩ rfl ?_
    refine r_iload rfl rfl ?_
    refine r_const rfl (gcst 15) ?_
    refine r_iadd rfl ?_
    refine r_aload rfl rfl ?_
    refine r_getR (c := 8) (k := 9) (v := 63) rfl rfl ⟨rfl, rfl⟩ rfl ?_
    refine r_iload rfl rfl ?_
    refine r_const rfl (gcst 14) ?_
    refine r_iadd rfl ?_
    obtain ⟨b11, hr⟩ := gopt hr
    refine r_iaload (n := 54) rfl rfl (gvp_in b11) ?_
    refine r_iadd rfl ?_
    refine r_const rfl (gcst 1) ?_
    refine r_isub rfl ?_
    refine r_iload rfl rfl ?_
    refine r_isub rfl ?_
    obtain ⟨b12, hr⟩ := gopt hr
    refine r_iaload (n := 54) rfl rfl (gvp_in b12) ?_
    refine r_goto 31 rfl rfl ?_
    refine gforget (ls := [.null, .null, .null, .null]) ⟨(Or.inr (Or.inr ⟨rfl, _, rfl⟩)), ⟨(Or.inr (Or.inl ⟨rfl, _, rfl⟩)), ⟨(Or.inr (Or.inl ⟨rfl, _, rfl⟩)), ⟨(Or.inr (Or.inl ⟨rfl, _, rfl⟩)), trivial⟩⟩⟩⟩ ?_
    exact t_X8_sungOn_31  hr hQ
def r_X8_sung_12   (s0 : Int32) (I : Nat → Nat → Int32) (L : Nat → Nat → Int64) : Option gRs := some (s0, I, L)
set_option maxHeartbeats 4000000 in
set_option maxRecDepth 100000 in
theorem t_X8_sung_12 {n f g d : Nat} {Q : gP} {z : gRs}    {s0 : Int32} {I : Nat → Nat → Int32} {L : Nat → Nat → Int64} (hr : r_X8_sung_12 s0 I L = some z) (hQ : Q (some (.int z.1)) (gKn n, gRf f g, z.2.1, z.2.2)) : gW gM (d + 1) 0 0 k_X8_sung 12 [.null, .null] [.int s0] (gKn n, gRf f g, I, L) Q := by
  unfold r_X8_sung_12 at hr
  refine r_iret rfl ?_
  cases hr
  exact hQ
def r_X8_sung (I : Nat → Nat → Int32) (L : Nat → Nat → Int64) (a1 : Int32) : Option gRs := (if (f_X8_in I L (Int32.toInt64 a1) (lN 0) (lN 11)) = 0 then (r_X8_sung_12 (-2 : Int32) I L) else ((r_X8_sungOn I L (nI 0) a1).bind (fun z6 => (r_X8_sung_12 z6.1 z6.2.1 z6.2.2))))
set_option maxHeartbeats 4000000 in
set_option maxRecDepth 100000 in
theorem s_X8_sung {n f g d : Nat} {Q : gP} {I : Nat → Nat → Int32} {L : Nat → Nat → Int64} {a1 : Int32} {z : gRs}  (hr : r_X8_sung I L a1 = some z) (hQ : Q (some (.int z.1)) (gKn n, gRf f g, z.2.1, z.2.2)) : gR gM (d + 1) 133 [.ref 57, .int a1] (gKn n, gRf f g, I, L) Q := by
  unfold r_X8_sung at hr
  show gW gM (d + 1) 0 0 k_X8_sung 0 [.ref 57, .int a1] [] (gKn n, gRf f g, I, L) Q
  refine r_iload rfl rfl ?_
  refine r_i2l rfl ?_
  refine r_lconst (v := lN 0) rfl rfl ?_
  refine r_lconst (v := lN 11) rfl rfl ?_
  refine r_invs [.long (Int32.toInt64 a1), .long (lN 0), .long (lN 11)] rfl rfl rfl rfl (Nat.le_of_ble_eq_true rfl) ⟨rfl, rfl⟩ ?_
  refine s_X8_in  ?_
  show gW _ _ _ _ _ 5 [.ref 57, .int a1] [.int (f_X8_in I L (Int32.toInt64 a1) (lN 0) (lN 11))] (gKn n, gRf f g, I, L) _
  refine r_if_eq 11 rfl rfl (fun c5 => ?_) (fun c5 => ?_)
  · rw [if_pos c5] at hr
    refine r_const rfl (v := -2) (by decide) ?_
    refine gforget (ls := [.null, .null]) ⟨(Or.inr (Or.inr ⟨rfl, _, rfl⟩)), ⟨(Or.inr (Or.inl ⟨rfl, _, rfl⟩)), trivial⟩⟩ ?_
    exact t_X8_sung_12  hr hQ
  · rw [if_neg c5] at hr
    refine r_aload rfl rfl ?_
    refine r_const rfl (gcst 0) ?_
    refine r_iload rfl rfl ?_
    obtain ⟨z6, hz6, hr⟩ := gbnd hr
    refine r_invv (a := 57) [.int (nI 0), .int a1] rfl rfl rfl rfl rfl (Nat.le_of_ble_eq_true rfl) ⟨rfl, rfl⟩ ?_
    refine s_X8_sungOn  hz6 ?_
    show gW _ _ _ _ _ 10 [.ref 57, .int a1] [.int z6.1] (gKn n, gRf f g, z6.2.1, z6.2.2) _
    refine r_goto 12 rfl rfl ?_
    refine gforget (ls := [.null, .null]) ⟨(Or.inr (Or.inr ⟨rfl, _, rfl⟩)), ⟨(Or.inr (Or.inl ⟨rfl, _, rfl⟩)), trivial⟩⟩ ?_
    exact t_X8_sung_12  hr hQ
def r_X8_keepAct_39   (s1 : Int32) (I : Nat → Nat → Int32) (L : Nat → Nat → Int64) : Option gRs := some (0, (gu2 I 57 25 s1), L)
set_option maxHeartbeats 4000000 in
set_option maxRecDepth 100000 in
theorem t_X8_keepAct_39 {n f g d : Nat} {Q : gP} {z : gRs}    {s1 : Int32} {I : Nat → Nat → Int32} {L : Nat → Nat → Int64} (hr : r_X8_keepAct_39 s1 I L = some z) (hQ : Q none (gKn n, gRf f g, z.2.1, z.2.2)) : gW gM (d + 0) 0 0 k_X8_keepAct 39 [.null, .null] [.int s1, .ref 57] (gKn n, gRf f g, I, L) Q := by
  unfold r_X8_keepAct_39 at hr
  refine r_putI (c := 8) (k := 25) rfl rfl ⟨rfl, rfl⟩ ?_
  refine r_vret rfl ?_
  cases hr
  exact hQ
def r_X8_keepAct_2   : Nat → Int32 → (Nat → Nat → Int32) → (Nat → Nat → Int64) → Option gRs
  | 0, _, _, _ => none
  | m + 1, v1, I, L => (if (nI 27) ≤ v1 then (if (nI 14) ≤ ((gu2 I 57 26 (grem ((I 57 26) + (nI 1)) (nI 14))) 57 25) then (r_X8_keepAct_39 (nI 14) (gu2 I 57 26 (grem ((I 57 26) + (nI 1)) (nI 14))) L) else (r_X8_keepAct_39 (((gu2 I 57 26 (grem ((I 57 26) + (nI 1)) (nI 14))) 57 25) + (nI 1)) (gu2 I 57 26 (grem ((I 57 26) + (nI 1)) (nI 14))) L)) else (if gvp v1 54 = true then (if gvp (((nI 27) * (I 57 26)) + v1) 378 = true then (r_X8_keepAct_2  m (v1 + (nI 1)) (gu2 I 70 (gx (((nI 27) * (I 57 26)) + v1)) (I 63 (gx v1))) L) else none) else none))
set_option maxHeartbeats 4000000 in
set_option maxRecDepth 100000 in
theorem t_X8_keepAct_2 {n f g d : Nat} {Q : gP} {z : gRs}    : ∀ {m : Nat} {v1 : Int32} {I : Nat → Nat → Int32} {L : Nat → Nat → Int64}, r_X8_keepAct_2 m v1 I L = some z → Q none (gKn n, gRf f g, z.2.1, z.2.2) → gW gM (d + 0) 0 0 k_X8_keepAct 2 [.ref 57, .int v1] [] (gKn n, gRf f g, I, L) Q := by
  intro m
  induction m with
  | zero =>
    intro v1 I L hr _
    cases hr
  | succ m ih =>
    intro v1 I L hr hQ
    have hK2 : ∀ v1 I L, r_X8_keepAct_2 m v1 I L = some z → gW gM (d + 0) 0 0 k_X8_keepAct 2 [.ref 57, .int v1] [] (gKn n, gRf f g, I, L) Q := fun v1 I L hr => ih hr hQ
    unfold r_X8_keepAct_2 at hr
    refine r_iload rfl rfl ?_
    refine r_const rfl (gcst 27) ?_
    refine r_icmp_ge 20 rfl rfl (fun c9 => ?_) (fun c9 => ?_)
    · rw [if_pos c9] at hr
      refine r_aload rfl rfl ?_
      refine r_aload rfl rfl ?_
      refine r_getI (c := 8) (k := 26) rfl rfl ⟨rfl, rfl⟩ ?_
      refine r_const rfl (gcst 1) ?_
      refine r_iadd rfl ?_
      refine r_const rfl (gcst 14) ?_
      refine r_irem rfl (nI_ne0 (n := 14) (by decide) (by decide)) ?_
      refine r_putI (c := 8) (k := 26) rfl rfl ⟨rfl, rfl⟩ ?_
      refine r_aload rfl rfl ?_
      refine r_aload rfl rfl ?_
      refine r_getI (c := 8) (k := 25) rfl rfl ⟨rfl, rfl⟩ ?_
      refine r_const rfl (gcst 14) ?_
      refine r_icmp_ge 38 rfl rfl (fun c10 => ?_) (fun c10 => ?_)
      · rw [if_pos c10] at hr
        refine r_const rfl (gcst 14) ?_
        refine gforget (ls := [.null, .null]) ⟨(Or.inr (Or.inr ⟨rfl, _, rfl⟩)), ⟨(Or.inr (Or.inl ⟨rfl, _, rfl⟩)), trivial⟩⟩ ?_
        exact t_X8_keepAct_39  hr hQ
      · rw [if_neg c10] at hr
        refine r_aload rfl rfl ?_
        refine r_getI (c := 8) (k := 25) rfl rfl ⟨rfl, rfl⟩ ?_
        refine r_const rfl (gcst 1) ?_
        refine r_iadd rfl ?_
        refine r_goto 39 rfl rfl ?_
        refine gforget (ls := [.null, .null]) ⟨(Or.inr (Or.inr ⟨rfl, _, rfl⟩)), ⟨(Or.inr (Or.inl ⟨rfl, _, rfl⟩)), trivial⟩⟩ ?_
        exact t_X8_keepAct_39  hr hQ
    · rw [if_neg c9] at hr
      refine r_aload rfl rfl ?_
      refine r_getR (c := 8) (k := 27) (v := 70) rfl rfl ⟨rfl, rfl⟩ rfl ?_
      refine r_const rfl (gcst 27) ?_
      refine r_aload rfl rfl ?_
      refine r_getI (c := 8) (k := 26) rfl rfl ⟨rfl, rfl⟩ ?_
      refine r_imul rfl ?_
      refine r_iload rfl rfl ?_
      refine r_iadd rfl ?_
      refine r_aload rfl rfl ?_
      refine r_getR (c := 8) (k := 9) (v := 63) rfl rfl ⟨rfl, rfl⟩ rfl ?_
      refine r_iload rfl rfl ?_
      obtain ⟨b11, hr⟩ := gopt hr
      refine r_iaload (n := 54) rfl rfl (gvp_in b11) ?_
      obtain ⟨b12, hr⟩ := gopt hr
      refine r_iastore (n := 378) rfl rfl (gvp_in b12) (by decide) ?_
      refine r_iinc (y := (v1 + (nI 1))) [.ref 57, .int (v1 + (nI 1))] rfl rfl rfl (ginc _ 1) rfl ?_
      refine r_goto 2 rfl rfl ?_
      exact hK2 _ _ _ hr
def r_X8_keepAct (I : Nat → Nat → Int32) (L : Nat → Nat → Int64)  : Option gRs := (r_X8_keepAct_2 100 (nI 0) I L)
set_option maxHeartbeats 4000000 in
set_option maxRecDepth 100000 in
theorem s_X8_keepAct {n f g d : Nat} {Q : gP} {I : Nat → Nat → Int32} {L : Nat → Nat → Int64}  {z : gRs}  (hr : r_X8_keepAct I L  = some z) (hQ : Q none (gKn n, gRf f g, z.2.1, z.2.2)) : gR gM (d + 0) 134 [.ref 57] (gKn n, gRf f g, I, L) Q := by
  unfold r_X8_keepAct at hr
  show gW gM (d + 0) 0 0 k_X8_keepAct 0 [.ref 57, .null] [] (gKn n, gRf f g, I, L) Q
  refine r_const rfl (gcst 0) ?_
  refine r_istore [.ref 57, .int (nI 0)] rfl rfl (Nat.le_of_ble_eq_true rfl) rfl ?_
  exact t_X8_keepAct_2  hr hQ
def r_X8_canDrive_22   (s0 : Int32) (I : Nat → Nat → Int32) (L : Nat → Nat → Int64) : Option gRs := (if (s0 = 0 ∨ s0 = 1) then some (s0, I, L) else none)
set_option maxHeartbeats 4000000 in
set_option maxRecDepth 100000 in
theorem t_X8_canDrive_22 {n f g d : Nat} {Q : gP} {z : gRs}    {s0 : Int32} {I : Nat → Nat → Int32} {L : Nat → Nat → Int64} (hr : r_X8_canDrive_22 s0 I L = some z) (hQ : Q (some (.int z.1)) (gKn n, gRf f g, z.2.1, z.2.2)) : gW gM (d + 2) 0 0 k_X8_canDrive 22 [.null, .null, .null, .null] [.int s0] (gKn n, gRf f g, I, L) Q := by
  unfold r_X8_canDrive_22 at hr
  obtain ⟨b14, hr⟩ := gopt hr
  refine r_zret rfl b14 ?_
  cases hr
  exact hQ
def r_X8_canDrive (I : Nat → Nat → Int32) (L : Nat → Nat → Int64) (a1 : Int32) (a2 : Int32) (a3 : Int32) : Option gRs := ((r_X8_isBeast I L a2).bind (fun z15 => (if z15.1 = 0 then (r_X8_canDrive_22 (nI 0) z15.2.1 z15.2.2) else ((r_X8_isLane z15.2.1 z15.2.2 a3).bind (fun z17 => (if z17.1 = 0 then (r_X8_canDrive_22 (nI 0) z17.2.1 z17.2.2) else (if gvp (((nI 27) * a1) + (nI 12)) 54 = true then (if ¬ (f_X8_bit z17.2.1 z17.2.2 (z17.2.1 63 (gx (((nI 27) * a1) + (nI 12)))) a2) = 0 then (r_X8_canDrive_22 (nI 0) z17.2.1 z17.2.2) else (r_X8_canDrive_22 (nI 1) z17.2.1 z17.2.2)) else none)))))))
set_option maxHeartbeats 4000000 in
set_option maxRecDepth 100000 in
theorem s_X8_canDrive {n f g d : Nat} {Q : gP} {I : Nat → Nat → Int32} {L : Nat → Nat → Int64} {a1 : Int32} {a2 : Int32} {a3 : Int32} {z : gRs}  (hr : r_X8_canDrive I L a1 a2 a3 = some z) (hQ : Q (some (.int z.1)) (gKn n, gRf f g, z.2.1, z.2.2)) : gR gM (d + 2) 135 [.ref 57, .int a1, .int a2, .int a3] (gKn n, gRf f g, I, L) Q := by
  unfold r_X8_canDrive at hr
  show gW gM (d + 2) 0 0 k_X8_canDrive 0 [.ref 57, .int a1, .int a2, .int a3] [] (gKn n, gRf f g, I, L) Q
  refine r_aload rfl rfl ?_
  refine r_iload rfl rfl ?_
  obtain ⟨z15, hz15, hr⟩ := gbnd hr
  refine r_invv (a := 57) [.int a2] rfl rfl rfl rfl rfl (Nat.le_of_ble_eq_true rfl) ⟨rfl, rfl⟩ ?_
  refine s_X8_isBeast  hz15 ?_
  show gW _ _ _ _ _ 3 [.ref 57, .int a1, .int a2, .int a3] [.int z15.1] (gKn n, gRf f g, z15.2.1, z15.2.2) _
  refine r_if_eq 21 rfl rfl (fun c16 => ?_) (fun c16 => ?_)
  · rw [if_pos c16] at hr
    refine r_const rfl (gcst 0) ?_
    refine gforget (ls := [.null, .null, .null, .null]) ⟨(Or.inr (Or.inr ⟨rfl, _, rfl⟩)), ⟨(Or.inr (Or.inl ⟨rfl, _, rfl⟩)), ⟨(Or.inr (Or.inl ⟨rfl, _, rfl⟩)), ⟨(Or.inr (Or.inl ⟨rfl, _, rfl⟩)), trivial⟩⟩⟩⟩ ?_
    exact t_X8_canDrive_22  hr hQ
  · rw [if_neg c16] at hr
    refine r_aload rfl rfl ?_
    refine r_iload rfl rfl ?_
    obtain ⟨z17, hz17, hr⟩ := gbnd hr
    refine r_invv (a := 57) [.int a3] rfl rfl rfl rfl rfl (Nat.le_of_ble_eq_true rfl) ⟨rfl, rfl⟩ ?_
    refine s_X8_isLane  hz17 ?_
    show gW _ _ _ _ _ 7 [.ref 57, .int a1, .int a2, .int a3] [.int z17.1] (gKn n, gRf f g, z17.2.1, z17.2.2) _
    refine r_if_eq 21 rfl rfl (fun c18 => ?_) (fun c18 => ?_)
    · rw [if_pos c18] at hr
      refine r_const rfl (gcst 0) ?_
      refine gforget (ls := [.null, .null, .null, .null]) ⟨(Or.inr (Or.inr ⟨rfl, _, rfl⟩)), ⟨(Or.inr (Or.inl ⟨rfl, _, rfl⟩)), ⟨(Or.inr (Or.inl ⟨rfl, _, rfl⟩)), ⟨(Or.inr (Or.inl ⟨rfl, _, rfl⟩)), trivial⟩⟩⟩⟩ ?_
      exact t_X8_canDrive_22  hr hQ
    · rw [if_neg c18] at hr
      refine r_aload rfl rfl ?_
      refine r_getR (c := 8) (k := 9) (v := 63) rfl rfl ⟨rfl, rfl⟩ rfl ?_
      refine r_const rfl (gcst 27) ?_
      refine r_iload rfl rfl ?_
      refine r_imul rfl ?_
      refine r_const rfl (gcst 12) ?_
      refine r_iadd rfl ?_
      obtain ⟨b19, hr⟩ := gopt hr
      refine r_iaload (n := 54) rfl rfl (gvp_in b19) ?_
      refine r_iload rfl rfl ?_
      refine r_invs [.int (z17.2.1 63 (gx (((nI 27) * a1) + (nI 12)))), .int a2] rfl rfl rfl rfl (Nat.le_of_ble_eq_true rfl) ⟨rfl, rfl⟩ ?_
      refine s_X8_bit  ?_
      show gW _ _ _ _ _ 18 [.ref 57, .int a1, .int a2, .int a3] [.int (f_X8_bit z17.2.1 z17.2.2 (z17.2.1 63 (gx (((nI 27) * a1) + (nI 12)))) a2)] (gKn n, gRf f g, z17.2.1, z17.2.2) _
      refine r_if_ne 21 rfl rfl (fun c20 => ?_) (fun c20 => ?_)
      · rw [if_pos c20] at hr
        refine r_const rfl (gcst 0) ?_
        refine gforget (ls := [.null, .null, .null, .null]) ⟨(Or.inr (Or.inr ⟨rfl, _, rfl⟩)), ⟨(Or.inr (Or.inl ⟨rfl, _, rfl⟩)), ⟨(Or.inr (Or.inl ⟨rfl, _, rfl⟩)), ⟨(Or.inr (Or.inl ⟨rfl, _, rfl⟩)), trivial⟩⟩⟩⟩ ?_
        exact t_X8_canDrive_22  hr hQ
      · rw [if_neg c20] at hr
        refine r_const rfl (gcst 1) ?_
        refine r_goto 22 rfl rfl ?_
        refine gforget (ls := [.null, .null, .null, .null]) ⟨(Or.inr (Or.inr ⟨rfl, _, rfl⟩)), ⟨(Or.inr (Or.inl ⟨rfl, _, rfl⟩)), ⟨(Or.inr (Or.inl ⟨rfl, _, rfl⟩)), ⟨(Or.inr (Or.inl ⟨rfl, _, rfl⟩)), trivial⟩⟩⟩⟩ ?_
        exact t_X8_canDrive_22  hr hQ
def r_X8_drive_8    (I : Nat → Nat → Int32) (L : Nat → Nat → Int64) : Option gRs := some ((-1 : Int32), I, L)
set_option maxHeartbeats 4000000 in
set_option maxRecDepth 100000 in
theorem t_X8_drive_8 {n f g d : Nat} {Q : gP} {z : gRs}     {I : Nat → Nat → Int32} {L : Nat → Nat → Int64} (hr : r_X8_drive_8 I L = some z) (hQ : Q (some (.int z.1)) (gKn n, gRf f g, z.2.1, z.2.2)) : gW gM (d + 4) 0 0 k_X8_drive 8 [.null, .null, .null] [] (gKn n, gRf f g, I, L) Q := by
  unfold r_X8_drive_8 at hr
  refine r_const rfl (v := -1) (by decide) ?_
  refine r_iret rfl ?_
  cases hr
  exact hQ
def r_X8_drive (I : Nat → Nat → Int32) (L : Nat → Nat → Int64) (a1 : Int32) (a2 : Int32) : Option gRs := ((r_X8_isBeast I L a1).bind (fun z17 => (if z17.1 = 0 then (r_X8_drive_8 z17.2.1 z17.2.2) else ((r_X8_isLane z17.2.1 z17.2.2 a2).bind (fun z19 => (if ¬ z19.1 = 0 then ((r_X8_canDrive z19.2.1 z19.2.2 (nI 0) a1 a2).bind (fun z21 => (if ¬ z21.1 = 0 then ((r_X8_keepAct z21.2.1 z21.2.2).bind (fun z23 => ((r_X8_driveOn z23.2.1 z23.2.2 (nI 0) a1 a2).bind (fun z24 => some (z24.1, z24.2.1, z24.2.2))))) else some ((-3 : Int32), z21.2.1, z21.2.2)))) else (r_X8_drive_8 z19.2.1 z19.2.2)))))))
set_option maxHeartbeats 4000000 in
set_option maxRecDepth 100000 in
theorem s_X8_drive {n f g d : Nat} {Q : gP} {I : Nat → Nat → Int32} {L : Nat → Nat → Int64} {a1 : Int32} {a2 : Int32} {z : gRs}  (hr : r_X8_drive I L a1 a2 = some z) (hQ : Q (some (.int z.1)) (gKn n, gRf f g, z.2.1, z.2.2)) : gR gM (d + 4) 136 [.ref 57, .int a1, .int a2] (gKn n, gRf f g, I, L) Q := by
  unfold r_X8_drive at hr
  show gW gM (d + 4) 0 0 k_X8_drive 0 [.ref 57, .int a1, .int a2] [] (gKn n, gRf f g, I, L) Q
  refine r_aload rfl rfl ?_
  refine r_iload rfl rfl ?_
  obtain ⟨z17, hz17, hr⟩ := gbnd hr
  refine r_invv (a := 57) [.int a1] rfl rfl rfl rfl rfl (Nat.le_of_ble_eq_true rfl) ⟨rfl, rfl⟩ ?_
  refine s_X8_isBeast  hz17 ?_
  show gW _ _ _ _ _ 3 [.ref 57, .int a1, .int a2] [.int z17.1] (gKn n, gRf f g, z17.2.1, z17.2.2) _
  refine r_if_eq 8 rfl rfl (fun c18 => ?_) (fun c18 => ?_)
  · rw [if_pos c18] at hr
    refine gforget (ls := [.null, .null, .null]) ⟨(Or.inr (Or.inr ⟨rfl, _, rfl⟩)), ⟨(Or.inr (Or.inl ⟨rfl, _, rfl⟩)), ⟨(Or.inr (Or.inl ⟨rfl, _, rfl⟩)), trivial⟩⟩⟩ ?_
    exact t_X8_drive_8  hr hQ
  · rw [if_neg c18] at hr
    refine r_aload rfl rfl ?_
    refine r_iload rfl rfl ?_
    obtain ⟨z19, hz19, hr⟩ := gbnd hr
    refine r_invv (a := 57) [.int a2] rfl rfl rfl rfl rfl (Nat.le_of_ble_eq_true rfl) ⟨rfl, rfl⟩ ?_
    refine s_X8_isLane  hz19 ?_
    show gW _ _ _ _ _ 7 [.ref 57, .int a1, .int a2] [.int z19.1] (gKn n, gRf f g, z19.2.1, z19.2.2) _
    refine r_if_ne 10 rfl rfl (fun c20 => ?_) (fun c20 => ?_)
    · rw [if_pos c20] at hr
      refine r_aload rfl rfl ?_
      refine r_const rfl (gcst 0) ?_
      refine r_iload rfl rfl ?_
      refine r_iload rfl rfl ?_
      obtain ⟨z21, hz21, hr⟩ := gbnd hr
      refine r_invv (a := 57) [.int (nI 0), .int a1, .int a2] rfl rfl rfl rfl rfl (Nat.le_of_ble_eq_true rfl) ⟨rfl, rfl⟩ ?_
      refine s_X8_canDrive  hz21 ?_
      show gW _ _ _ _ _ 15 [.ref 57, .int a1, .int a2] [.int z21.1] (gKn n, gRf f g, z21.2.1, z21.2.2) _
      refine r_if_ne 18 rfl rfl (fun c22 => ?_) (fun c22 => ?_)
      · rw [if_pos c22] at hr
        refine r_aload rfl rfl ?_
        obtain ⟨z23, hz23, hr⟩ := gbnd hr
        refine r_invv (a := 57) [] rfl rfl rfl rfl rfl (Nat.le_of_ble_eq_true rfl) ⟨rfl, rfl⟩ ?_
        refine s_X8_keepAct  hz23 ?_
        show gW _ _ _ _ _ 20 [.ref 57, .int a1, .int a2] [] (gKn n, gRf f g, z23.2.1, z23.2.2) _
        refine r_aload rfl rfl ?_
        refine r_const rfl (gcst 0) ?_
        refine r_iload rfl rfl ?_
        refine r_iload rfl rfl ?_
        obtain ⟨z24, hz24, hr⟩ := gbnd hr
        refine r_invv (a := 57) [.int (nI 0), .int a1, .int a2] rfl rfl rfl rfl rfl (Nat.le_of_ble_eq_true rfl) ⟨rfl, rfl⟩ ?_
        refine s_X8_driveOn  hz24 ?_
        show gW _ _ _ _ _ 25 [.ref 57, .int a1, .int a2] [.int z24.1] (gKn n, gRf f g, z24.2.1, z24.2.2) _
        refine r_iret rfl ?_
        cases hr
        exact hQ
      · rw [if_neg c22] at hr
        refine r_const rfl (v := -3) (by decide) ?_
        refine r_iret rfl ?_
        cases hr
        exact hQ
    · rw [if_neg c20] at hr
      refine gforget (ls := [.null, .null, .null]) ⟨(Or.inr (Or.inr ⟨rfl, _, rfl⟩)), ⟨(Or.inr (Or.inl ⟨rfl, _, rfl⟩)), ⟨(Or.inr (Or.inl ⟨rfl, _, rfl⟩)), trivial⟩⟩⟩ ?_
      exact t_X8_drive_8  hr hQ
def r_X8_open (I : Nat → Nat → Int32) (L : Nat → Nat → Int64) (a1 : Int32) : Option gRs := ((r_X8_isGate I L a1).bind (fun z4 => (if ¬ z4.1 = 0 then ((r_X8_keepAct z4.2.1 z4.2.2).bind (fun z6 => some (((gshr ((gu2 z6.2.1 63 (gx (nI 10)) ((z6.2.1 63 (gx (nI 10))) ^^^ (gshl (nI 1) a1))) 63 (gx (nI 10))) a1) &&& (nI 1)), (gu2 z6.2.1 63 (gx (nI 10)) ((z6.2.1 63 (gx (nI 10))) ^^^ (gshl (nI 1) a1))), z6.2.2))) else some ((-1 : Int32), z4.2.1, z4.2.2))))
set_option maxHeartbeats 4000000 in
set_option maxRecDepth 100000 in
theorem s_X8_open {n f g d : Nat} {Q : gP} {I : Nat → Nat → Int32} {L : Nat → Nat → Int64} {a1 : Int32} {z : gRs}  (hr : r_X8_open I L a1 = some z) (hQ : Q (some (.int z.1)) (gKn n, gRf f g, z.2.1, z.2.2)) : gR gM (d + 2) 137 [.ref 57, .int a1] (gKn n, gRf f g, I, L) Q := by
  unfold r_X8_open at hr
  show gW gM (d + 2) 0 0 k_X8_open 0 [.ref 57, .int a1] [] (gKn n, gRf f g, I, L) Q
  refine r_aload rfl rfl ?_
  refine r_iload rfl rfl ?_
  obtain ⟨z4, hz4, hr⟩ := gbnd hr
  refine r_invv (a := 57) [.int a1] rfl rfl rfl rfl rfl (Nat.le_of_ble_eq_true rfl) ⟨rfl, rfl⟩ ?_
  refine s_X8_isGate  hz4 ?_
  show gW _ _ _ _ _ 3 [.ref 57, .int a1] [.int z4.1] (gKn n, gRf f g, z4.2.1, z4.2.2) _
  refine r_if_ne 6 rfl rfl (fun c5 => ?_) (fun c5 => ?_)
  · rw [if_pos c5] at hr
    refine r_aload rfl rfl ?_
    obtain ⟨z6, hz6, hr⟩ := gbnd hr
    refine r_invv (a := 57) [] rfl rfl rfl rfl rfl (Nat.le_of_ble_eq_true rfl) ⟨rfl, rfl⟩ ?_
    refine s_X8_keepAct  hz6 ?_
    show gW _ _ _ _ _ 8 [.ref 57, .int a1] [] (gKn n, gRf f g, z6.2.1, z6.2.2) _
    refine r_aload rfl rfl ?_
    refine r_getR (c := 8) (k := 9) (v := 63) rfl rfl ⟨rfl, rfl⟩ rfl ?_
    refine r_const rfl (gcst 10) ?_
    refine r_dup2 rfl rfl rfl ?_
    refine r_iaload (n := 54) rfl rfl (vp_in_nI (n := 10) (N := 54) (by decide) (by decide)) ?_
    refine r_const rfl (gcst 1) ?_
    refine r_iload rfl rfl ?_
    refine r_ishl rfl ?_
    refine r_ixor rfl ?_
    refine r_iastore (n := 54) rfl rfl (vp_in_nI (n := 10) (N := 54) (by decide) (by decide)) (by decide) ?_
    refine r_aload rfl rfl ?_
    refine r_getR (c := 8) (k := 9) (v := 63) rfl rfl ⟨rfl, rfl⟩ rfl ?_
    refine r_const rfl (gcst 10) ?_
    refine r_iaload (n := 54) rfl rfl (vp_in_nI (n := 10) (N := 54) (by decide) (by decide)) ?_
    refine r_iload rfl rfl ?_
    refine r_ishr rfl ?_
    refine r_const rfl (gcst 1) ?_
    refine r_iand rfl ?_
    refine r_iret rfl ?_
    cases hr
    exact hQ
  · rw [if_neg c5] at hr
    refine r_const rfl (v := -1) (by decide) ?_
    refine r_iret rfl ?_
    cases hr
    exact hQ
def r_X8_oil (I : Nat → Nat → Int32) (L : Nat → Nat → Int64) (a1 : Int32) : Option gRs := ((r_X8_isGate I L a1).bind (fun z4 => (if ¬ z4.1 = 0 then ((r_X8_keepAct z4.2.1 z4.2.2).bind (fun z6 => some (((gshr ((gu2 z6.2.1 63 (gx (nI 11)) ((z6.2.1 63 (gx (nI 11))) ^^^ (gshl (nI 1) a1))) 63 (gx (nI 11))) a1) &&& (nI 1)), (gu2 z6.2.1 63 (gx (nI 11)) ((z6.2.1 63 (gx (nI 11))) ^^^ (gshl (nI 1) a1))), z6.2.2))) else some ((-1 : Int32), z4.2.1, z4.2.2))))
set_option maxHeartbeats 4000000 in
set_option maxRecDepth 100000 in
theorem s_X8_oil {n f g d : Nat} {Q : gP} {I : Nat → Nat → Int32} {L : Nat → Nat → Int64} {a1 : Int32} {z : gRs}  (hr : r_X8_oil I L a1 = some z) (hQ : Q (some (.int z.1)) (gKn n, gRf f g, z.2.1, z.2.2)) : gR gM (d + 2) 138 [.ref 57, .int a1] (gKn n, gRf f g, I, L) Q := by
  unfold r_X8_oil at hr
  show gW gM (d + 2) 0 0 k_X8_oil 0 [.ref 57, .int a1] [] (gKn n, gRf f g, I, L) Q
  refine r_aload rfl rfl ?_
  refine r_iload rfl rfl ?_
  obtain ⟨z4, hz4, hr⟩ := gbnd hr
  refine r_invv (a := 57) [.int a1] rfl rfl rfl rfl rfl (Nat.le_of_ble_eq_true rfl) ⟨rfl, rfl⟩ ?_
  refine s_X8_isGate  hz4 ?_
  show gW _ _ _ _ _ 3 [.ref 57, .int a1] [.int z4.1] (gKn n, gRf f g, z4.2.1, z4.2.2) _
  refine r_if_ne 6 rfl rfl (fun c5 => ?_) (fun c5 => ?_)
  · rw [if_pos c5] at hr
    refine r_aload rfl rfl ?_
    obtain ⟨z6, hz6, hr⟩ := gbnd hr
    refine r_invv (a := 57) [] rfl rfl rfl rfl rfl (Nat.le_of_ble_eq_true rfl) ⟨rfl, rfl⟩ ?_
    refine s_X8_keepAct  hz6 ?_
    show gW _ _ _ _ _ 8 [.ref 57, .int a1] [] (gKn n, gRf f g, z6.2.1, z6.2.2) _
    refine r_aload rfl rfl ?_
    refine r_getR (c := 8) (k := 9) (v := 63) rfl rfl ⟨rfl, rfl⟩ rfl ?_
    refine r_const rfl (gcst 11) ?_
    refine r_dup2 rfl rfl rfl ?_
    refine r_iaload (n := 54) rfl rfl (vp_in_nI (n := 11) (N := 54) (by decide) (by decide)) ?_
    refine r_const rfl (gcst 1) ?_
    refine r_iload rfl rfl ?_
    refine r_ishl rfl ?_
    refine r_ixor rfl ?_
    refine r_iastore (n := 54) rfl rfl (vp_in_nI (n := 11) (N := 54) (by decide) (by decide)) (by decide) ?_
    refine r_aload rfl rfl ?_
    refine r_getR (c := 8) (k := 9) (v := 63) rfl rfl ⟨rfl, rfl⟩ rfl ?_
    refine r_const rfl (gcst 11) ?_
    refine r_iaload (n := 54) rfl rfl (vp_in_nI (n := 11) (N := 54) (by decide) (by decide)) ?_
    refine r_iload rfl rfl ?_
    refine r_ishr rfl ?_
    refine r_const rfl (gcst 1) ?_
    refine r_iand rfl ?_
    refine r_iret rfl ?_
    cases hr
    exact hQ
  · rw [if_neg c5] at hr
    refine r_const rfl (v := -1) (by decide) ?_
    refine r_iret rfl ?_
    cases hr
    exact hQ
def r_X8_hang_20   (v1 : Int32) (s1 : Int32) (s2 : Int32) (s3 : Int32) (I : Nat → Nat → Int32) (L : Nat → Nat → Int64) : Option gRs := (if gvp s1 54 = true then (if gvp v1 54 = true then some (((gu2 I 63 (gx s1) (grem (s2 + s3) (nI 12))) 63 (gx v1)), (gu2 I 63 (gx s1) (grem (s2 + s3) (nI 12))), L) else none) else none)
set_option maxHeartbeats 4000000 in
set_option maxRecDepth 100000 in
theorem t_X8_hang_20 {n f g d : Nat} {Q : gP} {z : gRs}    {v1 : Int32} {s1 : Int32} {s2 : Int32} {s3 : Int32} {I : Nat → Nat → Int32} {L : Nat → Nat → Int64} (hr : r_X8_hang_20 v1 s1 s2 s3 I L = some z) (hQ : Q (some (.int z.1)) (gKn n, gRf f g, z.2.1, z.2.2)) : gW gM (d + 2) 0 0 k_X8_hang 20 [.ref 57, .int v1, .null] [.int s3, .int s2, .int s1, .ref 63] (gKn n, gRf f g, I, L) Q := by
  unfold r_X8_hang_20 at hr
  refine r_iadd rfl ?_
  refine r_const rfl (gcst 12) ?_
  refine r_irem rfl (nI_ne0 (n := 12) (by decide) (by decide)) ?_
  obtain ⟨b13, hr⟩ := gopt hr
  refine r_iastore (n := 54) rfl rfl (gvp_in b13) (by decide) ?_
  refine r_aload rfl rfl ?_
  refine r_getR (c := 8) (k := 9) (v := 63) rfl rfl ⟨rfl, rfl⟩ rfl ?_
  refine r_iload rfl rfl ?_
  obtain ⟨b14, hr⟩ := gopt hr
  refine r_iaload (n := 54) rfl rfl (gvp_in b14) ?_
  refine r_iret rfl ?_
  cases hr
  exact hQ
def r_X8_hang (I : Nat → Nat → Int32) (L : Nat → Nat → Int64) (a1 : Int32) (a2 : Int32) : Option gRs := ((r_X8_isGate I L a1).bind (fun z15 => (if ¬ z15.1 = 0 then ((r_X8_keepAct z15.2.1 z15.2.2).bind (fun z17 => (if gvp a1 54 = true then (if a2 = 0 then (r_X8_hang_20 a1 a1 (z17.2.1 63 (gx a1)) (nI 11) z17.2.1 z17.2.2) else (r_X8_hang_20 a1 a1 (z17.2.1 63 (gx a1)) (nI 1) z17.2.1 z17.2.2)) else none))) else some ((-1 : Int32), z15.2.1, z15.2.2))))
set_option maxHeartbeats 4000000 in
set_option maxRecDepth 100000 in
theorem s_X8_hang {n f g d : Nat} {Q : gP} {I : Nat → Nat → Int32} {L : Nat → Nat → Int64} {a1 : Int32} {a2 : Int32} {z : gRs}  (hr : r_X8_hang I L a1 a2 = some z) (hQ : Q (some (.int z.1)) (gKn n, gRf f g, z.2.1, z.2.2)) : gR gM (d + 2) 139 [.ref 57, .int a1, .int a2] (gKn n, gRf f g, I, L) Q := by
  unfold r_X8_hang at hr
  show gW gM (d + 2) 0 0 k_X8_hang 0 [.ref 57, .int a1, .int a2] [] (gKn n, gRf f g, I, L) Q
  refine r_aload rfl rfl ?_
  refine r_iload rfl rfl ?_
  obtain ⟨z15, hz15, hr⟩ := gbnd hr
  refine r_invv (a := 57) [.int a1] rfl rfl rfl rfl rfl (Nat.le_of_ble_eq_true rfl) ⟨rfl, rfl⟩ ?_
  refine s_X8_isGate  hz15 ?_
  show gW _ _ _ _ _ 3 [.ref 57, .int a1, .int a2] [.int z15.1] (gKn n, gRf f g, z15.2.1, z15.2.2) _
  refine r_if_ne 6 rfl rfl (fun c16 => ?_) (fun c16 => ?_)
  · rw [if_pos c16] at hr
    refine r_aload rfl rfl ?_
    obtain ⟨z17, hz17, hr⟩ := gbnd hr
    refine r_invv (a := 57) [] rfl rfl rfl rfl rfl (Nat.le_of_ble_eq_true rfl) ⟨rfl, rfl⟩ ?_
    refine s_X8_keepAct  hz17 ?_
    show gW _ _ _ _ _ 8 [.ref 57, .int a1, .int a2] [] (gKn n, gRf f g, z17.2.1, z17.2.2) _
    refine r_aload rfl rfl ?_
    refine r_getR (c := 8) (k := 9) (v := 63) rfl rfl ⟨rfl, rfl⟩ rfl ?_
    refine r_iload rfl rfl ?_
    refine r_aload rfl rfl ?_
    refine r_getR (c := 8) (k := 9) (v := 63) rfl rfl ⟨rfl, rfl⟩ rfl ?_
    refine r_iload rfl rfl ?_
    obtain ⟨b18, hr⟩ := gopt hr
    refine r_iaload (n := 54) rfl rfl (gvp_in b18) ?_
    refine r_iload rfl rfl ?_
    refine r_if_eq 19 rfl rfl (fun c19 => ?_) (fun c19 => ?_)
    · rw [if_pos c19] at hr
      refine r_const rfl (gcst 11) ?_
      refine gforget (ls := [.ref 57, .int a1, .null]) ⟨(Or.inl rfl), ⟨(Or.inl rfl), ⟨(Or.inr (Or.inl ⟨rfl, _, rfl⟩)), trivial⟩⟩⟩ ?_
      exact t_X8_hang_20  hr hQ
    · rw [if_neg c19] at hr
      refine r_const rfl (gcst 1) ?_
      refine r_goto 20 rfl rfl ?_
      refine gforget (ls := [.ref 57, .int a1, .null]) ⟨(Or.inl rfl), ⟨(Or.inl rfl), ⟨(Or.inr (Or.inl ⟨rfl, _, rfl⟩)), trivial⟩⟩⟩ ?_
      exact t_X8_hang_20  hr hQ
  · rw [if_neg c16] at hr
    refine r_const rfl (v := -1) (by decide) ?_
    refine r_iret rfl ?_
    cases hr
    exact hQ
def r_X8_turnOut (I : Nat → Nat → Int32) (L : Nat → Nat → Int64) (a1 : Int32) : Option gRs := ((r_X8_isBeast I L a1).bind (fun z6 => (if ¬ z6.1 = 0 then (if ¬ (f_X8_bit z6.2.1 z6.2.2 (z6.2.1 63 (gx (nI 12))) a1) = 0 then ((r_X8_keepAct z6.2.1 z6.2.2).bind (fun z9 => ((r_X8_ones (gu2 z9.2.1 63 (gx (nI 12)) ((z9.2.1 63 (gx (nI 12))) &&& ((gshl (nI 1) a1) ^^^ (-1 : Int32)))) z9.2.2 ((gu2 z9.2.1 63 (gx (nI 12)) ((z9.2.1 63 (gx (nI 12))) &&& ((gshl (nI 1) a1) ^^^ (-1 : Int32)))) 63 (gx (nI 12)))).bind (fun z10 => some (z10.1, z10.2.1, z10.2.2))))) else some ((-3 : Int32), z6.2.1, z6.2.2)) else some ((-1 : Int32), z6.2.1, z6.2.2))))
set_option maxHeartbeats 4000000 in
set_option maxRecDepth 100000 in
theorem s_X8_turnOut {n f g d : Nat} {Q : gP} {I : Nat → Nat → Int32} {L : Nat → Nat → Int64} {a1 : Int32} {z : gRs}  (hr : r_X8_turnOut I L a1 = some z) (hQ : Q (some (.int z.1)) (gKn n, gRf f g, z.2.1, z.2.2)) : gR gM (d + 2) 140 [.ref 57, .int a1] (gKn n, gRf f g, I, L) Q := by
  unfold r_X8_turnOut at hr
  show gW gM (d + 2) 0 0 k_X8_turnOut 0 [.ref 57, .int a1] [] (gKn n, gRf f g, I, L) Q
  refine r_aload rfl rfl ?_
  refine r_iload rfl rfl ?_
  obtain ⟨z6, hz6, hr⟩ := gbnd hr
  refine r_invv (a := 57) [.int a1] rfl rfl rfl rfl rfl (Nat.le_of_ble_eq_true rfl) ⟨rfl, rfl⟩ ?_
  refine s_X8_isBeast  hz6 ?_
  show gW _ _ _ _ _ 3 [.ref 57, .int a1] [.int z6.1] (gKn n, gRf f g, z6.2.1, z6.2.2) _
  refine r_if_ne 6 rfl rfl (fun c7 => ?_) (fun c7 => ?_)
  · rw [if_pos c7] at hr
    refine r_aload rfl rfl ?_
    refine r_getR (c := 8) (k := 9) (v := 63) rfl rfl ⟨rfl, rfl⟩ rfl ?_
    refine r_const rfl (gcst 12) ?_
    refine r_iaload (n := 54) rfl rfl (vp_in_nI (n := 12) (N := 54) (by decide) (by decide)) ?_
    refine r_iload rfl rfl ?_
    refine r_invs [.int (z6.2.1 63 (gx (nI 12))), .int a1] rfl rfl rfl rfl (Nat.le_of_ble_eq_true rfl) ⟨rfl, rfl⟩ ?_
    refine s_X8_bit  ?_
    show gW _ _ _ _ _ 12 [.ref 57, .int a1] [.int (f_X8_bit z6.2.1 z6.2.2 (z6.2.1 63 (gx (nI 12))) a1)] (gKn n, gRf f g, z6.2.1, z6.2.2) _
    refine r_if_ne 15 rfl rfl (fun c8 => ?_) (fun c8 => ?_)
    · rw [if_pos c8] at hr
      refine r_aload rfl rfl ?_
      obtain ⟨z9, hz9, hr⟩ := gbnd hr
      refine r_invv (a := 57) [] rfl rfl rfl rfl rfl (Nat.le_of_ble_eq_true rfl) ⟨rfl, rfl⟩ ?_
      refine s_X8_keepAct  hz9 ?_
      show gW _ _ _ _ _ 17 [.ref 57, .int a1] [] (gKn n, gRf f g, z9.2.1, z9.2.2) _
      refine r_aload rfl rfl ?_
      refine r_getR (c := 8) (k := 9) (v := 63) rfl rfl ⟨rfl, rfl⟩ rfl ?_
      refine r_const rfl (gcst 12) ?_
      refine r_dup2 rfl rfl rfl ?_
      refine r_iaload (n := 54) rfl rfl (vp_in_nI (n := 12) (N := 54) (by decide) (by decide)) ?_
      refine r_const rfl (gcst 1) ?_
      refine r_iload rfl rfl ?_
      refine r_ishl rfl ?_
      refine r_const rfl (v := -1) (by decide) ?_
      refine r_ixor rfl ?_
      refine r_iand rfl ?_
      refine r_iastore (n := 54) rfl rfl (vp_in_nI (n := 12) (N := 54) (by decide) (by decide)) (by decide) ?_
      refine r_aload rfl rfl ?_
      refine r_getR (c := 8) (k := 9) (v := 63) rfl rfl ⟨rfl, rfl⟩ rfl ?_
      refine r_const rfl (gcst 12) ?_
      refine r_iaload (n := 54) rfl rfl (vp_in_nI (n := 12) (N := 54) (by decide) (by decide)) ?_
      obtain ⟨z10, hz10, hr⟩ := gbnd hr
      refine r_invs [.int ((gu2 z9.2.1 63 (gx (nI 12)) ((z9.2.1 63 (gx (nI 12))) &&& ((gshl (nI 1) a1) ^^^ (-1 : Int32)))) 63 (gx (nI 12)))] rfl rfl rfl rfl (Nat.le_of_ble_eq_true rfl) ⟨rfl, rfl⟩ ?_
      refine s_X8_ones  hz10 ?_
      show gW _ _ _ _ _ 34 [.ref 57, .int a1] [.int z10.1] (gKn n, gRf f g, z10.2.1, z10.2.2) _
      refine r_iret rfl ?_
      cases hr
      exact hQ
    · rw [if_neg c8] at hr
      refine r_const rfl (v := -3) (by decide) ?_
      refine r_iret rfl ?_
      cases hr
      exact hQ
  · rw [if_neg c7] at hr
    refine r_const rfl (v := -1) (by decide) ?_
    refine r_iret rfl ?_
    cases hr
    exact hQ
def r_X8_frost (I : Nat → Nat → Int32) (L : Nat → Nat → Int64)  : Option gRs := ((r_X8_keepAct I L).bind (fun z2 => some (((gu2 z2.2.1 63 (gx (nI 13)) ((nI 1) - (z2.2.1 63 (gx (nI 13))))) 63 (gx (nI 13))), (gu2 z2.2.1 63 (gx (nI 13)) ((nI 1) - (z2.2.1 63 (gx (nI 13))))), z2.2.2)))
set_option maxHeartbeats 4000000 in
set_option maxRecDepth 100000 in
theorem s_X8_frost {n f g d : Nat} {Q : gP} {I : Nat → Nat → Int32} {L : Nat → Nat → Int64}  {z : gRs}  (hr : r_X8_frost I L  = some z) (hQ : Q (some (.int z.1)) (gKn n, gRf f g, z.2.1, z.2.2)) : gR gM (d + 1) 141 [.ref 57] (gKn n, gRf f g, I, L) Q := by
  unfold r_X8_frost at hr
  show gW gM (d + 1) 0 0 k_X8_frost 0 [.ref 57] [] (gKn n, gRf f g, I, L) Q
  refine r_aload rfl rfl ?_
  obtain ⟨z2, hz2, hr⟩ := gbnd hr
  refine r_invv (a := 57) [] rfl rfl rfl rfl rfl (Nat.le_of_ble_eq_true rfl) ⟨rfl, rfl⟩ ?_
  refine s_X8_keepAct  hz2 ?_
  show gW _ _ _ _ _ 2 [.ref 57] [] (gKn n, gRf f g, z2.2.1, z2.2.2) _
  refine r_aload rfl rfl ?_
  refine r_getR (c := 8) (k := 9) (v := 63) rfl rfl ⟨rfl, rfl⟩ rfl ?_
  refine r_const rfl (gcst 13) ?_
  refine r_const rfl (gcst 1) ?_
  refine r_aload rfl rfl ?_
  refine r_getR (c := 8) (k := 9) (v := 63) rfl rfl ⟨rfl, rfl⟩ rfl ?_
  refine r_const rfl (gcst 13) ?_
  refine r_iaload (n := 54) rfl rfl (vp_in_nI (n := 13) (N := 54) (by decide) (by decide)) ?_
  refine r_isub rfl ?_
  refine r_iastore (n := 54) rfl rfl (vp_in_nI (n := 13) (N := 54) (by decide) (by decide)) (by decide) ?_
  refine r_aload rfl rfl ?_
  refine r_getR (c := 8) (k := 9) (v := 63) rfl rfl ⟨rfl, rfl⟩ rfl ?_
  refine r_const rfl (gcst 13) ?_
  refine r_iaload (n := 54) rfl rfl (vp_in_nI (n := 13) (N := 54) (by decide) (by decide)) ?_
  refine r_iret rfl ?_
  cases hr
  exact hQ
def r_X8_undo_21   : Nat → Int32 → (Nat → Nat → Int32) → (Nat → Nat → Int64) → Option gRs
  | 0, _, _, _ => none
  | m + 1, v1, I, L => (if (nI 27) ≤ v1 then some ((I 57 25), I, L) else (if gvp (((nI 27) * (I 57 26)) + v1) 378 = true then (if gvp v1 54 = true then (r_X8_undo_21  m (v1 + (nI 1)) (gu2 I 63 (gx v1) (I 70 (gx (((nI 27) * (I 57 26)) + v1)))) L) else none) else none))
set_option maxHeartbeats 4000000 in
set_option maxRecDepth 100000 in
theorem t_X8_undo_21 {n f g d : Nat} {Q : gP} {z : gRs}    : ∀ {m : Nat} {v1 : Int32} {I : Nat → Nat → Int32} {L : Nat → Nat → Int64}, r_X8_undo_21 m v1 I L = some z → Q (some (.int z.1)) (gKn n, gRf f g, z.2.1, z.2.2) → gW gM (d + 0) 0 0 k_X8_undo 21 [.ref 57, .int v1] [] (gKn n, gRf f g, I, L) Q := by
  intro m
  induction m with
  | zero =>
    intro v1 I L hr _
    cases hr
  | succ m ih =>
    intro v1 I L hr hQ
    have hK21 : ∀ v1 I L, r_X8_undo_21 m v1 I L = some z → gW gM (d + 0) 0 0 k_X8_undo 21 [.ref 57, .int v1] [] (gKn n, gRf f g, I, L) Q := fun v1 I L hr => ih hr hQ
    unfold r_X8_undo_21 at hr
    refine r_iload rfl rfl ?_
    refine r_const rfl (gcst 27) ?_
    refine r_icmp_ge 39 rfl rfl (fun c5 => ?_) (fun c5 => ?_)
    · rw [if_pos c5] at hr
      refine r_aload rfl rfl ?_
      refine r_getI (c := 8) (k := 25) rfl rfl ⟨rfl, rfl⟩ ?_
      refine r_iret rfl ?_
      cases hr
      exact hQ
    · rw [if_neg c5] at hr
      refine r_aload rfl rfl ?_
      refine r_getR (c := 8) (k := 9) (v := 63) rfl rfl ⟨rfl, rfl⟩ rfl ?_
      refine r_iload rfl rfl ?_
      refine r_aload rfl rfl ?_
      refine r_getR (c := 8) (k := 27) (v := 70) rfl rfl ⟨rfl, rfl⟩ rfl ?_
      refine r_const rfl (gcst 27) ?_
      refine r_aload rfl rfl ?_
      refine r_getI (c := 8) (k := 26) rfl rfl ⟨rfl, rfl⟩ ?_
      refine r_imul rfl ?_
      refine r_iload rfl rfl ?_
      refine r_iadd rfl ?_
      obtain ⟨b6, hr⟩ := gopt hr
      refine r_iaload (n := 378) rfl rfl (gvp_in b6) ?_
      obtain ⟨b7, hr⟩ := gopt hr
      refine r_iastore (n := 54) rfl rfl (gvp_in b7) (by decide) ?_
      refine r_iinc (y := (v1 + (nI 1))) [.ref 57, .int (v1 + (nI 1))] rfl rfl rfl (ginc _ 1) rfl ?_
      refine r_goto 21 rfl rfl ?_
      exact hK21 _ _ _ hr
def r_X8_undo (I : Nat → Nat → Int32) (L : Nat → Nat → Int64)  : Option gRs := (if ¬ (I 57 25) = 0 then (r_X8_undo_21 100 (nI 0) (gu2 (gu2 I 57 25 ((I 57 25) - (nI 1))) 57 26 (grem (((gu2 I 57 25 ((I 57 25) - (nI 1))) 57 26) + (nI 13)) (nI 14))) L) else some ((-3 : Int32), I, L))
set_option maxHeartbeats 4000000 in
set_option maxRecDepth 100000 in
theorem s_X8_undo {n f g d : Nat} {Q : gP} {I : Nat → Nat → Int32} {L : Nat → Nat → Int64}  {z : gRs}  (hr : r_X8_undo I L  = some z) (hQ : Q (some (.int z.1)) (gKn n, gRf f g, z.2.1, z.2.2)) : gR gM (d + 0) 142 [.ref 57] (gKn n, gRf f g, I, L) Q := by
  unfold r_X8_undo at hr
  show gW gM (d + 0) 0 0 k_X8_undo 0 [.ref 57, .null] [] (gKn n, gRf f g, I, L) Q
  refine r_aload rfl rfl ?_
  refine r_getI (c := 8) (k := 25) rfl rfl ⟨rfl, rfl⟩ ?_
  refine r_if_ne 5 rfl rfl (fun c8 => ?_) (fun c8 => ?_)
  · rw [if_pos c8] at hr
    refine r_aload rfl rfl ?_
    refine r_dup rfl rfl ?_
    refine r_getI (c := 8) (k := 25) rfl rfl ⟨rfl, rfl⟩ ?_
    refine r_const rfl (gcst 1) ?_
    refine r_isub rfl ?_
    refine r_putI (c := 8) (k := 25) rfl rfl ⟨rfl, rfl⟩ ?_
    refine r_aload rfl rfl ?_
    refine r_aload rfl rfl ?_
    refine r_getI (c := 8) (k := 26) rfl rfl ⟨rfl, rfl⟩ ?_
    refine r_const rfl (gcst 13) ?_
    refine r_iadd rfl ?_
    refine r_const rfl (gcst 14) ?_
    refine r_irem rfl (nI_ne0 (n := 14) (by decide) (by decide)) ?_
    refine r_putI (c := 8) (k := 26) rfl rfl ⟨rfl, rfl⟩ ?_
    refine r_const rfl (gcst 0) ?_
    refine r_istore [.ref 57, .int (nI 0)] rfl rfl (Nat.le_of_ble_eq_true rfl) rfl ?_
    exact t_X8_undo_21  hr hQ
  · rw [if_neg c8] at hr
    refine r_const rfl (v := -3) (by decide) ?_
    refine r_iret rfl ?_
    cases hr
    exact hQ
def r_X8_fitOn_26  (K4 : Int32 → Int32 → Int32 → Int32 → (Nat → Nat → Int32) → (Nat → Nat → Int64) → Option gRs) (v1 : Int32) (v2 : Int32) (v4 : Int32) (s0 : Int32) (s1 : Int32) (I : Nat → Nat → Int32) (L : Nat → Nat → Int64) : Option gRs := (K4 v1 v2 (s0 + s1) (v4 + (nI 1)) I L)
set_option maxHeartbeats 4000000 in
set_option maxRecDepth 100000 in
theorem t_X8_fitOn_26 {n f g d : Nat} {Q : gP} {z : gRs}   {K4 : Int32 → Int32 → Int32 → Int32 → (Nat → Nat → Int32) → (Nat → Nat → Int64) → Option gRs} (hK4 : ∀ v1 v2 v3 v4 I L, K4 v1 v2 v3 v4 I L = some z → gW gM (d + 1) 0 0 k_X8_fitOn 4 [.ref 57, .int v1, .int v2, .int v3, .int v4] [] (gKn n, gRf f g, I, L) Q) {v1 : Int32} {v2 : Int32} {v4 : Int32} {s0 : Int32} {s1 : Int32} {I : Nat → Nat → Int32} {L : Nat → Nat → Int64} (hr : r_X8_fitOn_26 K4 v1 v2 v4 s0 s1 I L = some z) (hQ : Q (some (.int z.1)) (gKn n, gRf f g, z.2.1, z.2.2)) : gW gM (d + 1) 0 0 k_X8_fitOn 26 [.ref 57, .int v1, .int v2, .null, .int v4] [.int s1, .int s0] (gKn n, gRf f g, I, L) Q := by
  unfold r_X8_fitOn_26 at hr
  refine r_iadd rfl ?_
  refine r_istore [.ref 57, .int v1, .int v2, .int (s0 + s1), .int v4] rfl rfl (Nat.le_of_ble_eq_true rfl) rfl ?_
  refine r_iinc (y := (v4 + (nI 1))) [.ref 57, .int v1, .int v2, .int (s0 + s1), .int (v4 + (nI 1))] rfl rfl rfl (ginc _ 1) rfl ?_
  refine r_goto 4 rfl rfl ?_
  exact hK4 _ _ _ _ _ _ hr
def r_X8_fitOn_4   : Nat → Int32 → Int32 → Int32 → Int32 → (Nat → Nat → Int32) → (Nat → Nat → Int64) → Option gRs
  | 0, _, _, _, _, _, _ => none
  | m + 1, v1, v2, v3, v4, I, L => (if (nI 4) ≤ v4 then some (v3, I, L) else ((r_X8_sungOn I L v1 ((nI 3) - v4)).bind (fun z10 => (if gvp (((nI 4) * v2) + v4) 8 = true then (if ¬ z10.1 = (z10.2.1 62 (gx (((nI 4) * v2) + v4))) then (r_X8_fitOn_26 (r_X8_fitOn_4  m) v1 v2 v4 v3 (nI 0) z10.2.1 z10.2.2) else (r_X8_fitOn_26 (r_X8_fitOn_4  m) v1 v2 v4 v3 (nI 1) z10.2.1 z10.2.2)) else none))))
set_option maxHeartbeats 4000000 in
set_option maxRecDepth 100000 in
theorem t_X8_fitOn_4 {n f g d : Nat} {Q : gP} {z : gRs}    : ∀ {m : Nat} {v1 : Int32} {v2 : Int32} {v3 : Int32} {v4 : Int32} {I : Nat → Nat → Int32} {L : Nat → Nat → Int64}, r_X8_fitOn_4 m v1 v2 v3 v4 I L = some z → Q (some (.int z.1)) (gKn n, gRf f g, z.2.1, z.2.2) → gW gM (d + 1) 0 0 k_X8_fitOn 4 [.ref 57, .int v1, .int v2, .int v3, .int v4] [] (gKn n, gRf f g, I, L) Q := by
  intro m
  induction m with
  | zero =>
    intro v1 v2 v3 v4 I L hr _
    cases hr
  | succ m ih =>
    intro v1 v2 v3 v4 I L hr hQ
    have hK4 : ∀ v1 v2 v3 v4 I L, r_X8_fitOn_4 m v1 v2 v3 v4 I L = some z → gW gM (d + 1) 0 0 k_X8_fitOn 4 [.ref 57, .int v1, .int v2, .int v3, .int v4] [] (gKn n, gRf f g, I, L) Q := fun v1 v2 v3 v4 I L hr => ih hr hQ
    unfold r_X8_fitOn_4 at hr
    refine r_iload rfl rfl ?_
    refine r_const rfl (gcst 4) ?_
    refine r_icmp_ge 30 rfl rfl (fun c9 => ?_) (fun c9 => ?_)
    · rw [if_pos c9] at hr
      refine r_iload rfl rfl ?_
      refine r_iret rfl ?_
      cases hr
      exact hQ
    · rw [if_neg c9] at hr
      refine r_iload rfl rfl ?_
      refine r_aload rfl rfl ?_
      refine r_iload rfl rfl ?_
      refine r_const rfl (gcst 3) ?_
      refine r_iload rfl rfl ?_
      refine r_isub rfl ?_
      obtain ⟨z10, hz10, hr⟩ := gbnd hr
      refine r_invv (a := 57) [.int v1, .int ((nI 3) - v4)] rfl rfl rfl rfl rfl (Nat.le_of_ble_eq_true rfl) ⟨rfl, rfl⟩ ?_
      refine s_X8_sungOn  hz10 ?_
      show gW _ _ _ _ _ 14 [.ref 57, .int v1, .int v2, .int v3, .int v4] [.int z10.1, .int v3] (gKn n, gRf f g, z10.2.1, z10.2.2) _
      refine r_aload rfl rfl ?_
      refine r_getR (c := 8) (k := 8) (v := 62) rfl rfl ⟨rfl, rfl⟩ rfl ?_
      refine r_const rfl (gcst 4) ?_
      refine r_iload rfl rfl ?_
      refine r_imul rfl ?_
      refine r_iload rfl rfl ?_
      refine r_iadd rfl ?_
      obtain ⟨b11, hr⟩ := gopt hr
      refine r_iaload (n := 8) rfl rfl (gvp_in b11) ?_
      refine r_icmp_ne 25 rfl rfl (fun c12 => ?_) (fun c12 => ?_)
      · rw [if_pos c12] at hr
        refine r_const rfl (gcst 0) ?_
        refine gforget (ls := [.ref 57, .int v1, .int v2, .null, .int v4]) ⟨(Or.inl rfl), ⟨(Or.inl rfl), ⟨(Or.inl rfl), ⟨(Or.inr (Or.inl ⟨rfl, _, rfl⟩)), ⟨(Or.inl rfl), trivial⟩⟩⟩⟩⟩ ?_
        exact t_X8_fitOn_26 hK4 hr hQ
      · rw [if_neg c12] at hr
        refine r_const rfl (gcst 1) ?_
        refine r_goto 26 rfl rfl ?_
        refine gforget (ls := [.ref 57, .int v1, .int v2, .null, .int v4]) ⟨(Or.inl rfl), ⟨(Or.inl rfl), ⟨(Or.inl rfl), ⟨(Or.inr (Or.inl ⟨rfl, _, rfl⟩)), ⟨(Or.inl rfl), trivial⟩⟩⟩⟩⟩ ?_
        exact t_X8_fitOn_26 hK4 hr hQ
def r_X8_fitOn (I : Nat → Nat → Int32) (L : Nat → Nat → Int64) (a1 : Int32) (a2 : Int32) : Option gRs := (r_X8_fitOn_4 100 a1 a2 (nI 0) (nI 0) I L)
set_option maxHeartbeats 4000000 in
set_option maxRecDepth 100000 in
theorem s_X8_fitOn {n f g d : Nat} {Q : gP} {I : Nat → Nat → Int32} {L : Nat → Nat → Int64} {a1 : Int32} {a2 : Int32} {z : gRs}  (hr : r_X8_fitOn I L a1 a2 = some z) (hQ : Q (some (.int z.1)) (gKn n, gRf f g, z.2.1, z.2.2)) : gR gM (d + 1) 143 [.ref 57, .int a1, .int a2] (gKn n, gRf f g, I, L) Q := by
  unfold r_X8_fitOn at hr
  show gW gM (d + 1) 0 0 k_X8_fitOn 0 [.ref 57, .int a1, .int a2, .null, .null] [] (gKn n, gRf f g, I, L) Q
  refine r_const rfl (gcst 0) ?_
  refine r_istore [.ref 57, .int a1, .int a2, .int (nI 0), .null] rfl rfl (Nat.le_of_ble_eq_true rfl) rfl ?_
  refine r_const rfl (gcst 0) ?_
  refine r_istore [.ref 57, .int a1, .int a2, .int (nI 0), .int (nI 0)] rfl rfl (Nat.le_of_ble_eq_true rfl) rfl ?_
  exact t_X8_fitOn_4  hr hQ
def r_X8_fit_10   (s0 : Int32) (I : Nat → Nat → Int32) (L : Nat → Nat → Int64) : Option gRs := some (s0, I, L)
set_option maxHeartbeats 4000000 in
set_option maxRecDepth 100000 in
theorem t_X8_fit_10 {n f g d : Nat} {Q : gP} {z : gRs}    {s0 : Int32} {I : Nat → Nat → Int32} {L : Nat → Nat → Int64} (hr : r_X8_fit_10 s0 I L = some z) (hQ : Q (some (.int z.1)) (gKn n, gRf f g, z.2.1, z.2.2)) : gW gM (d + 2) 0 0 k_X8_fit 10 [.null, .null] [.int s0] (gKn n, gRf f g, I, L) Q := by
  unfold r_X8_fit_10 at hr
  refine r_iret rfl ?_
  cases hr
  exact hQ
def r_X8_fit (I : Nat → Nat → Int32) (L : Nat → Nat → Int64) (a1 : Int32) : Option gRs := ((r_X8_isVerse I L a1).bind (fun z7 => (if z7.1 = 0 then (r_X8_fit_10 (-1 : Int32) z7.2.1 z7.2.2) else ((r_X8_fitOn z7.2.1 z7.2.2 (nI 0) a1).bind (fun z9 => (r_X8_fit_10 z9.1 z9.2.1 z9.2.2))))))
set_option maxHeartbeats 4000000 in
set_option maxRecDepth 100000 in
theorem s_X8_fit {n f g d : Nat} {Q : gP} {I : Nat → Nat → Int32} {L : Nat → Nat → Int64} {a1 : Int32} {z : gRs}  (hr : r_X8_fit I L a1 = some z) (hQ : Q (some (.int z.1)) (gKn n, gRf f g, z.2.1, z.2.2)) : gR gM (d + 2) 144 [.ref 57, .int a1] (gKn n, gRf f g, I, L) Q := by
  unfold r_X8_fit at hr
  show gW gM (d + 2) 0 0 k_X8_fit 0 [.ref 57, .int a1] [] (gKn n, gRf f g, I, L) Q
  refine r_aload rfl rfl ?_
  refine r_iload rfl rfl ?_
  obtain ⟨z7, hz7, hr⟩ := gbnd hr
  refine r_invv (a := 57) [.int a1] rfl rfl rfl rfl rfl (Nat.le_of_ble_eq_true rfl) ⟨rfl, rfl⟩ ?_
  refine s_X8_isVerse  hz7 ?_
  show gW _ _ _ _ _ 3 [.ref 57, .int a1] [.int z7.1] (gKn n, gRf f g, z7.2.1, z7.2.2) _
  refine r_if_eq 9 rfl rfl (fun c8 => ?_) (fun c8 => ?_)
  · rw [if_pos c8] at hr
    refine r_const rfl (v := -1) (by decide) ?_
    refine gforget (ls := [.null, .null]) ⟨(Or.inr (Or.inr ⟨rfl, _, rfl⟩)), ⟨(Or.inr (Or.inl ⟨rfl, _, rfl⟩)), trivial⟩⟩ ?_
    exact t_X8_fit_10  hr hQ
  · rw [if_neg c8] at hr
    refine r_aload rfl rfl ?_
    refine r_const rfl (gcst 0) ?_
    refine r_iload rfl rfl ?_
    obtain ⟨z9, hz9, hr⟩ := gbnd hr
    refine r_invv (a := 57) [.int (nI 0), .int a1] rfl rfl rfl rfl rfl (Nat.le_of_ble_eq_true rfl) ⟨rfl, rfl⟩ ?_
    refine s_X8_fitOn  hz9 ?_
    show gW _ _ _ _ _ 8 [.ref 57, .int a1] [.int z9.1] (gKn n, gRf f g, z9.2.1, z9.2.2) _
    refine r_goto 10 rfl rfl ?_
    refine gforget (ls := [.null, .null]) ⟨(Or.inr (Or.inr ⟨rfl, _, rfl⟩)), ⟨(Or.inr (Or.inl ⟨rfl, _, rfl⟩)), trivial⟩⟩ ?_
    exact t_X8_fit_10  hr hQ
def f_X8_isSweet (I : Nat → Nat → Int32) (L : Nat → Nat → Int64) (a0 : Int32) : Int32 := (if a0 = 0 then (nI 1) else (if ¬ (f_X8_in I L (Int32.toInt64 a0) (lN 3) (lN 5)) = 0 then (nI 1) else (if (f_X8_in I L (Int32.toInt64 a0) (lN 7) (lN 9)) = 0 then (nI 0) else (nI 1))))
set_option maxHeartbeats 4000000 in
set_option maxRecDepth 100000 in
theorem s_X8_isSweet {n f g d : Nat} {Q : gP} {I : Nat → Nat → Int32} {L : Nat → Nat → Int64} {a0 : Int32}  (hQ : Q (some (.int (f_X8_isSweet I L a0))) (gKn n, gRf f g, I, L)) : gR gM (d + 1) 145 [.int a0] (gKn n, gRf f g, I, L) Q := by
  unfold f_X8_isSweet at hQ
  show gW gM (d + 1) 0 0 k_X8_isSweet 0 [.int a0] [] (gKn n, gRf f g, I, L) Q
  refine r_iload rfl rfl ?_
  have j6 : gW gM (d + 1) 0 0 k_X8_isSweet 17 [.int a0] [.int (if a0 = 0 then (nI 1) else (if ¬ (f_X8_in I L (Int32.toInt64 a0) (lN 3) (lN 5)) = 0 then (nI 1) else (if (f_X8_in I L (Int32.toInt64 a0) (lN 7) (lN 9)) = 0 then (nI 0) else (nI 1))))] (gKn n, gRf f g, I, L) Q := by
    refine r_zret rfl (by split <;> (try split) <;> (try split) <;> decide) ?_
    first | exact hQ | simpa only [if_true] using hQ
  refine r_if_eq 14 rfl rfl (fun c1 => ?_) (fun c1 => ?_)
  · try simp only [if_pos c1] at hQ
    refine r_const rfl (gcst 1) ?_
    refine r_goto 17 rfl rfl ?_
    simpa only [if_pos c1] using j6
  · try simp only [if_neg c1] at hQ
    refine r_iload rfl rfl ?_
    refine r_i2l rfl ?_
    refine r_lconst (v := lN 3) rfl rfl ?_
    refine r_lconst (v := lN 5) rfl rfl ?_
    refine r_invs [.long (Int32.toInt64 a0), .long (lN 3), .long (lN 5)] rfl rfl rfl rfl (Nat.le_of_ble_eq_true rfl) ⟨rfl, rfl⟩ ?_
    refine s_X8_in  ?_
    show gW _ _ _ _ _ 7 [.int a0] [.int (f_X8_in I L (Int32.toInt64 a0) (lN 3) (lN 5))] (gKn n, gRf f g, I, L) _
    refine r_if_ne 14 rfl rfl (fun c3 => ?_) (fun c3 => ?_)
    · try simp only [if_pos c3] at hQ
      refine r_const rfl (gcst 1) ?_
      refine r_goto 17 rfl rfl ?_
      simpa only [if_neg c1, if_pos c3] using j6
    · try simp only [if_neg c3] at hQ
      refine r_iload rfl rfl ?_
      refine r_i2l rfl ?_
      refine r_lconst (v := lN 7) rfl rfl ?_
      refine r_lconst (v := lN 9) rfl rfl ?_
      refine r_invs [.long (Int32.toInt64 a0), .long (lN 7), .long (lN 9)] rfl rfl rfl rfl (Nat.le_of_ble_eq_true rfl) ⟨rfl, rfl⟩ ?_
      refine s_X8_in  ?_
      show gW _ _ _ _ _ 13 [.int a0] [.int (f_X8_in I L (Int32.toInt64 a0) (lN 7) (lN 9))] (gKn n, gRf f g, I, L) _
      refine r_if_eq 16 rfl rfl (fun c5 => ?_) (fun c5 => ?_)
      · try simp only [if_pos c5] at hQ
        refine r_const rfl (gcst 0) ?_
        simpa only [if_neg c1, if_neg c3, if_pos c5] using j6
      · try simp only [if_neg c5] at hQ
        refine r_const rfl (gcst 1) ?_
        refine r_goto 17 rfl rfl ?_
        simpa only [if_neg c1, if_neg c3, if_neg c5] using j6
def r_X8_harmonyOf_43  (K4 : Int32 → Int32 → Int32 → Int32 → (Nat → Nat → Int32) → (Nat → Nat → Int64) → Option gRs) (v1 : Int32) (v2 : Int32) (v4 : Int32) (s0 : Int32) (I : Nat → Nat → Int32) (L : Nat → Nat → Int64) : Option gRs := (K4 v1 v2 (s0 + (nI 0)) (v4 + (nI 1)) I L)
set_option maxHeartbeats 4000000 in
set_option maxRecDepth 100000 in
theorem t_X8_harmonyOf_43 {n f g d : Nat} {Q : gP} {z : gRs}   {K4 : Int32 → Int32 → Int32 → Int32 → (Nat → Nat → Int32) → (Nat → Nat → Int64) → Option gRs} (hK4 : ∀ v1 v2 v3 v4 I L, K4 v1 v2 v3 v4 I L = some z → gW gM (d + 2) 0 0 k_X8_harmonyOf 4 [.ref 57, .int v1, .int v2, .int v3, .int v4, .null, .null] [] (gKn n, gRf f g, I, L) Q) {v1 : Int32} {v2 : Int32} {v4 : Int32} {s0 : Int32} {I : Nat → Nat → Int32} {L : Nat → Nat → Int64} (hr : r_X8_harmonyOf_43 K4 v1 v2 v4 s0 I L = some z) (hQ : Q (some (.int z.1)) (gKn n, gRf f g, z.2.1, z.2.2)) : gW gM (d + 2) 0 0 k_X8_harmonyOf 43 [.ref 57, .int v1, .int v2, .null, .int v4, .null, .null] [.int s0] (gKn n, gRf f g, I, L) Q := by
  unfold r_X8_harmonyOf_43 at hr
  refine r_const rfl (gcst 0) ?_
  refine r_iadd rfl ?_
  refine r_istore [.ref 57, .int v1, .int v2, .int (s0 + (nI 0)), .int v4, .null, .null] rfl rfl (Nat.le_of_ble_eq_true rfl) rfl ?_
  refine r_iinc (y := (v4 + (nI 1))) [.ref 57, .int v1, .int v2, .int (s0 + (nI 0)), .int (v4 + (nI 1)), .null, .null] rfl rfl rfl (ginc _ 1) rfl ?_
  refine r_goto 4 rfl rfl ?_
  exact hK4 _ _ _ _ _ _ hr
def r_X8_harmonyOf_39  (K4 : Int32 → Int32 → Int32 → Int32 → (Nat → Nat → Int32) → (Nat → Nat → Int64) → Option gRs) (v1 : Int32) (v2 : Int32) (v4 : Int32) (s0 : Int32) (s1 : Int32) (I : Nat → Nat → Int32) (L : Nat → Nat → Int64) : Option gRs := (if (f_X8_isSweet I L s1) = 0 then (r_X8_harmonyOf_43 K4 v1 v2 v4 s0 I L) else (K4 v1 v2 (s0 + (nI 1)) (v4 + (nI 1)) I L))
set_option maxHeartbeats 4000000 in
set_option maxRecDepth 100000 in
theorem t_X8_harmonyOf_39 {n f g d : Nat} {Q : gP} {z : gRs}   {K4 : Int32 → Int32 → Int32 → Int32 → (Nat → Nat → Int32) → (Nat → Nat → Int64) → Option gRs} (hK4 : ∀ v1 v2 v3 v4 I L, K4 v1 v2 v3 v4 I L = some z → gW gM (d + 2) 0 0 k_X8_harmonyOf 4 [.ref 57, .int v1, .int v2, .int v3, .int v4, .null, .null] [] (gKn n, gRf f g, I, L) Q) {v1 : Int32} {v2 : Int32} {v4 : Int32} {s0 : Int32} {s1 : Int32} {I : Nat → Nat → Int32} {L : Nat → Nat → Int64} (hr : r_X8_harmonyOf_39 K4 v1 v2 v4 s0 s1 I L = some z) (hQ : Q (some (.int z.1)) (gKn n, gRf f g, z.2.1, z.2.2)) : gW gM (d + 2) 0 0 k_X8_harmonyOf 39 [.ref 57, .int v1, .int v2, .null, .int v4, .null, .null] [.int s1, .int s0] (gKn n, gRf f g, I, L) Q := by
  unfold r_X8_harmonyOf_39 at hr
  refine r_invs [.int s1] rfl rfl rfl rfl (Nat.le_of_ble_eq_true rfl) ⟨rfl, rfl⟩ ?_
  refine s_X8_isSweet  ?_
  show gW _ _ _ _ _ 40 [.ref 57, .int v1, .int v2, .null, .int v4, .null, .null] [.int (f_X8_isSweet I L s1), .int s0] (gKn n, gRf f g, I, L) _
  refine r_if_eq 43 rfl rfl (fun c16 => ?_) (fun c16 => ?_)
  · rw [if_pos c16] at hr
    exact t_X8_harmonyOf_43 hK4 hr hQ
  · rw [if_neg c16] at hr
    refine r_const rfl (gcst 1) ?_
    refine r_goto 44 rfl rfl ?_
    refine r_iadd rfl ?_
    refine r_istore [.ref 57, .int v1, .int v2, .int (s0 + (nI 1)), .int v4, .null, .null] rfl rfl (Nat.le_of_ble_eq_true rfl) rfl ?_
    refine r_iinc (y := (v4 + (nI 1))) [.ref 57, .int v1, .int v2, .int (s0 + (nI 1)), .int (v4 + (nI 1)), .null, .null] rfl rfl rfl (ginc _ 1) rfl ?_
    refine r_goto 4 rfl rfl ?_
    exact hK4 _ _ _ _ _ _ hr
def r_X8_harmonyOf_4   : Nat → Int32 → Int32 → Int32 → Int32 → (Nat → Nat → Int32) → (Nat → Nat → Int64) → Option gRs
  | 0, _, _, _, _, _, _ => none
  | m + 1, v1, v2, v3, v4, I, L => (if v1 ≤ v4 then some (v3, I, L) else (if v2 ≤ v4 then some (v3, I, L) else (if gvp v4 24 = true then (if gvp ((nI 12) + v4) 24 = true then (if (I 69 (gx v4)) = (nI 12) then (r_X8_harmonyOf_43 (r_X8_harmonyOf_4  m) v1 v2 v4 v3 I L) else (if (I 69 (gx ((nI 12) + v4))) = (nI 12) then (r_X8_harmonyOf_43 (r_X8_harmonyOf_4  m) v1 v2 v4 v3 I L) else (if (I 69 (gx v4)) ≤ (I 69 (gx ((nI 12) + v4))) then (r_X8_harmonyOf_39 (r_X8_harmonyOf_4  m) v1 v2 v4 v3 ((I 69 (gx ((nI 12) + v4))) - (I 69 (gx v4))) I L) else (r_X8_harmonyOf_39 (r_X8_harmonyOf_4  m) v1 v2 v4 v3 ((I 69 (gx v4)) - (I 69 (gx ((nI 12) + v4)))) I L)))) else none) else none)))
set_option maxHeartbeats 4000000 in
set_option maxRecDepth 100000 in
theorem t_X8_harmonyOf_4 {n f g d : Nat} {Q : gP} {z : gRs}    : ∀ {m : Nat} {v1 : Int32} {v2 : Int32} {v3 : Int32} {v4 : Int32} {I : Nat → Nat → Int32} {L : Nat → Nat → Int64}, r_X8_harmonyOf_4 m v1 v2 v3 v4 I L = some z → Q (some (.int z.1)) (gKn n, gRf f g, z.2.1, z.2.2) → gW gM (d + 2) 0 0 k_X8_harmonyOf 4 [.ref 57, .int v1, .int v2, .int v3, .int v4, .null, .null] [] (gKn n, gRf f g, I, L) Q := by
  intro m
  induction m with
  | zero =>
    intro v1 v2 v3 v4 I L hr _
    cases hr
  | succ m ih =>
    intro v1 v2 v3 v4 I L hr hQ
    have hK4 : ∀ v1 v2 v3 v4 I L, r_X8_harmonyOf_4 m v1 v2 v3 v4 I L = some z → gW gM (d + 2) 0 0 k_X8_harmonyOf 4 [.ref 57, .int v1, .int v2, .int v3, .int v4, .null, .null] [] (gKn n, gRf f g, I, L) Q := fun v1 v2 v3 v4 I L hr => ih hr hQ
    unfold r_X8_harmonyOf_4 at hr
    refine r_iload rfl rfl ?_
    refine r_iload rfl rfl ?_
    refine r_icmp_ge 48 rfl rfl (fun c17 => ?_) (fun c17 => ?_)
    · rw [if_pos c17] at hr
      refine r_iload rfl rfl ?_
      refine r_iret rfl ?_
      cases hr
      exact hQ
    · rw [if_neg c17] at hr
      refine r_iload rfl rfl ?_
      refine r_iload rfl rfl ?_
      refine r_icmp_ge 48 rfl rfl (fun c18 => ?_) (fun c18 => ?_)
      · rw [if_pos c18] at hr
        refine r_iload rfl rfl ?_
        refine r_iret rfl ?_
        cases hr
        exact hQ
      · rw [if_neg c18] at hr
        refine r_aload rfl rfl ?_
        refine r_getR (c := 8) (k := 23) (v := 69) rfl rfl ⟨rfl, rfl⟩ rfl ?_
        refine r_iload rfl rfl ?_
        obtain ⟨b19, hr⟩ := gopt hr
        refine r_iaload (n := 24) rfl rfl (gvp_in b19) ?_
        refine r_istore [.ref 57, .int v1, .int v2, .int v3, .int v4, .int (I 69 (gx v4)), .null] rfl rfl (Nat.le_of_ble_eq_true rfl) rfl ?_
        refine r_aload rfl rfl ?_
        refine r_getR (c := 8) (k := 23) (v := 69) rfl rfl ⟨rfl, rfl⟩ rfl ?_
        refine r_const rfl (gcst 12) ?_
        refine r_iload rfl rfl ?_
        refine r_iadd rfl ?_
        obtain ⟨b20, hr⟩ := gopt hr
        refine r_iaload (n := 24) rfl rfl (gvp_in b20) ?_
        refine r_istore [.ref 57, .int v1, .int v2, .int v3, .int v4, .int (I 69 (gx v4)), .int (I 69 (gx ((nI 12) + v4)))] rfl rfl (Nat.le_of_ble_eq_true rfl) rfl ?_
        refine r_iload rfl rfl ?_
        refine r_iload rfl rfl ?_
        refine r_const rfl (gcst 12) ?_
        refine r_icmp_eq 43 rfl rfl (fun c21 => ?_) (fun c21 => ?_)
        · rw [if_pos c21] at hr
          refine gforget (ls := [.ref 57, .int v1, .int v2, .null, .int v4, .null, .null]) ⟨(Or.inl rfl), ⟨(Or.inl rfl), ⟨(Or.inl rfl), ⟨(Or.inr (Or.inl ⟨rfl, _, rfl⟩)), ⟨(Or.inl rfl), ⟨(Or.inr (Or.inl ⟨rfl, _, rfl⟩)), ⟨(Or.inr (Or.inl ⟨rfl, _, rfl⟩)), trivial⟩⟩⟩⟩⟩⟩⟩ ?_
          exact t_X8_harmonyOf_43 hK4 hr hQ
        · rw [if_neg c21] at hr
          refine r_iload rfl rfl ?_
          refine r_const rfl (gcst 12) ?_
          refine r_icmp_eq 43 rfl rfl (fun c22 => ?_) (fun c22 => ?_)
          · rw [if_pos c22] at hr
            refine gforget (ls := [.ref 57, .int v1, .int v2, .null, .int v4, .null, .null]) ⟨(Or.inl rfl), ⟨(Or.inl rfl), ⟨(Or.inl rfl), ⟨(Or.inr (Or.inl ⟨rfl, _, rfl⟩)), ⟨(Or.inl rfl), ⟨(Or.inr (Or.inl ⟨rfl, _, rfl⟩)), ⟨(Or.inr (Or.inl ⟨rfl, _, rfl⟩)), trivial⟩⟩⟩⟩⟩⟩⟩ ?_
            exact t_X8_harmonyOf_43 hK4 hr hQ
          · rw [if_neg c22] at hr
            refine r_iload rfl rfl ?_
            refine r_iload rfl rfl ?_
            refine r_icmp_le 36 rfl rfl (fun c23 => ?_) (fun c23 => ?_)
            · rw [if_pos c23] at hr
              refine r_iload rfl rfl ?_
              refine r_iload rfl rfl ?_
              refine r_isub rfl ?_
              refine gforget (ls := [.ref 57, .int v1, .int v2, .null, .int v4, .null, .null]) ⟨(Or.inl rfl), ⟨(Or.inl rfl), ⟨(Or.inl rfl), ⟨(Or.inr (Or.inl ⟨rfl, _, rfl⟩)), ⟨(Or.inl rfl), ⟨(Or.inr (Or.inl ⟨rfl, _, rfl⟩)), ⟨(Or.inr (Or.inl ⟨rfl, _, rfl⟩)), trivial⟩⟩⟩⟩⟩⟩⟩ ?_
              exact t_X8_harmonyOf_39 hK4 hr hQ
            · rw [if_neg c23] at hr
              refine r_iload rfl rfl ?_
              refine r_iload rfl rfl ?_
              refine r_isub rfl ?_
              refine r_goto 39 rfl rfl ?_
              refine gforget (ls := [.ref 57, .int v1, .int v2, .null, .int v4, .null, .null]) ⟨(Or.inl rfl), ⟨(Or.inl rfl), ⟨(Or.inl rfl), ⟨(Or.inr (Or.inl ⟨rfl, _, rfl⟩)), ⟨(Or.inl rfl), ⟨(Or.inr (Or.inl ⟨rfl, _, rfl⟩)), ⟨(Or.inr (Or.inl ⟨rfl, _, rfl⟩)), trivial⟩⟩⟩⟩⟩⟩⟩ ?_
              exact t_X8_harmonyOf_39 hK4 hr hQ
def r_X8_harmonyOf (I : Nat → Nat → Int32) (L : Nat → Nat → Int64) (a1 : Int32) (a2 : Int32) : Option gRs := (r_X8_harmonyOf_4 100 a1 a2 (nI 0) (nI 0) I L)
set_option maxHeartbeats 4000000 in
set_option maxRecDepth 100000 in
theorem s_X8_harmonyOf {n f g d : Nat} {Q : gP} {I : Nat → Nat → Int32} {L : Nat → Nat → Int64} {a1 : Int32} {a2 : Int32} {z : gRs}  (hr : r_X8_harmonyOf I L a1 a2 = some z) (hQ : Q (some (.int z.1)) (gKn n, gRf f g, z.2.1, z.2.2)) : gR gM (d + 2) 146 [.ref 57, .int a1, .int a2] (gKn n, gRf f g, I, L) Q := by
  unfold r_X8_harmonyOf at hr
  show gW gM (d + 2) 0 0 k_X8_harmonyOf 0 [.ref 57, .int a1, .int a2, .null, .null, .null, .null] [] (gKn n, gRf f g, I, L) Q
  refine r_const rfl (gcst 0) ?_
  refine r_istore [.ref 57, .int a1, .int a2, .int (nI 0), .null, .null, .null] rfl rfl (Nat.le_of_ble_eq_true rfl) rfl ?_
  refine r_const rfl (gcst 0) ?_
  refine r_istore [.ref 57, .int a1, .int a2, .int (nI 0), .int (nI 0), .null, .null] rfl rfl (Nat.le_of_ble_eq_true rfl) rfl ?_
  exact t_X8_harmonyOf_4  hr hQ
def r_X8_harmony_16    (I : Nat → Nat → Int32) (L : Nat → Nat → Int64) : Option gRs := some ((-1 : Int32), I, L)
set_option maxHeartbeats 4000000 in
set_option maxRecDepth 100000 in
theorem t_X8_harmony_16 {n f g d : Nat} {Q : gP} {z : gRs}     {I : Nat → Nat → Int32} {L : Nat → Nat → Int64} (hr : r_X8_harmony_16 I L = some z) (hQ : Q (some (.int z.1)) (gKn n, gRf f g, z.2.1, z.2.2)) : gW gM (d + 3) 0 0 k_X8_harmony 16 [.null, .null, .null, .null, .null, .null] [] (gKn n, gRf f g, I, L) Q := by
  unfold r_X8_harmony_16 at hr
  refine r_const rfl (v := -1) (by decide) ?_
  refine r_iret rfl ?_
  cases hr
  exact hQ
def r_X8_harmony (I : Nat → Nat → Int32) (L : Nat → Nat → Int64) (a1 : Int32) (a2 : Int32) (a3 : Int32) (a4 : Int32) : Option gRs := ((r_X8_isBeast I L a1).bind (fun z23 => (if z23.1 = 0 then (r_X8_harmony_16 z23.2.1 z23.2.2) else ((r_X8_isLane z23.2.1 z23.2.2 a2).bind (fun z25 => (if z25.1 = 0 then (r_X8_harmony_16 z25.2.1 z25.2.2) else ((r_X8_isBeast z25.2.1 z25.2.2 a3).bind (fun z27 => (if z27.1 = 0 then (r_X8_harmony_16 z27.2.1 z27.2.2) else ((r_X8_isLane z27.2.1 z27.2.2 a4).bind (fun z29 => (if ¬ z29.1 = 0 then ((r_X8_laySong z29.2.1 z29.2.2 (nI 0) (nI 0) a1 a2).bind (fun z31 => ((r_X8_laySong z31.2.1 z31.2.2 (nI 0) (nI 1) a3 a4).bind (fun z32 => ((r_X8_harmonyOf z32.2.1 z32.2.2 z31.1 z32.1).bind (fun z33 => some (z33.1, z33.2.1, z33.2.2))))))) else (r_X8_harmony_16 z29.2.1 z29.2.2)))))))))))))
set_option maxHeartbeats 4000000 in
set_option maxRecDepth 100000 in
theorem s_X8_harmony {n f g d : Nat} {Q : gP} {I : Nat → Nat → Int32} {L : Nat → Nat → Int64} {a1 : Int32} {a2 : Int32} {a3 : Int32} {a4 : Int32} {z : gRs}  (hr : r_X8_harmony I L a1 a2 a3 a4 = some z) (hQ : Q (some (.int z.1)) (gKn n, gRf f g, z.2.1, z.2.2)) : gR gM (d + 3) 147 [.ref 57, .int a1, .int a2, .int a3, .int a4] (gKn n, gRf f g, I, L) Q := by
  unfold r_X8_harmony at hr
  show gW gM (d + 3) 0 0 k_X8_harmony 0 [.ref 57, .int a1, .int a2, .int a3, .int a4, .null] [] (gKn n, gRf f g, I, L) Q
  refine r_aload rfl rfl ?_
  refine r_iload rfl rfl ?_
  obtain ⟨z23, hz23, hr⟩ := gbnd hr
  refine r_invv (a := 57) [.int a1] rfl rfl rfl rfl rfl (Nat.le_of_ble_eq_true rfl) ⟨rfl, rfl⟩ ?_
  refine s_X8_isBeast  hz23 ?_
  show gW _ _ _ _ _ 3 [.ref 57, .int a1, .int a2, .int a3, .int a4, .null] [.int z23.1] (gKn n, gRf f g, z23.2.1, z23.2.2) _
  refine r_if_eq 16 rfl rfl (fun c24 => ?_) (fun c24 => ?_)
  · rw [if_pos c24] at hr
    refine gforget (ls := [.null, .null, .null, .null, .null, .null]) ⟨(Or.inr (Or.inr ⟨rfl, _, rfl⟩)), ⟨(Or.inr (Or.inl ⟨rfl, _, rfl⟩)), ⟨(Or.inr (Or.inl ⟨rfl, _, rfl⟩)), ⟨(Or.inr (Or.inl ⟨rfl, _, rfl⟩)), ⟨(Or.inr (Or.inl ⟨rfl, _, rfl⟩)), ⟨(Or.inl rfl), trivial⟩⟩⟩⟩⟩⟩ ?_
    exact t_X8_harmony_16  hr hQ
  · rw [if_neg c24] at hr
    refine r_aload rfl rfl ?_
    refine r_iload rfl rfl ?_
    obtain ⟨z25, hz25, hr⟩ := gbnd hr
    refine r_invv (a := 57) [.int a2] rfl rfl rfl rfl rfl (Nat.le_of_ble_eq_true rfl) ⟨rfl, rfl⟩ ?_
    refine s_X8_isLane  hz25 ?_
    show gW _ _ _ _ _ 7 [.ref 57, .int a1, .int a2, .int a3, .int a4, .null] [.int z25.1] (gKn n, gRf f g, z25.2.1, z25.2.2) _
    refine r_if_eq 16 rfl rfl (fun c26 => ?_) (fun c26 => ?_)
    · rw [if_pos c26] at hr
      refine gforget (ls := [.null, .null, .null, .null, .null, .null]) ⟨(Or.inr (Or.inr ⟨rfl, _, rfl⟩)), ⟨(Or.inr (Or.inl ⟨rfl, _, rfl⟩)), ⟨(Or.inr (Or.inl ⟨rfl, _, rfl⟩)), ⟨(Or.inr (Or.inl ⟨rfl, _, rfl⟩)), ⟨(Or.inr (Or.inl ⟨rfl, _, rfl⟩)), ⟨(Or.inl rfl), trivial⟩⟩⟩⟩⟩⟩ ?_
      exact t_X8_harmony_16  hr hQ
    · rw [if_neg c26] at hr
      refine r_aload rfl rfl ?_
      refine r_iload rfl rfl ?_
      obtain ⟨z27, hz27, hr⟩ := gbnd hr
      refine r_invv (a := 57) [.int a3] rfl rfl rfl rfl rfl (Nat.le_of_ble_eq_true rfl) ⟨rfl, rfl⟩ ?_
      refine s_X8_isBeast  hz27 ?_
      show gW _ _ _ _ _ 11 [.ref 57, .int a1, .int a2, .int a3, .int a4, .null] [.int z27.1] (gKn n, gRf f g, z27.2.1, z27.2.2) _
      refine r_if_eq 16 rfl rfl (fun c28 => ?_) (fun c28 => ?_)
      · rw [if_pos c28] at hr
        refine gforget (ls := [.null, .null, .null, .null, .null, .null]) ⟨(Or.inr (Or.inr ⟨rfl, _, rfl⟩)), ⟨(Or.inr (Or.inl ⟨rfl, _, rfl⟩)), ⟨(Or.inr (Or.inl ⟨rfl, _, rfl⟩)), ⟨(Or.inr (Or.inl ⟨rfl, _, rfl⟩)), ⟨(Or.inr (Or.inl ⟨rfl, _, rfl⟩)), ⟨(Or.inl rfl), trivial⟩⟩⟩⟩⟩⟩ ?_
        exact t_X8_harmony_16  hr hQ
      · rw [if_neg c28] at hr
        refine r_aload rfl rfl ?_
        refine r_iload rfl rfl ?_
        obtain ⟨z29, hz29, hr⟩ := gbnd hr
        refine r_invv (a := 57) [.int a4] rfl rfl rfl rfl rfl (Nat.le_of_ble_eq_true rfl) ⟨rfl, rfl⟩ ?_
        refine s_X8_isLane  hz29 ?_
        show gW _ _ _ _ _ 15 [.ref 57, .int a1, .int a2, .int a3, .int a4, .null] [.int z29.1] (gKn n, gRf f g, z29.2.1, z29.2.2) _
        refine r_if_ne 18 rfl rfl (fun c30 => ?_) (fun c30 => ?_)
        · rw [if_pos c30] at hr
          refine r_aload rfl rfl ?_
          refine r_const rfl (gcst 0) ?_
          refine r_const rfl (gcst 0) ?_
          refine r_iload rfl rfl ?_
          refine r_iload rfl rfl ?_
          obtain ⟨z31, hz31, hr⟩ := gbnd hr
          refine r_invv (a := 57) [.int (nI 0), .int (nI 0), .int a1, .int a2] rfl rfl rfl rfl rfl (Nat.le_of_ble_eq_true rfl) ⟨rfl, rfl⟩ ?_
          refine s_X8_laySong  hz31 ?_
          show gW _ _ _ _ _ 24 [.ref 57, .int a1, .int a2, .int a3, .int a4, .null] [.int z31.1] (gKn n, gRf f g, z31.2.1, z31.2.2) _
          refine r_istore [.ref 57, .int a1, .int a2, .int a3, .int a4, .int z31.1] rfl rfl (Nat.le_of_ble_eq_true rfl) rfl ?_
          refine r_aload rfl rfl ?_
          refine r_iload rfl rfl ?_
          refine r_aload rfl rfl ?_
          refine r_const rfl (gcst 0) ?_
          refine r_const rfl (gcst 1) ?_
          refine r_iload rfl rfl ?_
          refine r_iload rfl rfl ?_
          obtain ⟨z32, hz32, hr⟩ := gbnd hr
          refine r_invv (a := 57) [.int (nI 0), .int (nI 1), .int a3, .int a4] rfl rfl rfl rfl rfl (Nat.le_of_ble_eq_true rfl) ⟨rfl, rfl⟩ ?_
          refine s_X8_laySong  hz32 ?_
          show gW _ _ _ _ _ 33 [.ref 57, .int a1, .int a2, .int a3, .int a4, .int z31.1] [.int z32.1, .int z31.1, .ref 57] (gKn n, gRf f g, z32.2.1, z32.2.2) _
          obtain ⟨z33, hz33, hr⟩ := gbnd hr
          refine r_invv (a := 57) [.int z31.1, .int z32.1] rfl rfl rfl rfl rfl (Nat.le_of_ble_eq_true rfl) ⟨rfl, rfl⟩ ?_
          refine s_X8_harmonyOf  hz33 ?_
          show gW _ _ _ _ _ 34 [.ref 57, .int a1, .int a2, .int a3, .int a4, .int z31.1] [.int z33.1] (gKn n, gRf f g, z33.2.1, z33.2.2) _
          refine r_iret rfl ?_
          cases hr
          exact hQ
        · rw [if_neg c30] at hr
          refine gforget (ls := [.null, .null, .null, .null, .null, .null]) ⟨(Or.inr (Or.inr ⟨rfl, _, rfl⟩)), ⟨(Or.inr (Or.inl ⟨rfl, _, rfl⟩)), ⟨(Or.inr (Or.inl ⟨rfl, _, rfl⟩)), ⟨(Or.inr (Or.inl ⟨rfl, _, rfl⟩)), ⟨(Or.inr (Or.inl ⟨rfl, _, rfl⟩)), ⟨(Or.inl rfl), trivial⟩⟩⟩⟩⟩⟩ ?_
          exact t_X8_harmony_16  hr hQ
def r_X8_layTrial_2   : Nat → Int32 → (Nat → Nat → Int32) → (Nat → Nat → Int64) → Option gRs
  | 0, _, _, _ => none
  | m + 1, v1, I, L => (if (nI 27) ≤ v1 then some (0, I, L) else (if gvp v1 54 = true then (if gvp ((nI 27) + v1) 54 = true then (r_X8_layTrial_2  m (v1 + (nI 1)) (gu2 I 63 (gx ((nI 27) + v1)) (I 63 (gx v1))) L) else none) else none))
set_option maxHeartbeats 4000000 in
set_option maxRecDepth 100000 in
theorem t_X8_layTrial_2 {n f g d : Nat} {Q : gP} {z : gRs}    : ∀ {m : Nat} {v1 : Int32} {I : Nat → Nat → Int32} {L : Nat → Nat → Int64}, r_X8_layTrial_2 m v1 I L = some z → Q none (gKn n, gRf f g, z.2.1, z.2.2) → gW gM (d + 0) 0 0 k_X8_layTrial 2 [.ref 57, .int v1] [] (gKn n, gRf f g, I, L) Q := by
  intro m
  induction m with
  | zero =>
    intro v1 I L hr _
    cases hr
  | succ m ih =>
    intro v1 I L hr hQ
    have hK2 : ∀ v1 I L, r_X8_layTrial_2 m v1 I L = some z → gW gM (d + 0) 0 0 k_X8_layTrial 2 [.ref 57, .int v1] [] (gKn n, gRf f g, I, L) Q := fun v1 I L hr => ih hr hQ
    unfold r_X8_layTrial_2 at hr
    refine r_iload rfl rfl ?_
    refine r_const rfl (gcst 27) ?_
    refine r_icmp_ge 17 rfl rfl (fun c4 => ?_) (fun c4 => ?_)
    · rw [if_pos c4] at hr
      refine r_vret rfl ?_
      cases hr
      exact hQ
    · rw [if_neg c4] at hr
      refine r_aload rfl rfl ?_
      refine r_getR (c := 8) (k := 9) (v := 63) rfl rfl ⟨rfl, rfl⟩ rfl ?_
      refine r_const rfl (gcst 27) ?_
      refine r_iload rfl rfl ?_
      refine r_iadd rfl ?_
      refine r_aload rfl rfl ?_
      refine r_getR (c := 8) (k := 9) (v := 63) rfl rfl ⟨rfl, rfl⟩ rfl ?_
      refine r_iload rfl rfl ?_
      obtain ⟨b5, hr⟩ := gopt hr
      refine r_iaload (n := 54) rfl rfl (gvp_in b5) ?_
      obtain ⟨b6, hr⟩ := gopt hr
      refine r_iastore (n := 54) rfl rfl (gvp_in b6) (by decide) ?_
      refine r_iinc (y := (v1 + (nI 1))) [.ref 57, .int (v1 + (nI 1))] rfl rfl rfl (ginc _ 1) rfl ?_
      refine r_goto 2 rfl rfl ?_
      exact hK2 _ _ _ hr
def r_X8_layTrial (I : Nat → Nat → Int32) (L : Nat → Nat → Int64)  : Option gRs := (r_X8_layTrial_2 100 (nI 0) I L)
set_option maxHeartbeats 4000000 in
set_option maxRecDepth 100000 in
theorem s_X8_layTrial {n f g d : Nat} {Q : gP} {I : Nat → Nat → Int32} {L : Nat → Nat → Int64}  {z : gRs}  (hr : r_X8_layTrial I L  = some z) (hQ : Q none (gKn n, gRf f g, z.2.1, z.2.2)) : gR gM (d + 0) 148 [.ref 57] (gKn n, gRf f g, I, L) Q := by
  unfold r_X8_layTrial at hr
  show gW gM (d + 0) 0 0 k_X8_layTrial 0 [.ref 57, .null] [] (gKn n, gRf f g, I, L) Q
  refine r_const rfl (gcst 0) ?_
  refine r_istore [.ref 57, .int (nI 0)] rfl rfl (Nat.le_of_ble_eq_true rfl) rfl ?_
  exact t_X8_layTrial_2  hr hQ
def r_X8_power_4   : Nat → Int32 → Int32 → Int32 → Int32 → (Nat → Nat → Int32) → (Nat → Nat → Int64) → Option gRs
  | 0, _, _, _, _, _, _ => none
  | m + 1, v0, v1, v2, v3, I, L => (if v1 ≤ v3 then some (v2, I, L) else (r_X8_power_4  m v0 v1 (v2 * v0) (v3 + (nI 1)) I L))
set_option maxHeartbeats 4000000 in
set_option maxRecDepth 100000 in
theorem t_X8_power_4 {n f g d : Nat} {Q : gP} {z : gRs}    : ∀ {m : Nat} {v0 : Int32} {v1 : Int32} {v2 : Int32} {v3 : Int32} {I : Nat → Nat → Int32} {L : Nat → Nat → Int64}, r_X8_power_4 m v0 v1 v2 v3 I L = some z → Q (some (.int z.1)) (gKn n, gRf f g, z.2.1, z.2.2) → gW gM (d + 0) 0 0 k_X8_power 4 [.int v0, .int v1, .int v2, .int v3] [] (gKn n, gRf f g, I, L) Q := by
  intro m
  induction m with
  | zero =>
    intro v0 v1 v2 v3 I L hr _
    cases hr
  | succ m ih =>
    intro v0 v1 v2 v3 I L hr hQ
    have hK4 : ∀ v0 v1 v2 v3 I L, r_X8_power_4 m v0 v1 v2 v3 I L = some z → gW gM (d + 0) 0 0 k_X8_power 4 [.int v0, .int v1, .int v2, .int v3] [] (gKn n, gRf f g, I, L) Q := fun v0 v1 v2 v3 I L hr => ih hr hQ
    unfold r_X8_power_4 at hr
    refine r_iload rfl rfl ?_
    refine r_iload rfl rfl ?_
    refine r_icmp_ge 13 rfl rfl (fun c2 => ?_) (fun c2 => ?_)
    · rw [if_pos c2] at hr
      refine r_iload rfl rfl ?_
      refine r_iret rfl ?_
      cases hr
      exact hQ
    · rw [if_neg c2] at hr
      refine r_iload rfl rfl ?_
      refine r_iload rfl rfl ?_
      refine r_imul rfl ?_
      refine r_istore [.int v0, .int v1, .int (v2 * v0), .int v3] rfl rfl (Nat.le_of_ble_eq_true rfl) rfl ?_
      refine r_iinc (y := (v3 + (nI 1))) [.int v0, .int v1, .int (v2 * v0), .int (v3 + (nI 1))] rfl rfl rfl (ginc _ 1) rfl ?_
      refine r_goto 4 rfl rfl ?_
      exact hK4 _ _ _ _ _ _ hr
def r_X8_power (I : Nat → Nat → Int32) (L : Nat → Nat → Int64) (a0 : Int32) (a1 : Int32) : Option gRs := (r_X8_power_4 100 a0 a1 (nI 1) (nI 0) I L)
set_option maxHeartbeats 4000000 in
set_option maxRecDepth 100000 in
theorem s_X8_power {n f g d : Nat} {Q : gP} {I : Nat → Nat → Int32} {L : Nat → Nat → Int64} {a0 : Int32} {a1 : Int32} {z : gRs}  (hr : r_X8_power I L a0 a1 = some z) (hQ : Q (some (.int z.1)) (gKn n, gRf f g, z.2.1, z.2.2)) : gR gM (d + 0) 149 [.int a0, .int a1] (gKn n, gRf f g, I, L) Q := by
  unfold r_X8_power at hr
  show gW gM (d + 0) 0 0 k_X8_power 0 [.int a0, .int a1, .null, .null] [] (gKn n, gRf f g, I, L) Q
  refine r_const rfl (gcst 1) ?_
  refine r_istore [.int a0, .int a1, .int (nI 1), .null] rfl rfl (Nat.le_of_ble_eq_true rfl) rfl ?_
  refine r_const rfl (gcst 0) ?_
  refine r_istore [.int a0, .int a1, .int (nI 1), .int (nI 0)] rfl rfl (Nat.le_of_ble_eq_true rfl) rfl ?_
  exact t_X8_power_4  hr hQ
def r_X8_driveRow_10   : Nat → Int32 → Int32 → Int32 → Int32 → (Nat → Nat → Int32) → (Nat → Nat → Int64) → Option gRs
  | 0, _, _, _, _, _, _ => none
  | m + 1, v1, v2, v3, v4, I, L => (if v1 ≤ v4 then some ((nI 1), I, L) else ((r_X8_power I L v3 ((v1 - (nI 1)) - v4)).bind (fun z14 => (if ¬ z14.1 = 0 then (if ¬ v3 = 0 then (if ¬ (z14.2.1 57 1) = 0 then (if ¬ (z14.2.1 57 1) = 0 then ((r_X8_canDrive z14.2.1 z14.2.2 (nI 1) ((grem (v2 / z14.1) v3) / (z14.2.1 57 1)) (grem (grem (v2 / z14.1) v3) (z14.2.1 57 1))).bind (fun z19 => (if ¬ z19.1 = 0 then (if ¬ (z19.2.1 57 1) = 0 then (if ¬ (z19.2.1 57 1) = 0 then ((r_X8_driveOn z19.2.1 z19.2.2 (nI 1) ((grem (v2 / z14.1) v3) / (z19.2.1 57 1)) (grem (grem (v2 / z14.1) v3) (z19.2.1 57 1))).bind (fun z23 => (r_X8_driveRow_10  m v1 v2 v3 (v4 + (nI 1)) z23.2.1 z23.2.2))) else none) else none) else some ((nI 0), z19.2.1, z19.2.2)))) else none) else none) else none) else none))))
set_option maxHeartbeats 4000000 in
set_option maxRecDepth 100000 in
theorem t_X8_driveRow_10 {n f g d : Nat} {Q : gP} {z : gRs}    : ∀ {m : Nat} {v1 : Int32} {v2 : Int32} {v3 : Int32} {v4 : Int32} {I : Nat → Nat → Int32} {L : Nat → Nat → Int64}, r_X8_driveRow_10 m v1 v2 v3 v4 I L = some z → Q (some (.int z.1)) (gKn n, gRf f g, z.2.1, z.2.2) → gW gM (d + 4) 0 0 k_X8_driveRow 10 [.ref 57, .int v1, .int v2, .int v3, .int v4, .null] [] (gKn n, gRf f g, I, L) Q := by
  intro m
  induction m with
  | zero =>
    intro v1 v2 v3 v4 I L hr _
    cases hr
  | succ m ih =>
    intro v1 v2 v3 v4 I L hr hQ
    have hK10 : ∀ v1 v2 v3 v4 I L, r_X8_driveRow_10 m v1 v2 v3 v4 I L = some z → gW gM (d + 4) 0 0 k_X8_driveRow 10 [.ref 57, .int v1, .int v2, .int v3, .int v4, .null] [] (gKn n, gRf f g, I, L) Q := fun v1 v2 v3 v4 I L hr => ih hr hQ
    unfold r_X8_driveRow_10 at hr
    refine r_iload rfl rfl ?_
    refine r_iload rfl rfl ?_
    refine r_icmp_ge 53 rfl rfl (fun c13 => ?_) (fun c13 => ?_)
    · rw [if_pos c13] at hr
      refine r_const rfl (gcst 1) ?_
      refine r_zret rfl (Or.inr rfl) ?_
      cases hr
      exact hQ
    · rw [if_neg c13] at hr
      refine r_iload rfl rfl ?_
      refine r_iload rfl rfl ?_
      refine r_iload rfl rfl ?_
      refine r_const rfl (gcst 1) ?_
      refine r_isub rfl ?_
      refine r_iload rfl rfl ?_
      refine r_isub rfl ?_
      obtain ⟨z14, hz14, hr⟩ := gbnd hr
      refine r_invs [.int v3, .int ((v1 - (nI 1)) - v4)] rfl rfl rfl rfl (Nat.le_of_ble_eq_true rfl) ⟨rfl, rfl⟩ ?_
      refine s_X8_power  hz14 ?_
      show gW _ _ _ _ _ 21 [.ref 57, .int v1, .int v2, .int v3, .int v4, .null] [.int z14.1, .int v2] (gKn n, gRf f g, z14.2.1, z14.2.2) _
      obtain ⟨b15, hr⟩ := gopt hr
      refine r_idiv rfl b15 ?_
      refine r_iload rfl rfl ?_
      obtain ⟨b16, hr⟩ := gopt hr
      refine r_irem rfl b16 ?_
      refine r_istore [.ref 57, .int v1, .int v2, .int v3, .int v4, .int (grem (v2 / z14.1) v3)] rfl rfl (Nat.le_of_ble_eq_true rfl) rfl ?_
      refine r_aload rfl rfl ?_
      refine r_const rfl (gcst 1) ?_
      refine r_iload rfl rfl ?_
      refine r_aload rfl rfl ?_
      refine r_getI (c := 8) (k := 1) rfl rfl ⟨rfl, rfl⟩ ?_
      obtain ⟨b17, hr⟩ := gopt hr
      refine r_idiv rfl b17 ?_
      refine r_iload rfl rfl ?_
      refine r_aload rfl rfl ?_
      refine r_getI (c := 8) (k := 1) rfl rfl ⟨rfl, rfl⟩ ?_
      obtain ⟨b18, hr⟩ := gopt hr
      refine r_irem rfl b18 ?_
      obtain ⟨z19, hz19, hr⟩ := gbnd hr
      refine r_invv (a := 57) [.int (nI 1), .int ((grem (v2 / z14.1) v3) / (z14.2.1 57 1)), .int (grem (grem (v2 / z14.1) v3) (z14.2.1 57 1))] rfl rfl rfl rfl rfl (Nat.le_of_ble_eq_true rfl) ⟨rfl, rfl⟩ ?_
      refine s_X8_canDrive  hz19 ?_
      show gW _ _ _ _ _ 36 [.ref 57, .int v1, .int v2, .int v3, .int v4, .int (grem (v2 / z14.1) v3)] [.int z19.1] (gKn n, gRf f g, z19.2.1, z19.2.2) _
      refine r_if_ne 39 rfl rfl (fun c20 => ?_) (fun c20 => ?_)
      · rw [if_pos c20] at hr
        refine r_aload rfl rfl ?_
        refine r_const rfl (gcst 1) ?_
        refine r_iload rfl rfl ?_
        refine r_aload rfl rfl ?_
        refine r_getI (c := 8) (k := 1) rfl rfl ⟨rfl, rfl⟩ ?_
        obtain ⟨b21, hr⟩ := gopt hr
        refine r_idiv rfl b21 ?_
        refine r_iload rfl rfl ?_
        refine r_aload rfl rfl ?_
        refine r_getI (c := 8) (k := 1) rfl rfl ⟨rfl, rfl⟩ ?_
        obtain ⟨b22, hr⟩ := gopt hr
        refine r_irem rfl b22 ?_
        obtain ⟨z23, hz23, hr⟩ := gbnd hr
        refine r_invv (a := 57) [.int (nI 1), .int ((grem (v2 / z14.1) v3) / (z19.2.1 57 1)), .int (grem (grem (v2 / z14.1) v3) (z19.2.1 57 1))] rfl rfl rfl rfl rfl (Nat.le_of_ble_eq_true rfl) ⟨rfl, rfl⟩ ?_
        refine s_X8_driveOn  hz23 ?_
        show gW _ _ _ _ _ 50 [.ref 57, .int v1, .int v2, .int v3, .int v4, .int (grem (v2 / z14.1) v3)] [.int z23.1] (gKn n, gRf f g, z23.2.1, z23.2.2) _
        refine r_pop rfl rfl ?_
        refine r_iinc (y := (v4 + (nI 1))) [.ref 57, .int v1, .int v2, .int v3, .int (v4 + (nI 1)), .int (grem (v2 / z14.1) v3)] rfl rfl rfl (ginc _ 1) rfl ?_
        refine r_goto 10 rfl rfl ?_
        refine gforget (ls := [.ref 57, .int v1, .int v2, .int v3, .int (v4 + (nI 1)), .null]) ⟨(Or.inl rfl), ⟨(Or.inl rfl), ⟨(Or.inl rfl), ⟨(Or.inl rfl), ⟨(Or.inl rfl), ⟨(Or.inr (Or.inl ⟨rfl, _, rfl⟩)), trivial⟩⟩⟩⟩⟩⟩ ?_
        exact hK10 _ _ _ _ _ _ hr
      · rw [if_neg c20] at hr
        refine r_const rfl (gcst 0) ?_
        refine r_zret rfl (Or.inl rfl) ?_
        cases hr
        exact hQ
def r_X8_driveRow (I : Nat → Nat → Int32) (L : Nat → Nat → Int64) (a1 : Int32) (a2 : Int32) : Option gRs := ((r_X8_layTrial I L).bind (fun z24 => (r_X8_driveRow_10 100 a1 a2 ((I 57 2) * (I 57 1)) (nI 0) z24.2.1 z24.2.2)))
set_option maxHeartbeats 4000000 in
set_option maxRecDepth 100000 in
theorem s_X8_driveRow {n f g d : Nat} {Q : gP} {I : Nat → Nat → Int32} {L : Nat → Nat → Int64} {a1 : Int32} {a2 : Int32} {z : gRs}  (hr : r_X8_driveRow I L a1 a2 = some z) (hQ : Q (some (.int z.1)) (gKn n, gRf f g, z.2.1, z.2.2)) : gR gM (d + 4) 150 [.ref 57, .int a1, .int a2] (gKn n, gRf f g, I, L) Q := by
  unfold r_X8_driveRow at hr
  show gW gM (d + 4) 0 0 k_X8_driveRow 0 [.ref 57, .int a1, .int a2, .null, .null, .null] [] (gKn n, gRf f g, I, L) Q
  refine r_aload rfl rfl ?_
  refine r_getI (c := 8) (k := 2) rfl rfl ⟨rfl, rfl⟩ ?_
  refine r_aload rfl rfl ?_
  refine r_getI (c := 8) (k := 1) rfl rfl ⟨rfl, rfl⟩ ?_
  refine r_imul rfl ?_
  refine r_istore [.ref 57, .int a1, .int a2, .int ((I 57 2) * (I 57 1)), .null, .null] rfl rfl (Nat.le_of_ble_eq_true rfl) rfl ?_
  refine r_aload rfl rfl ?_
  obtain ⟨z24, hz24, hr⟩ := gbnd hr
  refine r_invv (a := 57) [] rfl rfl rfl rfl rfl (Nat.le_of_ble_eq_true rfl) ⟨rfl, rfl⟩ ?_
  refine s_X8_layTrial  hz24 ?_
  show gW _ _ _ _ _ 8 [.ref 57, .int a1, .int a2, .int ((I 57 2) * (I 57 1)), .null, .null] [] (gKn n, gRf f g, z24.2.1, z24.2.2) _
  refine r_const rfl (gcst 0) ?_
  refine r_istore [.ref 57, .int a1, .int a2, .int ((I 57 2) * (I 57 1)), .int (nI 0), .null] rfl rfl (Nat.le_of_ble_eq_true rfl) rfl ?_
  exact t_X8_driveRow_10  hr hQ
def r_X8_told_10   : Nat → Int32 → Int32 → Int32 → Int32 → Int32 → (Nat → Nat → Int32) → (Nat → Nat → Int64) → Option gRs
  | 0, _, _, _, _, _, _, _ => none
  | m + 1, v1, v2, v3, v4, v5, I, L => (if v1 ≤ v5 then some (v4, I, L) else ((r_X8_power I L v3 ((v1 - (nI 1)) - v5)).bind (fun z8 => (if ¬ z8.1 = 0 then (if ¬ v3 = 0 then (if ¬ (z8.2.1 57 1) = 0 then (if ¬ (z8.2.1 57 1) = 0 then (r_X8_told_10  m v1 v2 v3 (((((nI 100) * v4) + ((nI 10) * (((grem (v2 / z8.1) v3) / (z8.2.1 57 1)) + (nI 1)))) + (grem (grem (v2 / z8.1) v3) (z8.2.1 57 1))) + (nI 1)) (v5 + (nI 1)) z8.2.1 z8.2.2) else none) else none) else none) else none))))
set_option maxHeartbeats 4000000 in
set_option maxRecDepth 100000 in
theorem t_X8_told_10 {n f g d : Nat} {Q : gP} {z : gRs}    : ∀ {m : Nat} {v1 : Int32} {v2 : Int32} {v3 : Int32} {v4 : Int32} {v5 : Int32} {I : Nat → Nat → Int32} {L : Nat → Nat → Int64}, r_X8_told_10 m v1 v2 v3 v4 v5 I L = some z → Q (some (.int z.1)) (gKn n, gRf f g, z.2.1, z.2.2) → gW gM (d + 1) 0 0 k_X8_told 10 [.ref 57, .int v1, .int v2, .int v3, .int v4, .int v5, .null] [] (gKn n, gRf f g, I, L) Q := by
  intro m
  induction m with
  | zero =>
    intro v1 v2 v3 v4 v5 I L hr _
    cases hr
  | succ m ih =>
    intro v1 v2 v3 v4 v5 I L hr hQ
    have hK10 : ∀ v1 v2 v3 v4 v5 I L, r_X8_told_10 m v1 v2 v3 v4 v5 I L = some z → gW gM (d + 1) 0 0 k_X8_told 10 [.ref 57, .int v1, .int v2, .int v3, .int v4, .int v5, .null] [] (gKn n, gRf f g, I, L) Q := fun v1 v2 v3 v4 v5 I L hr => ih hr hQ
    unfold r_X8_told_10 at hr
    refine r_iload rfl rfl ?_
    refine r_iload rfl rfl ?_
    refine r_icmp_ge 47 rfl rfl (fun c7 => ?_) (fun c7 => ?_)
    · rw [if_pos c7] at hr
      refine r_iload rfl rfl ?_
      refine r_iret rfl ?_
      cases hr
      exact hQ
    · rw [if_neg c7] at hr
      refine r_iload rfl rfl ?_
      refine r_iload rfl rfl ?_
      refine r_iload rfl rfl ?_
      refine r_const rfl (gcst 1) ?_
      refine r_isub rfl ?_
      refine r_iload rfl rfl ?_
      refine r_isub rfl ?_
      obtain ⟨z8, hz8, hr⟩ := gbnd hr
      refine r_invs [.int v3, .int ((v1 - (nI 1)) - v5)] rfl rfl rfl rfl (Nat.le_of_ble_eq_true rfl) ⟨rfl, rfl⟩ ?_
      refine s_X8_power  hz8 ?_
      show gW _ _ _ _ _ 21 [.ref 57, .int v1, .int v2, .int v3, .int v4, .int v5, .null] [.int z8.1, .int v2] (gKn n, gRf f g, z8.2.1, z8.2.2) _
      obtain ⟨b9, hr⟩ := gopt hr
      refine r_idiv rfl b9 ?_
      refine r_iload rfl rfl ?_
      obtain ⟨b10, hr⟩ := gopt hr
      refine r_irem rfl b10 ?_
      refine r_istore [.ref 57, .int v1, .int v2, .int v3, .int v4, .int v5, .int (grem (v2 / z8.1) v3)] rfl rfl (Nat.le_of_ble_eq_true rfl) rfl ?_
      refine r_const rfl (gcst 100) ?_
      refine r_iload rfl rfl ?_
      refine r_imul rfl ?_
      refine r_const rfl (gcst 10) ?_
      refine r_iload rfl rfl ?_
      refine r_aload rfl rfl ?_
      refine r_getI (c := 8) (k := 1) rfl rfl ⟨rfl, rfl⟩ ?_
      obtain ⟨b11, hr⟩ := gopt hr
      refine r_idiv rfl b11 ?_
      refine r_const rfl (gcst 1) ?_
      refine r_iadd rfl ?_
      refine r_imul rfl ?_
      refine r_iadd rfl ?_
      refine r_iload rfl rfl ?_
      refine r_aload rfl rfl ?_
      refine r_getI (c := 8) (k := 1) rfl rfl ⟨rfl, rfl⟩ ?_
      obtain ⟨b12, hr⟩ := gopt hr
      refine r_irem rfl b12 ?_
      refine r_iadd rfl ?_
      refine r_const rfl (gcst 1) ?_
      refine r_iadd rfl ?_
      refine r_istore [.ref 57, .int v1, .int v2, .int v3, .int (((((nI 100) * v4) + ((nI 10) * (((grem (v2 / z8.1) v3) / (z8.2.1 57 1)) + (nI 1)))) + (grem (grem (v2 / z8.1) v3) (z8.2.1 57 1))) + (nI 1)), .int v5, .int (grem (v2 / z8.1) v3)] rfl rfl (Nat.le_of_ble_eq_true rfl) rfl ?_
      refine r_iinc (y := (v5 + (nI 1))) [.ref 57, .int v1, .int v2, .int v3, .int (((((nI 100) * v4) + ((nI 10) * (((grem (v2 / z8.1) v3) / (z8.2.1 57 1)) + (nI 1)))) + (grem (grem (v2 / z8.1) v3) (z8.2.1 57 1))) + (nI 1)), .int (v5 + (nI 1)), .int (grem (v2 / z8.1) v3)] rfl rfl rfl (ginc _ 1) rfl ?_
      refine r_goto 10 rfl rfl ?_
      refine gforget (ls := [.ref 57, .int v1, .int v2, .int v3, .int (((((nI 100) * v4) + ((nI 10) * (((grem (v2 / z8.1) v3) / (z8.2.1 57 1)) + (nI 1)))) + (grem (grem (v2 / z8.1) v3) (z8.2.1 57 1))) + (nI 1)), .int (v5 + (nI 1)), .null]) ⟨(Or.inl rfl), ⟨(Or.inl rfl), ⟨(Or.inl rfl), ⟨(Or.inl rfl), ⟨(Or.inl rfl), ⟨(Or.inl rfl), ⟨(Or.inr (Or.inl ⟨rfl, _, rfl⟩)), trivial⟩⟩⟩⟩⟩⟩⟩ ?_
      exact hK10 _ _ _ _ _ _ _ hr
def r_X8_told (I : Nat → Nat → Int32) (L : Nat → Nat → Int64) (a1 : Int32) (a2 : Int32) : Option gRs := (r_X8_told_10 100 a1 a2 ((I 57 2) * (I 57 1)) (nI 0) (nI 0) I L)
set_option maxHeartbeats 4000000 in
set_option maxRecDepth 100000 in
theorem s_X8_told {n f g d : Nat} {Q : gP} {I : Nat → Nat → Int32} {L : Nat → Nat → Int64} {a1 : Int32} {a2 : Int32} {z : gRs}  (hr : r_X8_told I L a1 a2 = some z) (hQ : Q (some (.int z.1)) (gKn n, gRf f g, z.2.1, z.2.2)) : gR gM (d + 1) 151 [.ref 57, .int a1, .int a2] (gKn n, gRf f g, I, L) Q := by
  unfold r_X8_told at hr
  show gW gM (d + 1) 0 0 k_X8_told 0 [.ref 57, .int a1, .int a2, .null, .null, .null, .null] [] (gKn n, gRf f g, I, L) Q
  refine r_aload rfl rfl ?_
  refine r_getI (c := 8) (k := 2) rfl rfl ⟨rfl, rfl⟩ ?_
  refine r_aload rfl rfl ?_
  refine r_getI (c := 8) (k := 1) rfl rfl ⟨rfl, rfl⟩ ?_
  refine r_imul rfl ?_
  refine r_istore [.ref 57, .int a1, .int a2, .int ((I 57 2) * (I 57 1)), .null, .null, .null] rfl rfl (Nat.le_of_ble_eq_true rfl) rfl ?_
  refine r_const rfl (gcst 0) ?_
  refine r_istore [.ref 57, .int a1, .int a2, .int ((I 57 2) * (I 57 1)), .int (nI 0), .null, .null] rfl rfl (Nat.le_of_ble_eq_true rfl) rfl ?_
  refine r_const rfl (gcst 0) ?_
  refine r_istore [.ref 57, .int a1, .int a2, .int ((I 57 2) * (I 57 1)), .int (nI 0), .int (nI 0), .null] rfl rfl (Nat.le_of_ble_eq_true rfl) rfl ?_
  exact t_X8_told_10  hr hQ
def r_X8_bestFit_27  (K7 : Int32 → Int32 → Int32 → Int32 → (Nat → Nat → Int32) → (Nat → Nat → Int64) → Option gRs) (v1 : Int32) (v2 : Int32) (v3 : Int32) (v4 : Int32) (s0 : Int32) (I : Nat → Nat → Int32) (L : Nat → Nat → Int64) : Option gRs := (K7 v1 v2 (if s0 ≤ v3 then v3 else s0) (v4 + (nI 1)) (gu2 I 57 28 (if s0 ≤ v3 then (I 57 28) else v4)) L)
set_option maxHeartbeats 4000000 in
set_option maxRecDepth 100000 in
theorem t_X8_bestFit_27 {n f g d : Nat} {Q : gP} {z : gRs}   {K7 : Int32 → Int32 → Int32 → Int32 → (Nat → Nat → Int32) → (Nat → Nat → Int64) → Option gRs} (hK7 : ∀ v1 v2 v3 v4 I L, K7 v1 v2 v3 v4 I L = some z → gW gM (d + 5) 0 0 k_X8_bestFit 7 [.ref 57, .int v1, .int v2, .int v3, .int v4, .null] [] (gKn n, gRf f g, I, L) Q) {v1 : Int32} {v2 : Int32} {v3 : Int32} {v4 : Int32} {s0 : Int32} {I : Nat → Nat → Int32} {L : Nat → Nat → Int64} (hr : r_X8_bestFit_27 K7 v1 v2 v3 v4 s0 I L = some z) (hQ : Q (some (.int z.1)) (gKn n, gRf f g, z.2.1, z.2.2)) : gW gM (d + 5) 0 0 k_X8_bestFit 27 [.ref 57, .int v1, .int v2, .int v3, .int v4, .null] [.int s0] (gKn n, gRf f g, I, L) Q := by
  unfold r_X8_bestFit_27 at hr
  refine r_istore [.ref 57, .int v1, .int v2, .int v3, .int v4, .int s0] rfl rfl (Nat.le_of_ble_eq_true rfl) rfl ?_
  refine r_aload rfl rfl ?_
  refine r_iload rfl rfl ?_
  refine r_iload rfl rfl ?_
  have j15 : gW gM (d + 5) 0 0 k_X8_bestFit 36 [.ref 57, .int v1, .int v2, .int v3, .int v4, .int s0] [.int (if s0 ≤ v3 then (I 57 28) else v4), .ref 57] (gKn n, gRf f g, I, L) Q := by
    refine r_putI (c := 8) (k := 28) rfl rfl ⟨rfl, rfl⟩ ?_
    refine r_iload rfl rfl ?_
    refine r_iload rfl rfl ?_
    have j16 : gW gM (d + 5) 0 0 k_X8_bestFit 43 [.ref 57, .int v1, .int v2, .int v3, .int v4, .int s0] [.int (if s0 ≤ v3 then v3 else s0)] (gKn n, gRf f g, (gu2 I 57 28 (if s0 ≤ v3 then (I 57 28) else v4)), L) Q := by
      refine r_istore [.ref 57, .int v1, .int v2, .int (if s0 ≤ v3 then v3 else s0), .int v4, .int s0] rfl rfl (Nat.le_of_ble_eq_true rfl) rfl ?_
      refine r_iinc (y := (v4 + (nI 1))) [.ref 57, .int v1, .int v2, .int (if s0 ≤ v3 then v3 else s0), .int (v4 + (nI 1)), .int s0] rfl rfl rfl (ginc _ 1) rfl ?_
      refine r_goto 7 rfl rfl ?_
      refine gforget (ls := [.ref 57, .int v1, .int v2, .int (if s0 ≤ v3 then v3 else s0), .int (v4 + (nI 1)), .null]) ⟨(Or.inl rfl), ⟨(Or.inl rfl), ⟨(Or.inl rfl), ⟨(Or.inl rfl), ⟨(Or.inl rfl), ⟨(Or.inr (Or.inl ⟨rfl, _, rfl⟩)), trivial⟩⟩⟩⟩⟩⟩ ?_
      exact hK7 _ _ _ _ _ _ hr
    refine r_icmp_le 42 rfl rfl (fun c14 => ?_) (fun c14 => ?_)
    · refine r_iload rfl rfl ?_
      first | contradiction | simpa only [if_pos c14] using j16
    · refine r_iload rfl rfl ?_
      refine r_goto 43 rfl rfl ?_
      first | contradiction | simpa only [if_neg c14] using j16
  refine r_icmp_le 34 rfl rfl (fun c13 => ?_) (fun c13 => ?_)
  · refine r_aload rfl rfl ?_
    refine r_getI (c := 8) (k := 28) rfl rfl ⟨rfl, rfl⟩ ?_
    first | contradiction | simpa only [if_pos c13] using j15
  · refine r_iload rfl rfl ?_
    refine r_goto 36 rfl rfl ?_
    first | contradiction | simpa only [if_neg c13] using j15
def r_X8_bestFit_7   : Nat → Int32 → Int32 → Int32 → Int32 → (Nat → Nat → Int32) → (Nat → Nat → Int64) → Option gRs
  | 0, _, _, _, _, _, _ => none
  | m + 1, v1, v2, v3, v4, I, L => ((r_X8_power I L ((I 57 2) * (I 57 1)) v2).bind (fun z17 => (if z17.1 ≤ v4 then some (v3, z17.2.1, z17.2.2) else ((r_X8_driveRow z17.2.1 z17.2.2 v2 v4).bind (fun z19 => (if z19.1 = 0 then (r_X8_bestFit_27 (r_X8_bestFit_7  m) v1 v2 v3 v4 (-9 : Int32) z19.2.1 z19.2.2) else ((r_X8_fitOn z19.2.1 z19.2.2 (nI 1) v1).bind (fun z21 => (r_X8_bestFit_27 (r_X8_bestFit_7  m) v1 v2 v3 v4 z21.1 z21.2.1 z21.2.2)))))))))
set_option maxHeartbeats 4000000 in
set_option maxRecDepth 100000 in
theorem t_X8_bestFit_7 {n f g d : Nat} {Q : gP} {z : gRs}    : ∀ {m : Nat} {v1 : Int32} {v2 : Int32} {v3 : Int32} {v4 : Int32} {I : Nat → Nat → Int32} {L : Nat → Nat → Int64}, r_X8_bestFit_7 m v1 v2 v3 v4 I L = some z → Q (some (.int z.1)) (gKn n, gRf f g, z.2.1, z.2.2) → gW gM (d + 5) 0 0 k_X8_bestFit 7 [.ref 57, .int v1, .int v2, .int v3, .int v4, .null] [] (gKn n, gRf f g, I, L) Q := by
  intro m
  induction m with
  | zero =>
    intro v1 v2 v3 v4 I L hr _
    cases hr
  | succ m ih =>
    intro v1 v2 v3 v4 I L hr hQ
    have hK7 : ∀ v1 v2 v3 v4 I L, r_X8_bestFit_7 m v1 v2 v3 v4 I L = some z → gW gM (d + 5) 0 0 k_X8_bestFit 7 [.ref 57, .int v1, .int v2, .int v3, .int v4, .null] [] (gKn n, gRf f g, I, L) Q := fun v1 v2 v3 v4 I L hr => ih hr hQ
    unfold r_X8_bestFit_7 at hr
    refine r_iload rfl rfl ?_
    refine r_aload rfl rfl ?_
    refine r_getI (c := 8) (k := 2) rfl rfl ⟨rfl, rfl⟩ ?_
    refine r_aload rfl rfl ?_
    refine r_getI (c := 8) (k := 1) rfl rfl ⟨rfl, rfl⟩ ?_
    refine r_imul rfl ?_
    refine r_iload rfl rfl ?_
    obtain ⟨z17, hz17, hr⟩ := gbnd hr
    refine r_invs [.int ((I 57 2) * (I 57 1)), .int v2] rfl rfl rfl rfl (Nat.le_of_ble_eq_true rfl) ⟨rfl, rfl⟩ ?_
    refine s_X8_power  hz17 ?_
    show gW _ _ _ _ _ 15 [.ref 57, .int v1, .int v2, .int v3, .int v4, .null] [.int z17.1, .int v4] (gKn n, gRf f g, z17.2.1, z17.2.2) _
    refine r_icmp_ge 46 rfl rfl (fun c18 => ?_) (fun c18 => ?_)
    · rw [if_pos c18] at hr
      refine r_iload rfl rfl ?_
      refine r_iret rfl ?_
      cases hr
      exact hQ
    · rw [if_neg c18] at hr
      refine r_aload rfl rfl ?_
      refine r_iload rfl rfl ?_
      refine r_iload rfl rfl ?_
      obtain ⟨z19, hz19, hr⟩ := gbnd hr
      refine r_invv (a := 57) [.int v2, .int v4] rfl rfl rfl rfl rfl (Nat.le_of_ble_eq_true rfl) ⟨rfl, rfl⟩ ?_
      refine s_X8_driveRow  hz19 ?_
      show gW _ _ _ _ _ 20 [.ref 57, .int v1, .int v2, .int v3, .int v4, .null] [.int z19.1] (gKn n, gRf f g, z19.2.1, z19.2.2) _
      refine r_if_eq 26 rfl rfl (fun c20 => ?_) (fun c20 => ?_)
      · rw [if_pos c20] at hr
        refine r_const rfl (v := -9) (by decide) ?_
        exact t_X8_bestFit_27 hK7 hr hQ
      · rw [if_neg c20] at hr
        refine r_aload rfl rfl ?_
        refine r_const rfl (gcst 1) ?_
        refine r_iload rfl rfl ?_
        obtain ⟨z21, hz21, hr⟩ := gbnd hr
        refine r_invv (a := 57) [.int (nI 1), .int v1] rfl rfl rfl rfl rfl (Nat.le_of_ble_eq_true rfl) ⟨rfl, rfl⟩ ?_
        refine s_X8_fitOn  hz21 ?_
        show gW _ _ _ _ _ 25 [.ref 57, .int v1, .int v2, .int v3, .int v4, .null] [.int z21.1] (gKn n, gRf f g, z21.2.1, z21.2.2) _
        refine r_goto 27 rfl rfl ?_
        exact t_X8_bestFit_27 hK7 hr hQ
def r_X8_bestFit (I : Nat → Nat → Int32) (L : Nat → Nat → Int64) (a1 : Int32) (a2 : Int32) : Option gRs := (r_X8_bestFit_7 4000 a1 a2 (-9 : Int32) (nI 0) (gu2 I 57 28 (nI 0)) L)
set_option maxHeartbeats 4000000 in
set_option maxRecDepth 100000 in
theorem s_X8_bestFit {n f g d : Nat} {Q : gP} {I : Nat → Nat → Int32} {L : Nat → Nat → Int64} {a1 : Int32} {a2 : Int32} {z : gRs}  (hr : r_X8_bestFit I L a1 a2 = some z) (hQ : Q (some (.int z.1)) (gKn n, gRf f g, z.2.1, z.2.2)) : gR gM (d + 5) 152 [.ref 57, .int a1, .int a2] (gKn n, gRf f g, I, L) Q := by
  unfold r_X8_bestFit at hr
  show gW gM (d + 5) 0 0 k_X8_bestFit 0 [.ref 57, .int a1, .int a2, .null, .null, .null] [] (gKn n, gRf f g, I, L) Q
  refine r_const rfl (v := -9) (by decide) ?_
  refine r_istore [.ref 57, .int a1, .int a2, .int (-9 : Int32), .null, .null] rfl rfl (Nat.le_of_ble_eq_true rfl) rfl ?_
  refine r_aload rfl rfl ?_
  refine r_const rfl (gcst 0) ?_
  refine r_putI (c := 8) (k := 28) rfl rfl ⟨rfl, rfl⟩ ?_
  refine r_const rfl (gcst 0) ?_
  refine r_istore [.ref 57, .int a1, .int a2, .int (-9 : Int32), .int (nI 0), .null] rfl rfl (Nat.le_of_ble_eq_true rfl) rfl ?_
  exact t_X8_bestFit_7  hr hQ
def r_X8_best_30   (v4 : Int32) (I : Nat → Nat → Int32) (L : Nat → Nat → Int64) : Option gRs := some (v4, I, L)
set_option maxHeartbeats 4000000 in
set_option maxRecDepth 100000 in
theorem t_X8_best_30 {n f g d : Nat} {Q : gP} {z : gRs}    {v4 : Int32} {I : Nat → Nat → Int32} {L : Nat → Nat → Int64} (hr : r_X8_best_30 v4 I L = some z) (hQ : Q (some (.int z.1)) (gKn n, gRf f g, z.2.1, z.2.2)) : gW gM (d + 6) 0 0 k_X8_best 30 [.null, .null, .null, .null, .int v4] [] (gKn n, gRf f g, I, L) Q := by
  unfold r_X8_best_30 at hr
  refine r_iload rfl rfl ?_
  refine r_iret rfl ?_
  cases hr
  exact hQ
def r_X8_best (I : Nat → Nat → Int32) (L : Nat → Nat → Int64) (a1 : Int32) (a2 : Int32) (a3 : Int32) : Option gRs := ((r_X8_isVerse I L a1).bind (fun z15 => (if ¬ z15.1 = 0 then (if ¬ (f_X8_in z15.2.1 z15.2.2 (Int32.toInt64 a2) (lN 1) (lN 3)) = 0 then ((r_X8_bestFit z15.2.1 z15.2.2 a1 a2).bind (fun z18 => (if a3 = 0 then (r_X8_best_30 z18.1 z18.2.1 z18.2.2) else (if z18.1 = (-9 : Int32) then (r_X8_best_30 z18.1 z18.2.1 z18.2.2) else ((r_X8_told z18.2.1 z18.2.2 a2 (z18.2.1 57 28)).bind (fun z21 => some (z21.1, z21.2.1, z21.2.2))))))) else some ((-2 : Int32), z15.2.1, z15.2.2)) else some ((-1 : Int32), z15.2.1, z15.2.2))))
set_option maxHeartbeats 4000000 in
set_option maxRecDepth 100000 in
theorem s_X8_best {n f g d : Nat} {Q : gP} {I : Nat → Nat → Int32} {L : Nat → Nat → Int64} {a1 : Int32} {a2 : Int32} {a3 : Int32} {z : gRs}  (hr : r_X8_best I L a1 a2 a3 = some z) (hQ : Q (some (.int z.1)) (gKn n, gRf f g, z.2.1, z.2.2)) : gR gM (d + 6) 153 [.ref 57, .int a1, .int a2, .int a3] (gKn n, gRf f g, I, L) Q := by
  unfold r_X8_best at hr
  show gW gM (d + 6) 0 0 k_X8_best 0 [.ref 57, .int a1, .int a2, .int a3, .null] [] (gKn n, gRf f g, I, L) Q
  refine r_aload rfl rfl ?_
  refine r_iload rfl rfl ?_
  obtain ⟨z15, hz15, hr⟩ := gbnd hr
  refine r_invv (a := 57) [.int a1] rfl rfl rfl rfl rfl (Nat.le_of_ble_eq_true rfl) ⟨rfl, rfl⟩ ?_
  refine s_X8_isVerse  hz15 ?_
  show gW _ _ _ _ _ 3 [.ref 57, .int a1, .int a2, .int a3, .null] [.int z15.1] (gKn n, gRf f g, z15.2.1, z15.2.2) _
  refine r_if_ne 6 rfl rfl (fun c16 => ?_) (fun c16 => ?_)
  · rw [if_pos c16] at hr
    refine r_iload rfl rfl ?_
    refine r_i2l rfl ?_
    refine r_lconst (v := lN 1) rfl rfl ?_
    refine r_lconst (v := lN 3) rfl rfl ?_
    refine r_invs [.long (Int32.toInt64 a2), .long (lN 1), .long (lN 3)] rfl rfl rfl rfl (Nat.le_of_ble_eq_true rfl) ⟨rfl, rfl⟩ ?_
    refine s_X8_in  ?_
    show gW _ _ _ _ _ 11 [.ref 57, .int a1, .int a2, .int a3, .null] [.int (f_X8_in z15.2.1 z15.2.2 (Int32.toInt64 a2) (lN 1) (lN 3))] (gKn n, gRf f g, z15.2.1, z15.2.2) _
    refine r_if_ne 14 rfl rfl (fun c17 => ?_) (fun c17 => ?_)
    · rw [if_pos c17] at hr
      refine r_aload rfl rfl ?_
      refine r_iload rfl rfl ?_
      refine r_iload rfl rfl ?_
      obtain ⟨z18, hz18, hr⟩ := gbnd hr
      refine r_invv (a := 57) [.int a1, .int a2] rfl rfl rfl rfl rfl (Nat.le_of_ble_eq_true rfl) ⟨rfl, rfl⟩ ?_
      refine s_X8_bestFit  hz18 ?_
      show gW _ _ _ _ _ 18 [.ref 57, .int a1, .int a2, .int a3, .null] [.int z18.1] (gKn n, gRf f g, z18.2.1, z18.2.2) _
      refine r_istore [.ref 57, .int a1, .int a2, .int a3, .int z18.1] rfl rfl (Nat.le_of_ble_eq_true rfl) rfl ?_
      refine r_iload rfl rfl ?_
      refine r_if_eq 30 rfl rfl (fun c19 => ?_) (fun c19 => ?_)
      · rw [if_pos c19] at hr
        refine gforget (ls := [.null, .null, .null, .null, .int z18.1]) ⟨(Or.inr (Or.inr ⟨rfl, _, rfl⟩)), ⟨(Or.inr (Or.inl ⟨rfl, _, rfl⟩)), ⟨(Or.inr (Or.inl ⟨rfl, _, rfl⟩)), ⟨(Or.inr (Or.inl ⟨rfl, _, rfl⟩)), ⟨(Or.inl rfl), trivial⟩⟩⟩⟩⟩ ?_
        exact t_X8_best_30  hr hQ
      · rw [if_neg c19] at hr
        refine r_iload rfl rfl ?_
        refine r_const rfl (v := -9) (by decide) ?_
        refine r_icmp_eq 30 rfl rfl (fun c20 => ?_) (fun c20 => ?_)
        · rw [if_pos c20] at hr
          refine gforget (ls := [.null, .null, .null, .null, .int z18.1]) ⟨(Or.inr (Or.inr ⟨rfl, _, rfl⟩)), ⟨(Or.inr (Or.inl ⟨rfl, _, rfl⟩)), ⟨(Or.inr (Or.inl ⟨rfl, _, rfl⟩)), ⟨(Or.inr (Or.inl ⟨rfl, _, rfl⟩)), ⟨(Or.inl rfl), trivial⟩⟩⟩⟩⟩ ?_
          exact t_X8_best_30  hr hQ
        · rw [if_neg c20] at hr
          refine r_aload rfl rfl ?_
          refine r_iload rfl rfl ?_
          refine r_aload rfl rfl ?_
          refine r_getI (c := 8) (k := 28) rfl rfl ⟨rfl, rfl⟩ ?_
          obtain ⟨z21, hz21, hr⟩ := gbnd hr
          refine r_invv (a := 57) [.int a2, .int (z18.2.1 57 28)] rfl rfl rfl rfl rfl (Nat.le_of_ble_eq_true rfl) ⟨rfl, rfl⟩ ?_
          refine s_X8_told  hz21 ?_
          show gW _ _ _ _ _ 29 [.ref 57, .int a1, .int a2, .int a3, .int z18.1] [.int z21.1] (gKn n, gRf f g, z21.2.1, z21.2.2) _
          refine r_goto 31 rfl rfl ?_
          refine r_iret rfl ?_
          cases hr
          exact hQ
    · rw [if_neg c17] at hr
      refine r_const rfl (v := -2) (by decide) ?_
      refine r_iret rfl ?_
      cases hr
      exact hQ
  · rw [if_neg c16] at hr
    refine r_const rfl (v := -1) (by decide) ?_
    refine r_iret rfl ?_
    cases hr
    exact hQ
