/-! FUNCTIONS (dec.py, dec2.py) -/
def f_X7_turnsOut (f g : Nat) (I : Nat → Nat → Int32) (L : Nat → Nat → Int64) (a1 : Nat) (a2 : Int32) : Int32 := (if (if (f_X1_isBeast I L f a2) = 0 then true else (if ¬ (f_X4_isHome I L a1 a2) = 0 then false else true)) = true then (nI 0) else (nI 1))
def i_X7_turnsOut (f g : Nat) (I : Nat → Nat → Int32) (L : Nat → Nat → Int64) (a1 : Nat) (a2 : Int32) : Nat → Nat → Int32 := (if (if (f_X1_isBeast I L f a2) = 0 then true else (if ¬ (f_X4_isHome I L a1 a2) = 0 then false else true)) = true then I else (gu2 I a1 4 ((I a1 4) ^^^ (gshl (nI 1) a2))))
set_option maxHeartbeats 4000000 in
set_option maxRecDepth 100000 in
theorem s_X7_turnsOut {n f g d : Nat} {Q : gP} {I : Nat → Nat → Int32} {L : Nat → Nat → Int64} {a1 : Nat} {a2 : Int32} (hw : gfw f g) (h1 : gmo a1 = true) (hQ : Q (some (.int (f_X7_turnsOut f g I L a1 a2))) (gKn n, gRf f g, i_X7_turnsOut f g I L a1 a2, L)) : gR gM (d + 1) 97 [.ref 2, .ref a1, .int a2] (gKn n, gRf f g, I, L) Q := by
  have hfe := hw.f
  have hfd := hw.g
  unfold f_X7_turnsOut i_X7_turnsOut at hQ
  show gW gM (d + 1) 0 0 k_X7_turnsOut 0 [.ref 2, .ref a1, .int a2] [] (gKn n, gRf f g, I, L) Q
  refine r_aload rfl rfl ?_
  refine r_getR (c := 7) (k := 2) (v := f) rfl rfl ⟨rfl, rfl⟩ rfl ?_
  refine r_iload rfl rfl ?_
  refine r_invv (a := f) [.int a2] rfl rfl (shFen hfe) rfl rfl (Nat.le_of_ble_eq_true rfl) ⟨rfl, rfl⟩ ?_
  refine s_X1_isBeast hfe ?_
  show gW _ _ _ _ _ 4 [.ref 2, .ref a1, .int a2] [.int (f_X1_isBeast I L f a2)] (gKn n, gRf f g, I, L) _
  have j5 : (if (f_X1_isBeast I L f a2) = 0 then true else (if ¬ (f_X4_isHome I L a1 a2) = 0 then false else true)) = true → gW gM (d + 1) 0 0 k_X7_turnsOut 9 [.ref 2, .ref a1, .int a2] [] (gKn n, gRf f g, I, L) Q := by
    intro hq
    try simp only [if_pos hq] at hQ
    refine r_const rfl (gcst 0) ?_
    refine r_zret rfl (Or.inl rfl) ?_
    first | exact hQ | simpa only [if_true] using hQ
  refine r_if_eq 9 rfl rfl (fun c2 => ?_) (fun c2 => ?_)
  · try simp only [if_pos c2] at hQ
    have hx := j5
    simp only [if_pos c2] at hx ⊢
    exact hx (by first | trivial | rfl)
  · try simp only [if_neg c2] at hQ
    refine r_aload rfl rfl ?_
    refine r_iload rfl rfl ?_
    refine r_invv (a := a1) [.int a2] rfl rfl (shMom h1) rfl rfl (Nat.le_of_ble_eq_true rfl) ⟨rfl, rfl⟩ ?_
    refine s_X4_isHome h1 ?_
    show gW _ _ _ _ _ 8 [.ref 2, .ref a1, .int a2] [.int (f_X4_isHome I L a1 a2)] (gKn n, gRf f g, I, L) _
    refine r_if_ne 11 rfl rfl (fun c4 => ?_) (fun c4 => ?_)
    · try simp only [if_pos c4] at hQ
      refine r_aload rfl rfl ?_
      refine r_dup rfl rfl ?_
      refine r_getI (c := 4) (k := 4) rfl (shMom h1) ⟨rfl, rfl⟩ ?_
      refine r_const rfl (gcst 1) ?_
      refine r_iload rfl rfl ?_
      refine r_ishl rfl ?_
      refine r_ixor rfl ?_
      refine r_putI (c := 4) (k := 4) rfl (shMom h1) ⟨rfl, rfl⟩ ?_
      refine r_const rfl (gcst 1) ?_
      refine r_zret rfl (Or.inr rfl) ?_
      try simp only [Bool.false_eq_true, if_false] at hQ
      first | exact hQ | simpa only [if_neg c2, if_pos c4] using hQ
    · try simp only [if_neg c4] at hQ
      have hx := j5
      simp only [if_neg c2, if_neg c4] at hx ⊢
      exact hx (by first | trivial | rfl)
def r_X7_goesHome (f g : Nat) (I : Nat → Nat → Int32) (L : Nat → Nat → Int64) (a1 : Nat) (a2 : Int32) (a3 : Int32) : Option gRs := (if ¬ (f_X1_canGoHome I L f a1 a2 a3) = 0 then ((r_X1_sendHome I L f a1 a2 a3 53).bind (fun z4 => some ((nI 1), z4.2.1, z4.2.2))) else some ((nI 0), I, L))
set_option maxHeartbeats 4000000 in
set_option maxRecDepth 100000 in
theorem s_X7_goesHome {n f g d : Nat} {Q : gP} {I : Nat → Nat → Int32} {L : Nat → Nat → Int64} {a1 : Nat} {a2 : Int32} {a3 : Int32} {z : gRs} (hw : gfw f g) (h1 : gmo a1 = true) (hr : r_X7_goesHome f g I L a1 a2 a3 = some z) (hQ : Q (some (.int z.1)) (gKn n, gRf f g, z.2.1, z.2.2)) : gR gM (d + 4) 98 [.ref 2, .ref a1, .int a2, .int a3] (gKn n, gRf f g, I, L) Q := by
  have hfe := hw.f
  have hfd := hw.g
  unfold r_X7_goesHome at hr
  show gW gM (d + 4) 0 0 k_X7_goesHome 0 [.ref 2, .ref a1, .int a2, .int a3] [] (gKn n, gRf f g, I, L) Q
  refine r_aload rfl rfl ?_
  refine r_getR (c := 7) (k := 2) (v := f) rfl rfl ⟨rfl, rfl⟩ rfl ?_
  refine r_aload rfl rfl ?_
  refine r_iload rfl rfl ?_
  refine r_iload rfl rfl ?_
  refine r_invv (a := f) [.ref a1, .int a2, .int a3] rfl rfl (shFen hfe) rfl rfl (Nat.le_of_ble_eq_true rfl) ⟨rfl, rfl⟩ ?_
  refine s_X1_canGoHome hfe h1 ?_
  show gW _ _ _ _ _ 6 [.ref 2, .ref a1, .int a2, .int a3] [.int (f_X1_canGoHome I L f a1 a2 a3)] (gKn n, gRf f g, I, L) _
  refine r_if_ne 9 rfl rfl (fun c3 => ?_) (fun c3 => ?_)
  · rw [if_pos c3] at hr
    refine r_aload rfl rfl ?_
    refine r_getR (c := 7) (k := 2) (v := f) rfl rfl ⟨rfl, rfl⟩ rfl ?_
    refine r_aload rfl rfl ?_
    refine r_iload rfl rfl ?_
    refine r_iload rfl rfl ?_
    refine r_aload rfl rfl ?_
    refine r_getR (c := 7) (k := 12) (v := 53) rfl rfl ⟨rfl, rfl⟩ rfl ?_
    obtain ⟨z4, hz4, hr⟩ := gbnd hr
    refine r_invv (a := f) [.ref a1, .int a2, .int a3, .ref 53] rfl rfl (shFen hfe) rfl rfl (Nat.le_of_ble_eq_true rfl) ⟨rfl, rfl⟩ ?_
    refine s_X1_sendHome hfe h1 rfl hz4 ?_
    show gW _ _ _ _ _ 17 [.ref 2, .ref a1, .int a2, .int a3] [] (gKn n, gRf f g, z4.2.1, z4.2.2) _
    refine r_const rfl (gcst 1) ?_
    refine r_zret rfl (Or.inr rfl) ?_
    cases hr
    exact hQ
  · rw [if_neg c3] at hr
    refine r_const rfl (gcst 0) ?_
    refine r_zret rfl (Or.inl rfl) ?_
    cases hr
    exact hQ
def r_X7_doesDoing_30 (f : Nat) (g : Nat) (a1 : Nat)   (I : Nat → Nat → Int32) (L : Nat → Nat → Int64) : Option gRs := some ((nI 0), I, L)
set_option maxHeartbeats 4000000 in
set_option maxRecDepth 100000 in
theorem t_X7_doesDoing_30 {n f g d : Nat} {Q : gP} {z : gRs} {a1 : Nat} (hw : gfw f g) (h1 : gmo a1 = true)   {I : Nat → Nat → Int32} {L : Nat → Nat → Int64} (hr : r_X7_doesDoing_30 f g a1 I L = some z) (hQ : Q (some (.int z.1)) (gKn n, gRf f g, z.2.1, z.2.2)) : gW gM (d + 5) 0 0 k_X7_doesDoing 30 [.null, .null, .null, .null] [] (gKn n, gRf f g, I, L) Q := by
  have hfe := hw.f
  have hfd := hw.g
  unfold r_X7_doesDoing_30 at hr
  refine r_const rfl (gcst 0) ?_
  refine r_zret rfl (Or.inl rfl) ?_
  cases hr
  exact hQ
def r_X7_doesDoing (f g : Nat) (I : Nat → Nat → Int32) (L : Nat → Nat → Int64) (a1 : Nat) (a2 : Int32) (a3 : Int32) : Option gRs := (if a2 = (nI 5) then (if ((f_X7_togglesOpen f g I L a1 a3) = 0 ∨ (f_X7_togglesOpen f g I L a1 a3) = 1) then some ((f_X7_togglesOpen f g I L a1 a3), (i_X7_togglesOpen f g I L a1 a3), L) else none) else (if a2 = (nI 6) then (if ((f_X7_togglesOil f g I L a1 a3) = 0 ∨ (f_X7_togglesOil f g I L a1 a3) = 1) then some ((f_X7_togglesOil f g I L a1 a3), (i_X7_togglesOil f g I L a1 a3), L) else none) else (if a2 = (nI 7) then (if ((f_X7_turnsOut f g I L a1 a3) = 0 ∨ (f_X7_turnsOut f g I L a1 a3) = 1) then some ((f_X7_turnsOut f g I L a1 a3), (i_X7_turnsOut f g I L a1 a3), L) else none) else (if a2 = (nI 8) then (if (f_X1_isVerse I L f a3) = 0 then (r_X7_doesDoing_30 f g a1 I L) else ((r_X7_fitIn f g I L a1 a3).bind (fun z33 => (if z33.1 < (nI 3) then (r_X7_doesDoing_30 f g a1 z33.2.1 z33.2.2) else some ((nI 1), z33.2.1, z33.2.2))))) else ((r_X7_goesHome f g I L a1 a2 a3).bind (fun z35 => (if (z35.1 = 0 ∨ z35.1 = 1) then some (z35.1, z35.2.1, z35.2.2) else none)))))))
set_option maxHeartbeats 4000000 in
set_option maxRecDepth 100000 in
theorem s_X7_doesDoing {n f g d : Nat} {Q : gP} {I : Nat → Nat → Int32} {L : Nat → Nat → Int64} {a1 : Nat} {a2 : Int32} {a3 : Int32} {z : gRs} (hw : gfw f g) (h1 : gmo a1 = true) (hr : r_X7_doesDoing f g I L a1 a2 a3 = some z) (hQ : Q (some (.int z.1)) (gKn n, gRf f g, z.2.1, z.2.2)) : gR gM (d + 5) 94 [.ref 2, .ref a1, .int a2, .int a3] (gKn n, gRf f g, I, L) Q := by
  have hfe := hw.f
  have hfd := hw.g
  unfold r_X7_doesDoing at hr
  show gW gM (d + 5) 0 0 k_X7_doesDoing 0 [.ref 2, .ref a1, .int a2, .int a3] [] (gKn n, gRf f g, I, L) Q
  refine r_iload rfl rfl ?_
  by_cases c25 : a2 = (nI 5)
  · rw [if_pos c25] at hr
    refine r_tsw 2 rfl (by rw [c25]; decide +kernel) ?_
    refine r_aload rfl rfl ?_
    refine r_aload rfl rfl ?_
    refine r_iload rfl rfl ?_
    refine r_invv (a := 2) [.ref a1, .int a3] rfl rfl rfl rfl rfl (Nat.le_of_ble_eq_true rfl) ⟨rfl, rfl⟩ ?_
    refine s_X7_togglesOpen hw h1 ?_
    show gW _ _ _ _ _ 6 [.ref 2, .ref a1, .int a2, .int a3] [.int (f_X7_togglesOpen f g I L a1 a3)] (gKn n, gRf f g, (i_X7_togglesOpen f g I L a1 a3), L) _
    obtain ⟨b26, hr⟩ := gopt hr
    refine r_zret rfl b26 ?_
    cases hr
    exact hQ
  · rw [if_neg c25] at hr
    by_cases c27 : a2 = (nI 6)
    · rw [if_pos c27] at hr
      refine r_tsw 7 rfl (by rw [c27]; decide +kernel) ?_
      refine r_aload rfl rfl ?_
      refine r_aload rfl rfl ?_
      refine r_iload rfl rfl ?_
      refine r_invv (a := 2) [.ref a1, .int a3] rfl rfl rfl rfl rfl (Nat.le_of_ble_eq_true rfl) ⟨rfl, rfl⟩ ?_
      refine s_X7_togglesOil hw h1 ?_
      show gW _ _ _ _ _ 11 [.ref 2, .ref a1, .int a2, .int a3] [.int (f_X7_togglesOil f g I L a1 a3)] (gKn n, gRf f g, (i_X7_togglesOil f g I L a1 a3), L) _
      obtain ⟨b28, hr⟩ := gopt hr
      refine r_zret rfl b28 ?_
      cases hr
      exact hQ
    · rw [if_neg c27] at hr
      by_cases c29 : a2 = (nI 7)
      · rw [if_pos c29] at hr
        refine r_tsw 12 rfl (by rw [c29]; decide +kernel) ?_
        refine r_aload rfl rfl ?_
        refine r_aload rfl rfl ?_
        refine r_iload rfl rfl ?_
        refine r_invv (a := 2) [.ref a1, .int a3] rfl rfl rfl rfl rfl (Nat.le_of_ble_eq_true rfl) ⟨rfl, rfl⟩ ?_
        refine s_X7_turnsOut hw h1 ?_
        show gW _ _ _ _ _ 16 [.ref 2, .ref a1, .int a2, .int a3] [.int (f_X7_turnsOut f g I L a1 a3)] (gKn n, gRf f g, (i_X7_turnsOut f g I L a1 a3), L) _
        obtain ⟨b30, hr⟩ := gopt hr
        refine r_zret rfl b30 ?_
        cases hr
        exact hQ
      · rw [if_neg c29] at hr
        by_cases c31 : a2 = (nI 8)
        · rw [if_pos c31] at hr
          refine r_tsw 17 rfl (by rw [c31]; decide +kernel) ?_
          refine r_aload rfl rfl ?_
          refine r_getR (c := 7) (k := 2) (v := f) rfl rfl ⟨rfl, rfl⟩ rfl ?_
          refine r_iload rfl rfl ?_
          refine r_invv (a := f) [.int a3] rfl rfl (shFen hfe) rfl rfl (Nat.le_of_ble_eq_true rfl) ⟨rfl, rfl⟩ ?_
          refine s_X1_isVerse hfe ?_
          show gW _ _ _ _ _ 21 [.ref 2, .ref a1, .int a2, .int a3] [.int (f_X1_isVerse I L f a3)] (gKn n, gRf f g, I, L) _
          refine r_if_eq 30 rfl rfl (fun c32 => ?_) (fun c32 => ?_)
          · rw [if_pos c32] at hr
            refine gforget (ls := [.null, .null, .null, .null]) ⟨(Or.inr (Or.inr ⟨rfl, _, rfl⟩)), ⟨(Or.inr (Or.inr ⟨rfl, _, rfl⟩)), ⟨(Or.inr (Or.inl ⟨rfl, _, rfl⟩)), ⟨(Or.inr (Or.inl ⟨rfl, _, rfl⟩)), trivial⟩⟩⟩⟩ ?_
            exact t_X7_doesDoing_30 hw h1 hr hQ
          · rw [if_neg c32] at hr
            refine r_aload rfl rfl ?_
            refine r_aload rfl rfl ?_
            refine r_iload rfl rfl ?_
            obtain ⟨z33, hz33, hr⟩ := gbnd hr
            refine r_invv (a := 2) [.ref a1, .int a3] rfl rfl rfl rfl rfl (Nat.le_of_ble_eq_true rfl) ⟨rfl, rfl⟩ ?_
            refine s_X7_fitIn hw h1 hz33 ?_
            show gW _ _ _ _ _ 26 [.ref 2, .ref a1, .int a2, .int a3] [.int z33.1] (gKn n, gRf f g, z33.2.1, z33.2.2) _
            refine r_const rfl (gcst 3) ?_
            refine r_icmp_lt 30 rfl rfl (fun c34 => ?_) (fun c34 => ?_)
            · rw [if_pos c34] at hr
              refine gforget (ls := [.null, .null, .null, .null]) ⟨(Or.inr (Or.inr ⟨rfl, _, rfl⟩)), ⟨(Or.inr (Or.inr ⟨rfl, _, rfl⟩)), ⟨(Or.inr (Or.inl ⟨rfl, _, rfl⟩)), ⟨(Or.inr (Or.inl ⟨rfl, _, rfl⟩)), trivial⟩⟩⟩⟩ ?_
              exact t_X7_doesDoing_30 hw h1 hr hQ
            · rw [if_neg c34] at hr
              refine r_const rfl (gcst 1) ?_
              refine r_goto 31 rfl rfl ?_
              refine r_zret rfl (Or.inr rfl) ?_
              cases hr
              exact hQ
        · rw [if_neg c31] at hr
          refine r_tsw 32 rfl (gtab_df rfl (fun z h1 h2 e => by
              rcases (by omega : z = 5 ∨ z = 6 ∨ z = 7 ∨ z = 8) with rfl | rfl | rfl | rfl
              · exact c25 (gI_of_toInt e)
              · exact c27 (gI_of_toInt e)
              · exact c29 (gI_of_toInt e)
              · exact c31 (gI_of_toInt e))) ?_
          refine r_aload rfl rfl ?_
          refine r_aload rfl rfl ?_
          refine r_iload rfl rfl ?_
          refine r_iload rfl rfl ?_
          obtain ⟨z35, hz35, hr⟩ := gbnd hr
          refine r_invv (a := 2) [.ref a1, .int a2, .int a3] rfl rfl rfl rfl rfl (Nat.le_of_ble_eq_true rfl) ⟨rfl, rfl⟩ ?_
          refine s_X7_goesHome hw h1 hz35 ?_
          show gW _ _ _ _ _ 37 [.ref 2, .ref a1, .int a2, .int a3] [.int z35.1] (gKn n, gRf f g, z35.2.1, z35.2.2) _
          obtain ⟨b36, hr⟩ := gopt hr
          refine r_zret rfl b36 ?_
          cases hr
          exact hQ
def r_X7_judge_67 (f : Nat) (g : Nat)   (I : Nat → Nat → Int32) (L : Nat → Nat → Int64) : Option gRs := some ((-9 : Int32), I, L)
set_option maxHeartbeats 4000000 in
set_option maxRecDepth 100000 in
theorem t_X7_judge_67 {n f g d : Nat} {Q : gP} {z : gRs}  (hw : gfw f g)    {I : Nat → Nat → Int32} {L : Nat → Nat → Int64} (hr : r_X7_judge_67 f g I L = some z) (hQ : Q (some (.int z.1)) (gKn n, gRf f g, z.2.1, z.2.2)) : gW gM (d + 6) 0 0 k_X7_judge 67 [.null, .null, .null, .null, .null, .null] [] (gKn n, gRf f g, I, L) Q := by
  have hfe := hw.f
  have hfd := hw.g
  unfold r_X7_judge_67 at hr
  refine r_const rfl (v := -9) (by decide) ?_
  refine r_iret rfl ?_
  cases hr
  exact hQ
def r_X7_judge_37 (f : Nat) (g : Nat)  : Nat → Int32 → Int32 → Int32 → Int32 → (Nat → Nat → Int32) → (Nat → Nat → Int64) → Option gRs
  | 0, _, _, _, _, _, _ => none
  | m + 1, v1, v2, v3, v4, I, L => (if v1 ≤ v4 then (r_X7_judge_67 f g I L) else (if v3 ≤ 0 then (r_X7_judge_67 f g I L) else (if ¬ v3 = 0 then ((r_X7_doesDoing f g I L 19 ((grem (v2 / v3) (nI 100)) / (nI 10)) (grem (grem (v2 / v3) (nI 100)) (nI 10))).bind (fun z31 => (if ¬ z31.1 = 0 then (r_X7_judge_37 f g m v1 v2 (v3 / (nI 100)) (v4 + (nI 1)) z31.2.1 z31.2.2) else some (v4, z31.2.1, z31.2.2)))) else none)))
set_option maxHeartbeats 4000000 in
set_option maxRecDepth 100000 in
theorem t_X7_judge_37 {n f g d : Nat} {Q : gP} {z : gRs}  (hw : gfw f g)   : ∀ {m : Nat} {v1 : Int32} {v2 : Int32} {v3 : Int32} {v4 : Int32} {I : Nat → Nat → Int32} {L : Nat → Nat → Int64}, r_X7_judge_37 f g m v1 v2 v3 v4 I L = some z → Q (some (.int z.1)) (gKn n, gRf f g, z.2.1, z.2.2) → gW gM (d + 6) 0 0 k_X7_judge 37 [.ref 2, .int v1, .int v2, .int v3, .int v4, .null] [] (gKn n, gRf f g, I, L) Q := by
  intro m
  have hfe := hw.f
  have hfd := hw.g
  induction m with
  | zero =>
    intro v1 v2 v3 v4 I L hr _
    cases hr
  | succ m ih =>
    intro v1 v2 v3 v4 I L hr hQ
    have hK37 : ∀ v1 v2 v3 v4 I L, r_X7_judge_37 f g m v1 v2 v3 v4 I L = some z → gW gM (d + 6) 0 0 k_X7_judge 37 [.ref 2, .int v1, .int v2, .int v3, .int v4, .null] [] (gKn n, gRf f g, I, L) Q := fun v1 v2 v3 v4 I L hr => ih hr hQ
    unfold r_X7_judge_37 at hr
    refine r_iload rfl rfl ?_
    refine r_iload rfl rfl ?_
    refine r_icmp_ge 67 rfl rfl (fun c28 => ?_) (fun c28 => ?_)
    · rw [if_pos c28] at hr
      refine gforget (ls := [.null, .null, .null, .null, .null, .null]) ⟨(Or.inr (Or.inr ⟨rfl, _, rfl⟩)), ⟨(Or.inr (Or.inl ⟨rfl, _, rfl⟩)), ⟨(Or.inr (Or.inl ⟨rfl, _, rfl⟩)), ⟨(Or.inr (Or.inl ⟨rfl, _, rfl⟩)), ⟨(Or.inr (Or.inl ⟨rfl, _, rfl⟩)), ⟨(Or.inl rfl), trivial⟩⟩⟩⟩⟩⟩ ?_
      exact t_X7_judge_67 hw hr hQ
    · rw [if_neg c28] at hr
      refine r_iload rfl rfl ?_
      refine r_if_le 67 rfl rfl (fun c29 => ?_) (fun c29 => ?_)
      · rw [if_pos c29] at hr
        refine gforget (ls := [.null, .null, .null, .null, .null, .null]) ⟨(Or.inr (Or.inr ⟨rfl, _, rfl⟩)), ⟨(Or.inr (Or.inl ⟨rfl, _, rfl⟩)), ⟨(Or.inr (Or.inl ⟨rfl, _, rfl⟩)), ⟨(Or.inr (Or.inl ⟨rfl, _, rfl⟩)), ⟨(Or.inr (Or.inl ⟨rfl, _, rfl⟩)), ⟨(Or.inl rfl), trivial⟩⟩⟩⟩⟩⟩ ?_
        exact t_X7_judge_67 hw hr hQ
      · rw [if_neg c29] at hr
        refine r_iload rfl rfl ?_
        refine r_iload rfl rfl ?_
        obtain ⟨b30, hr⟩ := gopt hr
        refine r_idiv rfl b30 ?_
        refine r_const rfl (gcst 100) ?_
        refine r_irem rfl (nI_ne0 (n := 100) (by decide) (by decide)) ?_
        refine r_istore [.ref 2, .int v1, .int v2, .int v3, .int v4, .int (grem (v2 / v3) (nI 100))] rfl rfl (Nat.le_of_ble_eq_true rfl) rfl ?_
        refine r_aload rfl rfl ?_
        refine r_aload rfl rfl ?_
        refine r_getR (c := 7) (k := 5) (v := 19) rfl rfl ⟨rfl, rfl⟩ rfl ?_
        refine r_iload rfl rfl ?_
        refine r_const rfl (gcst 10) ?_
        refine r_idiv rfl (nI_ne0 (n := 10) (by decide) (by decide)) ?_
        refine r_iload rfl rfl ?_
        refine r_const rfl (gcst 10) ?_
        refine r_irem rfl (nI_ne0 (n := 10) (by decide) (by decide)) ?_
        obtain ⟨z31, hz31, hr⟩ := gbnd hr
        refine r_invv (a := 2) [.ref 19, .int ((grem (v2 / v3) (nI 100)) / (nI 10)), .int (grem (grem (v2 / v3) (nI 100)) (nI 10))] rfl rfl rfl rfl rfl (Nat.le_of_ble_eq_true rfl) ⟨rfl, rfl⟩ ?_
        refine s_X7_doesDoing hw rfl hz31 ?_
        show gW _ _ _ _ _ 58 [.ref 2, .int v1, .int v2, .int v3, .int v4, .int (grem (v2 / v3) (nI 100))] [.int z31.1] (gKn n, gRf f g, z31.2.1, z31.2.2) _
        refine r_if_ne 61 rfl rfl (fun c32 => ?_) (fun c32 => ?_)
        · rw [if_pos c32] at hr
          refine r_iload rfl rfl ?_
          refine r_const rfl (gcst 100) ?_
          refine r_idiv rfl (nI_ne0 (n := 100) (by decide) (by decide)) ?_
          refine r_istore [.ref 2, .int v1, .int v2, .int (v3 / (nI 100)), .int v4, .int (grem (v2 / v3) (nI 100))] rfl rfl (Nat.le_of_ble_eq_true rfl) rfl ?_
          refine r_iinc (y := (v4 + (nI 1))) [.ref 2, .int v1, .int v2, .int (v3 / (nI 100)), .int (v4 + (nI 1)), .int (grem (v2 / v3) (nI 100))] rfl rfl rfl (ginc _ 1) rfl ?_
          refine r_goto 37 rfl rfl ?_
          refine gforget (ls := [.ref 2, .int v1, .int v2, .int (v3 / (nI 100)), .int (v4 + (nI 1)), .null]) ⟨(Or.inl rfl), ⟨(Or.inl rfl), ⟨(Or.inl rfl), ⟨(Or.inl rfl), ⟨(Or.inl rfl), ⟨(Or.inr (Or.inl ⟨rfl, _, rfl⟩)), trivial⟩⟩⟩⟩⟩⟩ ?_
          exact hK37 _ _ _ _ _ _ hr
        · rw [if_neg c32] at hr
          refine r_iload rfl rfl ?_
          refine r_iret rfl ?_
          cases hr
          exact hQ
def r_X7_judge_28 (f : Nat) (g : Nat)   (I : Nat → Nat → Int32) (L : Nat → Nat → Int64) : Option gRs := some ((-2 : Int32), I, L)
set_option maxHeartbeats 4000000 in
set_option maxRecDepth 100000 in
theorem t_X7_judge_28 {n f g d : Nat} {Q : gP} {z : gRs}  (hw : gfw f g)    {I : Nat → Nat → Int32} {L : Nat → Nat → Int64} (hr : r_X7_judge_28 f g I L = some z) (hQ : Q (some (.int z.1)) (gKn n, gRf f g, z.2.1, z.2.2)) : gW gM (d + 6) 0 0 k_X7_judge 28 [.null, .null, .null, .null, .null, .null] [] (gKn n, gRf f g, I, L) Q := by
  have hfe := hw.f
  have hfd := hw.g
  unfold r_X7_judge_28 at hr
  refine r_const rfl (v := -2) (by decide) ?_
  refine r_iret rfl ?_
  cases hr
  exact hQ
def r_X7_judge_12 (f : Nat) (g : Nat)  : Nat → Int32 → Int32 → Int32 → Int32 → (Nat → Nat → Int32) → (Nat → Nat → Int64) → Option gRs
  | 0, _, _, _, _, _, _ => none
  | m + 1, v1, v2, v3, v4, I, L => (if v1 ≤ v4 then (if v2 < 0 then (r_X7_judge_28 f g I L) else (if (v2 / (nI 100)) < v3 then (r_X7_judge_37 f g 100 v1 v2 v3 (nI 0) (i_X4_become I L 19 18) (l_X4_become I L 19 18)) else (r_X7_judge_28 f g I L))) else (r_X7_judge_12 f g m v1 v2 (v3 * (nI 100)) (v4 + (nI 1)) I L))
set_option maxHeartbeats 4000000 in
set_option maxRecDepth 100000 in
theorem t_X7_judge_12 {n f g d : Nat} {Q : gP} {z : gRs}  (hw : gfw f g)   : ∀ {m : Nat} {v1 : Int32} {v2 : Int32} {v3 : Int32} {v4 : Int32} {I : Nat → Nat → Int32} {L : Nat → Nat → Int64}, r_X7_judge_12 f g m v1 v2 v3 v4 I L = some z → Q (some (.int z.1)) (gKn n, gRf f g, z.2.1, z.2.2) → gW gM (d + 6) 0 0 k_X7_judge 12 [.ref 2, .int v1, .int v2, .int v3, .int v4, .null] [] (gKn n, gRf f g, I, L) Q := by
  intro m
  have hfe := hw.f
  have hfd := hw.g
  induction m with
  | zero =>
    intro v1 v2 v3 v4 I L hr _
    cases hr
  | succ m ih =>
    intro v1 v2 v3 v4 I L hr hQ
    have hK12 : ∀ v1 v2 v3 v4 I L, r_X7_judge_12 f g m v1 v2 v3 v4 I L = some z → gW gM (d + 6) 0 0 k_X7_judge 12 [.ref 2, .int v1, .int v2, .int v3, .int v4, .null] [] (gKn n, gRf f g, I, L) Q := fun v1 v2 v3 v4 I L hr => ih hr hQ
    unfold r_X7_judge_12 at hr
    refine r_iload rfl rfl ?_
    refine r_iload rfl rfl ?_
    refine r_icmp_ge 21 rfl rfl (fun c33 => ?_) (fun c33 => ?_)
    · rw [if_pos c33] at hr
      refine r_iload rfl rfl ?_
      refine r_if_lt 28 rfl rfl (fun c34 => ?_) (fun c34 => ?_)
      · rw [if_pos c34] at hr
        refine gforget (ls := [.null, .null, .null, .null, .null, .null]) ⟨(Or.inr (Or.inr ⟨rfl, _, rfl⟩)), ⟨(Or.inr (Or.inl ⟨rfl, _, rfl⟩)), ⟨(Or.inr (Or.inl ⟨rfl, _, rfl⟩)), ⟨(Or.inr (Or.inl ⟨rfl, _, rfl⟩)), ⟨(Or.inr (Or.inl ⟨rfl, _, rfl⟩)), ⟨(Or.inl rfl), trivial⟩⟩⟩⟩⟩⟩ ?_
        exact t_X7_judge_28 hw hr hQ
      · rw [if_neg c34] at hr
        refine r_iload rfl rfl ?_
        refine r_const rfl (gcst 100) ?_
        refine r_idiv rfl (nI_ne0 (n := 100) (by decide) (by decide)) ?_
        refine r_iload rfl rfl ?_
        refine r_icmp_lt 30 rfl rfl (fun c35 => ?_) (fun c35 => ?_)
        · rw [if_pos c35] at hr
          refine r_aload rfl rfl ?_
          refine r_getR (c := 7) (k := 5) (v := 19) rfl rfl ⟨rfl, rfl⟩ rfl ?_
          refine r_aload rfl rfl ?_
          refine r_getR (c := 7) (k := 4) (v := 18) rfl rfl ⟨rfl, rfl⟩ rfl ?_
          refine r_invv (a := 19) [.ref 18] rfl rfl rfl rfl rfl (Nat.le_of_ble_eq_true rfl) ⟨rfl, rfl⟩ ?_
          refine s_X4_become rfl rfl ?_
          show gW _ _ _ _ _ 35 [.ref 2, .int v1, .int v2, .int v3, .int v4, .null] [] (gKn n, gRf f g, (i_X4_become I L 19 18), (l_X4_become I L 19 18)) _
          refine r_const rfl (gcst 0) ?_
          refine r_istore [.ref 2, .int v1, .int v2, .int v3, .int (nI 0), .null] rfl rfl (Nat.le_of_ble_eq_true rfl) rfl ?_
          exact t_X7_judge_37 hw hr hQ
        · rw [if_neg c35] at hr
          refine gforget (ls := [.null, .null, .null, .null, .null, .null]) ⟨(Or.inr (Or.inr ⟨rfl, _, rfl⟩)), ⟨(Or.inr (Or.inl ⟨rfl, _, rfl⟩)), ⟨(Or.inr (Or.inl ⟨rfl, _, rfl⟩)), ⟨(Or.inr (Or.inl ⟨rfl, _, rfl⟩)), ⟨(Or.inr (Or.inl ⟨rfl, _, rfl⟩)), ⟨(Or.inl rfl), trivial⟩⟩⟩⟩⟩⟩ ?_
          exact t_X7_judge_28 hw hr hQ
    · rw [if_neg c33] at hr
      refine r_iload rfl rfl ?_
      refine r_const rfl (gcst 100) ?_
      refine r_imul rfl ?_
      refine r_istore [.ref 2, .int v1, .int v2, .int (v3 * (nI 100)), .int v4, .null] rfl rfl (Nat.le_of_ble_eq_true rfl) rfl ?_
      refine r_iinc (y := (v4 + (nI 1))) [.ref 2, .int v1, .int v2, .int (v3 * (nI 100)), .int (v4 + (nI 1)), .null] rfl rfl rfl (ginc _ 1) rfl ?_
      refine r_goto 12 rfl rfl ?_
      exact hK12 _ _ _ _ _ _ hr
def r_X7_judge_6 (f : Nat) (g : Nat)   (I : Nat → Nat → Int32) (L : Nat → Nat → Int64) : Option gRs := some ((-2 : Int32), I, L)
set_option maxHeartbeats 4000000 in
set_option maxRecDepth 100000 in
theorem t_X7_judge_6 {n f g d : Nat} {Q : gP} {z : gRs}  (hw : gfw f g)    {I : Nat → Nat → Int32} {L : Nat → Nat → Int64} (hr : r_X7_judge_6 f g I L = some z) (hQ : Q (some (.int z.1)) (gKn n, gRf f g, z.2.1, z.2.2)) : gW gM (d + 6) 0 0 k_X7_judge 6 [.null, .null, .null, .null, .null, .null] [] (gKn n, gRf f g, I, L) Q := by
  have hfe := hw.f
  have hfd := hw.g
  unfold r_X7_judge_6 at hr
  refine r_const rfl (v := -2) (by decide) ?_
  refine r_iret rfl ?_
  cases hr
  exact hQ
def r_X7_judge (f g : Nat) (I : Nat → Nat → Int32) (L : Nat → Nat → Int64) (a1 : Int32) (a2 : Int32) : Option gRs := (if a1 < (nI 1) then (r_X7_judge_6 f g I L) else (if a1 ≤ (nI 4) then (r_X7_judge_12 f g 100 a1 a2 (nI 1) (nI 1) I L) else (r_X7_judge_6 f g I L)))
set_option maxHeartbeats 4000000 in
set_option maxRecDepth 100000 in
theorem s_X7_judge {n f g d : Nat} {Q : gP} {I : Nat → Nat → Int32} {L : Nat → Nat → Int64} {a1 : Int32} {a2 : Int32} {z : gRs} (hw : gfw f g)  (hr : r_X7_judge f g I L a1 a2 = some z) (hQ : Q (some (.int z.1)) (gKn n, gRf f g, z.2.1, z.2.2)) : gR gM (d + 6) 78 [.ref 2, .int a1, .int a2] (gKn n, gRf f g, I, L) Q := by
  have hfe := hw.f
  have hfd := hw.g
  unfold r_X7_judge at hr
  show gW gM (d + 6) 0 0 k_X7_judge 0 [.ref 2, .int a1, .int a2, .null, .null, .null] [] (gKn n, gRf f g, I, L) Q
  refine r_iload rfl rfl ?_
  refine r_const rfl (gcst 1) ?_
  refine r_icmp_lt 6 rfl rfl (fun c36 => ?_) (fun c36 => ?_)
  · rw [if_pos c36] at hr
    refine gforget (ls := [.null, .null, .null, .null, .null, .null]) ⟨(Or.inr (Or.inr ⟨rfl, _, rfl⟩)), ⟨(Or.inr (Or.inl ⟨rfl, _, rfl⟩)), ⟨(Or.inr (Or.inl ⟨rfl, _, rfl⟩)), ⟨(Or.inl rfl), ⟨(Or.inl rfl), ⟨(Or.inl rfl), trivial⟩⟩⟩⟩⟩⟩ ?_
    exact t_X7_judge_6 hw hr hQ
  · rw [if_neg c36] at hr
    refine r_iload rfl rfl ?_
    refine r_const rfl (gcst 4) ?_
    refine r_icmp_le 8 rfl rfl (fun c37 => ?_) (fun c37 => ?_)
    · rw [if_pos c37] at hr
      refine r_const rfl (gcst 1) ?_
      refine r_istore [.ref 2, .int a1, .int a2, .int (nI 1), .null, .null] rfl rfl (Nat.le_of_ble_eq_true rfl) rfl ?_
      refine r_const rfl (gcst 1) ?_
      refine r_istore [.ref 2, .int a1, .int a2, .int (nI 1), .int (nI 1), .null] rfl rfl (Nat.le_of_ble_eq_true rfl) rfl ?_
      exact t_X7_judge_12 hw hr hQ
    · rw [if_neg c37] at hr
      refine gforget (ls := [.null, .null, .null, .null, .null, .null]) ⟨(Or.inr (Or.inr ⟨rfl, _, rfl⟩)), ⟨(Or.inr (Or.inl ⟨rfl, _, rfl⟩)), ⟨(Or.inr (Or.inl ⟨rfl, _, rfl⟩)), ⟨(Or.inl rfl), ⟨(Or.inl rfl), ⟨(Or.inl rfl), trivial⟩⟩⟩⟩⟩⟩ ?_
      exact t_X7_judge_6 hw hr hQ
def r_X7_hear_15 (f : Nat) (g : Nat)   (I : Nat → Nat → Int32) (L : Nat → Nat → Int64) : Option gRs := some ((-2 : Int32), I, L)
set_option maxHeartbeats 4000000 in
set_option maxRecDepth 100000 in
theorem t_X7_hear_15 {n f g d : Nat} {Q : gP} {z : gRs}  (hw : gfw f g)    {I : Nat → Nat → Int32} {L : Nat → Nat → Int64} (hr : r_X7_hear_15 f g I L = some z) (hQ : Q (some (.int z.1)) (gKn n, gRf f g, z.2.1, z.2.2)) : gW gM (d + 1) 0 0 k_X7_hear 15 [.null, .null, .null, .null] [] (gKn n, gRf f g, I, L) Q := by
  have hfe := hw.f
  have hfd := hw.g
  unfold r_X7_hear_15 at hr
  refine r_const rfl (v := -2) (by decide) ?_
  refine r_iret rfl ?_
  cases hr
  exact hQ
def r_X7_hear (f g : Nat) (I : Nat → Nat → Int32) (L : Nat → Nat → Int64) (a1 : Int32) (a2 : Int32) (a3 : Int32) : Option gRs := (if ¬ (f_X1_isGate I L f a2) = 0 then (if (f_X7_isKind I L a1) = 0 then (r_X7_hear_15 f g I L) else (if a3 < 0 then (r_X7_hear_15 f g I L) else (if a3 ≤ (nI 12) then (if (I 40 3) < (nI 6) then ((r_X2_add I L a1 a2 a3).bind (fun z18 => some ((z18.2.1 40 3), z18.2.1, z18.2.2))) else some ((-4 : Int32), I, L)) else (r_X7_hear_15 f g I L)))) else some ((-1 : Int32), I, L))
set_option maxHeartbeats 4000000 in
set_option maxRecDepth 100000 in
theorem s_X7_hear {n f g d : Nat} {Q : gP} {I : Nat → Nat → Int32} {L : Nat → Nat → Int64} {a1 : Int32} {a2 : Int32} {a3 : Int32} {z : gRs} (hw : gfw f g)  (hr : r_X7_hear f g I L a1 a2 a3 = some z) (hQ : Q (some (.int z.1)) (gKn n, gRf f g, z.2.1, z.2.2)) : gR gM (d + 1) 79 [.ref 2, .int a1, .int a2, .int a3] (gKn n, gRf f g, I, L) Q := by
  have hfe := hw.f
  have hfd := hw.g
  unfold r_X7_hear at hr
  show gW gM (d + 1) 0 0 k_X7_hear 0 [.ref 2, .int a1, .int a2, .int a3] [] (gKn n, gRf f g, I, L) Q
  refine r_aload rfl rfl ?_
  refine r_getR (c := 7) (k := 2) (v := f) rfl rfl ⟨rfl, rfl⟩ rfl ?_
  refine r_iload rfl rfl ?_
  refine r_invv (a := f) [.int a2] rfl rfl (shFen hfe) rfl rfl (Nat.le_of_ble_eq_true rfl) ⟨rfl, rfl⟩ ?_
  refine s_X1_isGate hfe ?_
  show gW _ _ _ _ _ 4 [.ref 2, .int a1, .int a2, .int a3] [.int (f_X1_isGate I L f a2)] (gKn n, gRf f g, I, L) _
  refine r_if_ne 7 rfl rfl (fun c13 => ?_) (fun c13 => ?_)
  · rw [if_pos c13] at hr
    refine r_iload rfl rfl ?_
    refine r_invs [.int a1] rfl rfl rfl rfl (Nat.le_of_ble_eq_true rfl) ⟨rfl, rfl⟩ ?_
    refine s_X7_isKind  ?_
    show gW _ _ _ _ _ 9 [.ref 2, .int a1, .int a2, .int a3] [.int (f_X7_isKind I L a1)] (gKn n, gRf f g, I, L) _
    refine r_if_eq 15 rfl rfl (fun c14 => ?_) (fun c14 => ?_)
    · rw [if_pos c14] at hr
      refine gforget (ls := [.null, .null, .null, .null]) ⟨(Or.inr (Or.inr ⟨rfl, _, rfl⟩)), ⟨(Or.inr (Or.inl ⟨rfl, _, rfl⟩)), ⟨(Or.inr (Or.inl ⟨rfl, _, rfl⟩)), ⟨(Or.inr (Or.inl ⟨rfl, _, rfl⟩)), trivial⟩⟩⟩⟩ ?_
      exact t_X7_hear_15 hw hr hQ
    · rw [if_neg c14] at hr
      refine r_iload rfl rfl ?_
      refine r_if_lt 15 rfl rfl (fun c15 => ?_) (fun c15 => ?_)
      · rw [if_pos c15] at hr
        refine gforget (ls := [.null, .null, .null, .null]) ⟨(Or.inr (Or.inr ⟨rfl, _, rfl⟩)), ⟨(Or.inr (Or.inl ⟨rfl, _, rfl⟩)), ⟨(Or.inr (Or.inl ⟨rfl, _, rfl⟩)), ⟨(Or.inr (Or.inl ⟨rfl, _, rfl⟩)), trivial⟩⟩⟩⟩ ?_
        exact t_X7_hear_15 hw hr hQ
      · rw [if_neg c15] at hr
        refine r_iload rfl rfl ?_
        refine r_const rfl (gcst 12) ?_
        refine r_icmp_le 17 rfl rfl (fun c16 => ?_) (fun c16 => ?_)
        · rw [if_pos c16] at hr
          refine r_aload rfl rfl ?_
          refine r_getR (c := 7) (k := 9) (v := 40) rfl rfl ⟨rfl, rfl⟩ rfl ?_
          refine r_getI (c := 2) (k := 3) rfl rfl ⟨rfl, rfl⟩ ?_
          refine r_const rfl (gcst 6) ?_
          refine r_icmp_lt 24 rfl rfl (fun c17 => ?_) (fun c17 => ?_)
          · rw [if_pos c17] at hr
            refine r_aload rfl rfl ?_
            refine r_getR (c := 7) (k := 9) (v := 40) rfl rfl ⟨rfl, rfl⟩ rfl ?_
            refine r_iload rfl rfl ?_
            refine r_iload rfl rfl ?_
            refine r_iload rfl rfl ?_
            obtain ⟨z18, hz18, hr⟩ := gbnd hr
            refine r_invv (a := 40) [.int a1, .int a2, .int a3] rfl rfl rfl rfl rfl (Nat.le_of_ble_eq_true rfl) ⟨rfl, rfl⟩ ?_
            refine s_X2_add  hz18 ?_
            show gW _ _ _ _ _ 30 [.ref 2, .int a1, .int a2, .int a3] [] (gKn n, gRf f g, z18.2.1, z18.2.2) _
            refine r_aload rfl rfl ?_
            refine r_getR (c := 7) (k := 9) (v := 40) rfl rfl ⟨rfl, rfl⟩ rfl ?_
            refine r_getI (c := 2) (k := 3) rfl rfl ⟨rfl, rfl⟩ ?_
            refine r_iret rfl ?_
            cases hr
            exact hQ
          · rw [if_neg c17] at hr
            refine r_const rfl (v := -4) (by decide) ?_
            refine r_iret rfl ?_
            cases hr
            exact hQ
        · rw [if_neg c16] at hr
          refine gforget (ls := [.null, .null, .null, .null]) ⟨(Or.inr (Or.inr ⟨rfl, _, rfl⟩)), ⟨(Or.inr (Or.inl ⟨rfl, _, rfl⟩)), ⟨(Or.inr (Or.inl ⟨rfl, _, rfl⟩)), ⟨(Or.inr (Or.inl ⟨rfl, _, rfl⟩)), trivial⟩⟩⟩⟩ ?_
          exact t_X7_hear_15 hw hr hQ
  · rw [if_neg c13] at hr
    refine r_const rfl (v := -1) (by decide) ?_
    refine r_iret rfl ?_
    cases hr
    exact hQ
def f_X7_unhear (f g : Nat) (I : Nat → Nat → Int32) (L : Nat → Nat → Int64)  : Int32 := (I 40 3)
def i_X7_unhear (f g : Nat) (I : Nat → Nat → Int32) (L : Nat → Nat → Int64)  : Nat → Nat → Int32 := (gu2 I 40 3 (nI 0))
set_option maxHeartbeats 4000000 in
set_option maxRecDepth 100000 in
theorem s_X7_unhear {n f g d : Nat} {Q : gP} {I : Nat → Nat → Int32} {L : Nat → Nat → Int64}  (hw : gfw f g)  (hQ : Q (some (.int (f_X7_unhear f g I L ))) (gKn n, gRf f g, i_X7_unhear f g I L , L)) : gR gM (d + 0) 80 [.ref 2] (gKn n, gRf f g, I, L) Q := by
  unfold f_X7_unhear i_X7_unhear at hQ
  show gW gM (d + 0) 0 0 k_X7_unhear 0 [.ref 2, .null] [] (gKn n, gRf f g, I, L) Q
  refine r_aload rfl rfl ?_
  refine r_getR (c := 7) (k := 9) (v := 40) rfl rfl ⟨rfl, rfl⟩ rfl ?_
  refine r_getI (c := 2) (k := 3) rfl rfl ⟨rfl, rfl⟩ ?_
  refine r_istore [.ref 2, .int (I 40 3)] rfl rfl (Nat.le_of_ble_eq_true rfl) rfl ?_
  refine r_aload rfl rfl ?_
  refine r_getR (c := 7) (k := 9) (v := 40) rfl rfl ⟨rfl, rfl⟩ rfl ?_
  refine r_const rfl (gcst 0) ?_
  refine r_putI (c := 2) (k := 3) rfl rfl ⟨rfl, rfl⟩ ?_
  refine r_iload rfl rfl ?_
  refine r_iret rfl ?_
  first | exact hQ | simpa only [if_true] using hQ
def r_X7_weights_28 (f : Nat) (g : Nat) (K9 : Int32 → Int32 → Int32 → (Nat → Nat → Int32) → (Nat → Nat → Int64) → Option gRs) (v1 : Int32) (v2 : Int32) (v3 : Int32) (I : Nat → Nat → Int32) (L : Nat → Nat → Int64) : Option gRs := (K9 v1 v2 (v3 + (nI 1)) I L)
set_option maxHeartbeats 4000000 in
set_option maxRecDepth 100000 in
theorem t_X7_weights_28 {n f g d : Nat} {Q : gP} {z : gRs}  (hw : gfw f g)  {K9 : Int32 → Int32 → Int32 → (Nat → Nat → Int32) → (Nat → Nat → Int64) → Option gRs} (hK9 : ∀ v1 v2 v3 I L, K9 v1 v2 v3 I L = some z → gW gM (d + 3) 0 0 k_X7_weights 9 [.ref 2, .int v1, .int v2, .int v3] [] (gKn n, gRf f g, I, L) Q) {v1 : Int32} {v2 : Int32} {v3 : Int32} {I : Nat → Nat → Int32} {L : Nat → Nat → Int64} (hr : r_X7_weights_28 f g K9 v1 v2 v3 I L = some z) (hQ : Q (some (.int z.1)) (gKn n, gRf f g, z.2.1, z.2.2)) : gW gM (d + 3) 0 0 k_X7_weights 28 [.ref 2, .int v1, .int v2, .int v3] [] (gKn n, gRf f g, I, L) Q := by
  have hfe := hw.f
  have hfd := hw.g
  unfold r_X7_weights_28 at hr
  refine r_iinc (y := (v3 + (nI 1))) [.ref 2, .int v1, .int v2, .int (v3 + (nI 1))] rfl rfl rfl (ginc _ 1) rfl ?_
  refine r_goto 9 rfl rfl ?_
  exact hK9 _ _ _ _ _ hr
def r_X7_weights_9 (f : Nat) (g : Nat)  : Nat → Int32 → Int32 → Int32 → (Nat → Nat → Int32) → (Nat → Nat → Int64) → Option gRs
  | 0, _, _, _, _, _ => none
  | m + 1, v1, v2, v3, I, L => (if (nI 9) < v3 then some (v2, I, L) else ((r_X2_agrees I L f 18 v3 v1).bind (fun z10 => (if z10.1 = 0 then (r_X7_weights_28 f g (r_X7_weights_9 f g m) v1 v2 v3 z10.2.1 z10.2.2) else (r_X7_weights_28 f g (r_X7_weights_9 f g m) v1 (v2 ||| (gshl (nI 1) v3)) v3 z10.2.1 z10.2.2)))))
set_option maxHeartbeats 4000000 in
set_option maxRecDepth 100000 in
theorem t_X7_weights_9 {n f g d : Nat} {Q : gP} {z : gRs}  (hw : gfw f g)   : ∀ {m : Nat} {v1 : Int32} {v2 : Int32} {v3 : Int32} {I : Nat → Nat → Int32} {L : Nat → Nat → Int64}, r_X7_weights_9 f g m v1 v2 v3 I L = some z → Q (some (.int z.1)) (gKn n, gRf f g, z.2.1, z.2.2) → gW gM (d + 3) 0 0 k_X7_weights 9 [.ref 2, .int v1, .int v2, .int v3] [] (gKn n, gRf f g, I, L) Q := by
  intro m
  have hfe := hw.f
  have hfd := hw.g
  induction m with
  | zero =>
    intro v1 v2 v3 I L hr _
    cases hr
  | succ m ih =>
    intro v1 v2 v3 I L hr hQ
    have hK9 : ∀ v1 v2 v3 I L, r_X7_weights_9 f g m v1 v2 v3 I L = some z → gW gM (d + 3) 0 0 k_X7_weights 9 [.ref 2, .int v1, .int v2, .int v3] [] (gKn n, gRf f g, I, L) Q := fun v1 v2 v3 I L hr => ih hr hQ
    unfold r_X7_weights_9 at hr
    refine r_iload rfl rfl ?_
    refine r_const rfl (gcst 9) ?_
    refine r_icmp_gt 30 rfl rfl (fun c9 => ?_) (fun c9 => ?_)
    · rw [if_pos c9] at hr
      refine r_iload rfl rfl ?_
      refine r_iret rfl ?_
      cases hr
      exact hQ
    · rw [if_neg c9] at hr
      refine r_aload rfl rfl ?_
      refine r_getR (c := 7) (k := 9) (v := 40) rfl rfl ⟨rfl, rfl⟩ rfl ?_
      refine r_aload rfl rfl ?_
      refine r_getR (c := 7) (k := 2) (v := f) rfl rfl ⟨rfl, rfl⟩ rfl ?_
      refine r_aload rfl rfl ?_
      refine r_getR (c := 7) (k := 4) (v := 18) rfl rfl ⟨rfl, rfl⟩ rfl ?_
      refine r_iload rfl rfl ?_
      refine r_iload rfl rfl ?_
      obtain ⟨z10, hz10, hr⟩ := gbnd hr
      refine r_invv (a := 40) [.ref f, .ref 18, .int v3, .int v1] rfl rfl rfl rfl rfl (Nat.le_of_ble_eq_true rfl) ⟨rfl, rfl⟩ ?_
      refine s_X2_agrees hfe rfl hz10 ?_
      show gW _ _ _ _ _ 21 [.ref 2, .int v1, .int v2, .int v3] [.int z10.1] (gKn n, gRf f g, z10.2.1, z10.2.2) _
      refine r_if_eq 28 rfl rfl (fun c11 => ?_) (fun c11 => ?_)
      · rw [if_pos c11] at hr
        exact t_X7_weights_28 hw hK9 hr hQ
      · rw [if_neg c11] at hr
        refine r_iload rfl rfl ?_
        refine r_const rfl (gcst 1) ?_
        refine r_iload rfl rfl ?_
        refine r_ishl rfl ?_
        refine r_ior rfl ?_
        refine r_istore [.ref 2, .int v1, .int (v2 ||| (gshl (nI 1) v3)), .int v3] rfl rfl (Nat.le_of_ble_eq_true rfl) rfl ?_
        exact t_X7_weights_28 hw hK9 hr hQ
def r_X7_weights (f g : Nat) (I : Nat → Nat → Int32) (L : Nat → Nat → Int64) (a1 : Int32) : Option gRs := (if ¬ (f_X7_isKind I L a1) = 0 then (r_X7_weights_9 f g 100 a1 (nI 0) (nI 1) I L) else some ((-2 : Int32), I, L))
set_option maxHeartbeats 4000000 in
set_option maxRecDepth 100000 in
theorem s_X7_weights {n f g d : Nat} {Q : gP} {I : Nat → Nat → Int32} {L : Nat → Nat → Int64} {a1 : Int32} {z : gRs} (hw : gfw f g)  (hr : r_X7_weights f g I L a1 = some z) (hQ : Q (some (.int z.1)) (gKn n, gRf f g, z.2.1, z.2.2)) : gR gM (d + 3) 81 [.ref 2, .int a1] (gKn n, gRf f g, I, L) Q := by
  have hfe := hw.f
  have hfd := hw.g
  unfold r_X7_weights at hr
  show gW gM (d + 3) 0 0 k_X7_weights 0 [.ref 2, .int a1, .null, .null] [] (gKn n, gRf f g, I, L) Q
  refine r_iload rfl rfl ?_
  refine r_invs [.int a1] rfl rfl rfl rfl (Nat.le_of_ble_eq_true rfl) ⟨rfl, rfl⟩ ?_
  refine s_X7_isKind  ?_
  show gW _ _ _ _ _ 2 [.ref 2, .int a1, .null, .null] [.int (f_X7_isKind I L a1)] (gKn n, gRf f g, I, L) _
  refine r_if_ne 5 rfl rfl (fun c12 => ?_) (fun c12 => ?_)
  · rw [if_pos c12] at hr
    refine r_const rfl (gcst 0) ?_
    refine r_istore [.ref 2, .int a1, .int (nI 0), .null] rfl rfl (Nat.le_of_ble_eq_true rfl) rfl ?_
    refine r_const rfl (gcst 1) ?_
    refine r_istore [.ref 2, .int a1, .int (nI 0), .int (nI 1)] rfl rfl (Nat.le_of_ble_eq_true rfl) rfl ?_
    exact t_X7_weights_9 hw hr hQ
  · rw [if_neg c12] at hr
    refine r_const rfl (v := -2) (by decide) ?_
    refine r_iret rfl ?_
    cases hr
    exact hQ
def r_X7_singersOf_4 (f : Nat) (g : Nat)  : Nat → Int32 → Int32 → Int32 → Int32 → (Nat → Nat → Int32) → (Nat → Nat → Int64) → Option gRs
  | 0, _, _, _, _, _, _ => none
  | m + 1, v1, v2, v3, v4, I, L => (if (I f 2) ≤ v4 then some (v3, I, L) else ((r_X1_sing I L f 18 v4 v2 55).bind (fun z5 => ((r_X6_toneBits z5.2.1 z5.2.2 55).bind (fun z6 => (r_X7_singersOf_4 f g m v1 v2 (v3 + ((gshr z6.1 v1) &&& (nI 1))) (v4 + (nI 1)) z6.2.1 z6.2.2))))))
set_option maxHeartbeats 4000000 in
set_option maxRecDepth 100000 in
theorem t_X7_singersOf_4 {n f g d : Nat} {Q : gP} {z : gRs}  (hw : gfw f g)   : ∀ {m : Nat} {v1 : Int32} {v2 : Int32} {v3 : Int32} {v4 : Int32} {I : Nat → Nat → Int32} {L : Nat → Nat → Int64}, r_X7_singersOf_4 f g m v1 v2 v3 v4 I L = some z → Q (some (.int z.1)) (gKn n, gRf f g, z.2.1, z.2.2) → gW gM (d + 3) 0 0 k_X7_singersOf 4 [.ref 2, .int v1, .int v2, .int v3, .int v4] [] (gKn n, gRf f g, I, L) Q := by
  intro m
  have hfe := hw.f
  have hfd := hw.g
  induction m with
  | zero =>
    intro v1 v2 v3 v4 I L hr _
    cases hr
  | succ m ih =>
    intro v1 v2 v3 v4 I L hr hQ
    have hK4 : ∀ v1 v2 v3 v4 I L, r_X7_singersOf_4 f g m v1 v2 v3 v4 I L = some z → gW gM (d + 3) 0 0 k_X7_singersOf 4 [.ref 2, .int v1, .int v2, .int v3, .int v4] [] (gKn n, gRf f g, I, L) Q := fun v1 v2 v3 v4 I L hr => ih hr hQ
    unfold r_X7_singersOf_4 at hr
    refine r_iload rfl rfl ?_
    refine r_aload rfl rfl ?_
    refine r_getR (c := 7) (k := 2) (v := f) rfl rfl ⟨rfl, rfl⟩ rfl ?_
    refine r_getI (c := 1) (k := 2) rfl (shFen hfe) ⟨rfl, rfl⟩ ?_
    refine r_icmp_ge 30 rfl rfl (fun c4 => ?_) (fun c4 => ?_)
    · rw [if_pos c4] at hr
      refine r_iload rfl rfl ?_
      refine r_iret rfl ?_
      cases hr
      exact hQ
    · rw [if_neg c4] at hr
      refine r_aload rfl rfl ?_
      refine r_getR (c := 7) (k := 2) (v := f) rfl rfl ⟨rfl, rfl⟩ rfl ?_
      refine r_aload rfl rfl ?_
      refine r_getR (c := 7) (k := 4) (v := 18) rfl rfl ⟨rfl, rfl⟩ rfl ?_
      refine r_iload rfl rfl ?_
      refine r_iload rfl rfl ?_
      refine r_aload rfl rfl ?_
      refine r_getR (c := 7) (k := 13) (v := 55) rfl rfl ⟨rfl, rfl⟩ rfl ?_
      obtain ⟨z5, hz5, hr⟩ := gbnd hr
      refine r_invv (a := f) [.ref 18, .int v4, .int v2, .ref 55] rfl rfl (shFen hfe) rfl rfl (Nat.le_of_ble_eq_true rfl) ⟨rfl, rfl⟩ ?_
      refine s_X1_sing hfe rfl rfl hz5 ?_
      show gW _ _ _ _ _ 18 [.ref 2, .int v1, .int v2, .int v3, .int v4] [] (gKn n, gRf f g, z5.2.1, z5.2.2) _
      refine r_iload rfl rfl ?_
      refine r_aload rfl rfl ?_
      refine r_getR (c := 7) (k := 13) (v := 55) rfl rfl ⟨rfl, rfl⟩ rfl ?_
      obtain ⟨z6, hz6, hr⟩ := gbnd hr
      refine r_invv (a := 55) [] rfl rfl rfl rfl rfl (Nat.le_of_ble_eq_true rfl) ⟨rfl, rfl⟩ ?_
      refine s_X6_toneBits rfl hz6 ?_
      show gW _ _ _ _ _ 22 [.ref 2, .int v1, .int v2, .int v3, .int v4] [.int z6.1, .int v3] (gKn n, gRf f g, z6.2.1, z6.2.2) _
      refine r_iload rfl rfl ?_
      refine r_ishr rfl ?_
      refine r_const rfl (gcst 1) ?_
      refine r_iand rfl ?_
      refine r_iadd rfl ?_
      refine r_istore [.ref 2, .int v1, .int v2, .int (v3 + ((gshr z6.1 v1) &&& (nI 1))), .int v4] rfl rfl (Nat.le_of_ble_eq_true rfl) rfl ?_
      refine r_iinc (y := (v4 + (nI 1))) [.ref 2, .int v1, .int v2, .int (v3 + ((gshr z6.1 v1) &&& (nI 1))), .int (v4 + (nI 1))] rfl rfl rfl (ginc _ 1) rfl ?_
      refine r_goto 4 rfl rfl ?_
      exact hK4 _ _ _ _ _ _ hr
def r_X7_singersOf (f g : Nat) (I : Nat → Nat → Int32) (L : Nat → Nat → Int64) (a1 : Int32) (a2 : Int32) : Option gRs := (r_X7_singersOf_4 f g 100 a1 a2 (nI 0) (nI 0) I L)
set_option maxHeartbeats 4000000 in
set_option maxRecDepth 100000 in
theorem s_X7_singersOf {n f g d : Nat} {Q : gP} {I : Nat → Nat → Int32} {L : Nat → Nat → Int64} {a1 : Int32} {a2 : Int32} {z : gRs} (hw : gfw f g)  (hr : r_X7_singersOf f g I L a1 a2 = some z) (hQ : Q (some (.int z.1)) (gKn n, gRf f g, z.2.1, z.2.2)) : gR gM (d + 3) 99 [.ref 2, .int a1, .int a2] (gKn n, gRf f g, I, L) Q := by
  have hfe := hw.f
  have hfd := hw.g
  unfold r_X7_singersOf at hr
  show gW gM (d + 3) 0 0 k_X7_singersOf 0 [.ref 2, .int a1, .int a2, .null, .null] [] (gKn n, gRf f g, I, L) Q
  refine r_const rfl (gcst 0) ?_
  refine r_istore [.ref 2, .int a1, .int a2, .int (nI 0), .null] rfl rfl (Nat.le_of_ble_eq_true rfl) rfl ?_
  refine r_const rfl (gcst 0) ?_
  refine r_istore [.ref 2, .int a1, .int a2, .int (nI 0), .int (nI 0)] rfl rfl (Nat.le_of_ble_eq_true rfl) rfl ?_
  exact t_X7_singersOf_4 hw hr hQ
def r_X7_greatestCommon_21   (v2 : Int32) (I : Nat → Nat → Int32) (L : Nat → Nat → Int64) : Option gRs := some (v2, I, L)
set_option maxHeartbeats 4000000 in
set_option maxRecDepth 100000 in
theorem t_X7_greatestCommon_21 {n f g d : Nat} {Q : gP} {z : gRs}    {v2 : Int32} {I : Nat → Nat → Int32} {L : Nat → Nat → Int64} (hr : r_X7_greatestCommon_21 v2 I L = some z) (hQ : Q (some (.int z.1)) (gKn n, gRf f g, z.2.1, z.2.2)) : gW gM (d + 0) 0 0 k_X7_greatestCommon 21 [.null, .null, .int v2, .null, .null, .null] [] (gKn n, gRf f g, I, L) Q := by
  unfold r_X7_greatestCommon_21 at hr
  refine r_iload rfl rfl ?_
  refine r_iret rfl ?_
  cases hr
  exact hQ
def r_X7_greatestCommon_6   : Nat → Int32 → Int32 → Int32 → (Nat → Nat → Int32) → (Nat → Nat → Int64) → Option gRs
  | 0, _, _, _, _, _ => none
  | m + 1, v2, v3, v4, I, L => (if (nI 64) ≤ v4 then (r_X7_greatestCommon_21 v2 I L) else (if v3 = 0 then (r_X7_greatestCommon_21 v2 I L) else (if ¬ v3 = 0 then (r_X7_greatestCommon_6  m v3 (grem v2 v3) (v4 + (nI 1)) I L) else none)))
set_option maxHeartbeats 4000000 in
set_option maxRecDepth 100000 in
theorem t_X7_greatestCommon_6 {n f g d : Nat} {Q : gP} {z : gRs}    : ∀ {m : Nat} {v2 : Int32} {v3 : Int32} {v4 : Int32} {I : Nat → Nat → Int32} {L : Nat → Nat → Int64}, r_X7_greatestCommon_6 m v2 v3 v4 I L = some z → Q (some (.int z.1)) (gKn n, gRf f g, z.2.1, z.2.2) → gW gM (d + 0) 0 0 k_X7_greatestCommon 6 [.null, .null, .int v2, .int v3, .int v4, .null] [] (gKn n, gRf f g, I, L) Q := by
  intro m
  induction m with
  | zero =>
    intro v2 v3 v4 I L hr _
    cases hr
  | succ m ih =>
    intro v2 v3 v4 I L hr hQ
    have hK6 : ∀ v2 v3 v4 I L, r_X7_greatestCommon_6 m v2 v3 v4 I L = some z → gW gM (d + 0) 0 0 k_X7_greatestCommon 6 [.null, .null, .int v2, .int v3, .int v4, .null] [] (gKn n, gRf f g, I, L) Q := fun v2 v3 v4 I L hr => ih hr hQ
    unfold r_X7_greatestCommon_6 at hr
    refine r_iload rfl rfl ?_
    refine r_const rfl (gcst 64) ?_
    refine r_icmp_ge 21 rfl rfl (fun c7 => ?_) (fun c7 => ?_)
    · rw [if_pos c7] at hr
      refine gforget (ls := [.null, .null, .int v2, .null, .null, .null]) ⟨(Or.inl rfl), ⟨(Or.inl rfl), ⟨(Or.inl rfl), ⟨(Or.inr (Or.inl ⟨rfl, _, rfl⟩)), ⟨(Or.inr (Or.inl ⟨rfl, _, rfl⟩)), ⟨(Or.inl rfl), trivial⟩⟩⟩⟩⟩⟩ ?_
      exact t_X7_greatestCommon_21  hr hQ
    · rw [if_neg c7] at hr
      refine r_iload rfl rfl ?_
      refine r_if_eq 21 rfl rfl (fun c8 => ?_) (fun c8 => ?_)
      · rw [if_pos c8] at hr
        refine gforget (ls := [.null, .null, .int v2, .null, .null, .null]) ⟨(Or.inl rfl), ⟨(Or.inl rfl), ⟨(Or.inl rfl), ⟨(Or.inr (Or.inl ⟨rfl, _, rfl⟩)), ⟨(Or.inr (Or.inl ⟨rfl, _, rfl⟩)), ⟨(Or.inl rfl), trivial⟩⟩⟩⟩⟩⟩ ?_
        exact t_X7_greatestCommon_21  hr hQ
      · rw [if_neg c8] at hr
        refine r_iload rfl rfl ?_
        refine r_iload rfl rfl ?_
        obtain ⟨b9, hr⟩ := gopt hr
        refine r_irem rfl b9 ?_
        refine r_istore [.null, .null, .int v2, .int v3, .int v4, .int (grem v2 v3)] rfl rfl (Nat.le_of_ble_eq_true rfl) rfl ?_
        refine r_iload rfl rfl ?_
        refine r_istore [.null, .null, .int v3, .int v3, .int v4, .int (grem v2 v3)] rfl rfl (Nat.le_of_ble_eq_true rfl) rfl ?_
        refine r_iload rfl rfl ?_
        refine r_istore [.null, .null, .int v3, .int (grem v2 v3), .int v4, .int (grem v2 v3)] rfl rfl (Nat.le_of_ble_eq_true rfl) rfl ?_
        refine r_iinc (y := (v4 + (nI 1))) [.null, .null, .int v3, .int (grem v2 v3), .int (v4 + (nI 1)), .int (grem v2 v3)] rfl rfl rfl (ginc _ 1) rfl ?_
        refine r_goto 6 rfl rfl ?_
        refine gforget (ls := [.null, .null, .int v3, .int (grem v2 v3), .int (v4 + (nI 1)), .null]) ⟨(Or.inl rfl), ⟨(Or.inl rfl), ⟨(Or.inl rfl), ⟨(Or.inl rfl), ⟨(Or.inl rfl), ⟨(Or.inr (Or.inl ⟨rfl, _, rfl⟩)), trivial⟩⟩⟩⟩⟩⟩ ?_
        exact hK6 _ _ _ _ _ hr
def r_X7_greatestCommon (I : Nat → Nat → Int32) (L : Nat → Nat → Int64) (a0 : Int32) (a1 : Int32) : Option gRs := (r_X7_greatestCommon_6 100 a0 a1 (nI 0) I L)
set_option maxHeartbeats 4000000 in
set_option maxRecDepth 100000 in
theorem s_X7_greatestCommon {n f g d : Nat} {Q : gP} {I : Nat → Nat → Int32} {L : Nat → Nat → Int64} {a0 : Int32} {a1 : Int32} {z : gRs}  (hr : r_X7_greatestCommon I L a0 a1 = some z) (hQ : Q (some (.int z.1)) (gKn n, gRf f g, z.2.1, z.2.2)) : gR gM (d + 0) 104 [.int a0, .int a1] (gKn n, gRf f g, I, L) Q := by
  unfold r_X7_greatestCommon at hr
  show gW gM (d + 0) 0 0 k_X7_greatestCommon 0 [.int a0, .int a1, .null, .null, .null, .null] [] (gKn n, gRf f g, I, L) Q
  refine r_iload rfl rfl ?_
  refine r_istore [.int a0, .int a1, .int a0, .null, .null, .null] rfl rfl (Nat.le_of_ble_eq_true rfl) rfl ?_
  refine r_iload rfl rfl ?_
  refine r_istore [.int a0, .int a1, .int a0, .int a1, .null, .null] rfl rfl (Nat.le_of_ble_eq_true rfl) rfl ?_
  refine r_const rfl (gcst 0) ?_
  refine r_istore [.int a0, .int a1, .int a0, .int a1, .int (nI 0), .null] rfl rfl (Nat.le_of_ble_eq_true rfl) rfl ?_
  refine gforget (ls := [.null, .null, .int a0, .int a1, .int (nI 0), .null]) ⟨(Or.inr (Or.inl ⟨rfl, _, rfl⟩)), ⟨(Or.inr (Or.inl ⟨rfl, _, rfl⟩)), ⟨(Or.inl rfl), ⟨(Or.inl rfl), ⟨(Or.inl rfl), ⟨(Or.inl rfl), trivial⟩⟩⟩⟩⟩⟩ ?_
  exact t_X7_greatestCommon_6  hr hQ
def r_X7_fraction_21   (s0 : Int32) (I : Nat → Nat → Int32) (L : Nat → Nat → Int64) : Option gRs := some (s0, I, L)
set_option maxHeartbeats 4000000 in
set_option maxRecDepth 100000 in
theorem t_X7_fraction_21 {n f g d : Nat} {Q : gP} {z : gRs}    {s0 : Int32} {I : Nat → Nat → Int32} {L : Nat → Nat → Int64} (hr : r_X7_fraction_21 s0 I L = some z) (hQ : Q (some (.int z.1)) (gKn n, gRf f g, z.2.1, z.2.2)) : gW gM (d + 1) 0 0 k_X7_fraction 21 [.null, .null, .null, .null] [.int s0] (gKn n, gRf f g, I, L) Q := by
  unfold r_X7_fraction_21 at hr
  refine r_iret rfl ?_
  cases hr
  exact hQ
def r_X7_fraction_11   (s0 : Int32) (I : Nat → Nat → Int32) (L : Nat → Nat → Int64) : Option gRs := some (s0, I, L)
set_option maxHeartbeats 4000000 in
set_option maxRecDepth 100000 in
theorem t_X7_fraction_11 {n f g d : Nat} {Q : gP} {z : gRs}    {s0 : Int32} {I : Nat → Nat → Int32} {L : Nat → Nat → Int64} (hr : r_X7_fraction_11 s0 I L = some z) (hQ : Q (some (.int z.1)) (gKn n, gRf f g, z.2.1, z.2.2)) : gW gM (d + 1) 0 0 k_X7_fraction 11 [.null, .null, .null, .null] [.int s0] (gKn n, gRf f g, I, L) Q := by
  unfold r_X7_fraction_11 at hr
  refine r_iret rfl ?_
  cases hr
  exact hQ
def r_X7_fraction (I : Nat → Nat → Int32) (L : Nat → Nat → Int64) (a0 : Int32) (a1 : Int32) (a2 : Int32) : Option gRs := ((r_X7_greatestCommon I L a0 a1).bind (fun z13 => (if ¬ z13.1 = 0 then (if a2 = 0 then (if ¬ z13.1 = 0 then (r_X7_fraction_21 (a1 / z13.1) z13.2.1 z13.2.2) else none) else (if ¬ z13.1 = 0 then (r_X7_fraction_21 (a0 / z13.1) z13.2.1 z13.2.2) else none)) else (if a2 = 0 then (r_X7_fraction_11 (nI 1) z13.2.1 z13.2.2) else (r_X7_fraction_11 (nI 0) z13.2.1 z13.2.2)))))
set_option maxHeartbeats 4000000 in
set_option maxRecDepth 100000 in
theorem s_X7_fraction {n f g d : Nat} {Q : gP} {I : Nat → Nat → Int32} {L : Nat → Nat → Int64} {a0 : Int32} {a1 : Int32} {a2 : Int32} {z : gRs}  (hr : r_X7_fraction I L a0 a1 a2 = some z) (hQ : Q (some (.int z.1)) (gKn n, gRf f g, z.2.1, z.2.2)) : gR gM (d + 1) 103 [.int a0, .int a1, .int a2] (gKn n, gRf f g, I, L) Q := by
  unfold r_X7_fraction at hr
  show gW gM (d + 1) 0 0 k_X7_fraction 0 [.int a0, .int a1, .int a2, .null] [] (gKn n, gRf f g, I, L) Q
  refine r_iload rfl rfl ?_
  refine r_iload rfl rfl ?_
  obtain ⟨z13, hz13, hr⟩ := gbnd hr
  refine r_invs [.int a0, .int a1] rfl rfl rfl rfl (Nat.le_of_ble_eq_true rfl) ⟨rfl, rfl⟩ ?_
  refine s_X7_greatestCommon  hz13 ?_
  show gW _ _ _ _ _ 3 [.int a0, .int a1, .int a2, .null] [.int z13.1] (gKn n, gRf f g, z13.2.1, z13.2.2) _
  refine r_istore [.int a0, .int a1, .int a2, .int z13.1] rfl rfl (Nat.le_of_ble_eq_true rfl) rfl ?_
  refine r_iload rfl rfl ?_
  refine r_if_ne 12 rfl rfl (fun c14 => ?_) (fun c14 => ?_)
  · rw [if_pos c14] at hr
    refine r_iload rfl rfl ?_
    refine r_if_eq 18 rfl rfl (fun c15 => ?_) (fun c15 => ?_)
    · rw [if_pos c15] at hr
      refine r_iload rfl rfl ?_
      refine r_iload rfl rfl ?_
      obtain ⟨b16, hr⟩ := gopt hr
      refine r_idiv rfl b16 ?_
      refine gforget (ls := [.null, .null, .null, .null]) ⟨(Or.inr (Or.inl ⟨rfl, _, rfl⟩)), ⟨(Or.inr (Or.inl ⟨rfl, _, rfl⟩)), ⟨(Or.inr (Or.inl ⟨rfl, _, rfl⟩)), ⟨(Or.inr (Or.inl ⟨rfl, _, rfl⟩)), trivial⟩⟩⟩⟩ ?_
      exact t_X7_fraction_21  hr hQ
    · rw [if_neg c15] at hr
      refine r_iload rfl rfl ?_
      refine r_iload rfl rfl ?_
      obtain ⟨b17, hr⟩ := gopt hr
      refine r_idiv rfl b17 ?_
      refine r_goto 21 rfl rfl ?_
      refine gforget (ls := [.null, .null, .null, .null]) ⟨(Or.inr (Or.inl ⟨rfl, _, rfl⟩)), ⟨(Or.inr (Or.inl ⟨rfl, _, rfl⟩)), ⟨(Or.inr (Or.inl ⟨rfl, _, rfl⟩)), ⟨(Or.inr (Or.inl ⟨rfl, _, rfl⟩)), trivial⟩⟩⟩⟩ ?_
      exact t_X7_fraction_21  hr hQ
  · rw [if_neg c14] at hr
    refine r_iload rfl rfl ?_
    refine r_if_eq 10 rfl rfl (fun c18 => ?_) (fun c18 => ?_)
    · rw [if_pos c18] at hr
      refine r_const rfl (gcst 1) ?_
      refine gforget (ls := [.null, .null, .null, .null]) ⟨(Or.inr (Or.inl ⟨rfl, _, rfl⟩)), ⟨(Or.inr (Or.inl ⟨rfl, _, rfl⟩)), ⟨(Or.inr (Or.inl ⟨rfl, _, rfl⟩)), ⟨(Or.inr (Or.inl ⟨rfl, _, rfl⟩)), trivial⟩⟩⟩⟩ ?_
      exact t_X7_fraction_11  hr hQ
    · rw [if_neg c18] at hr
      refine r_const rfl (gcst 0) ?_
      refine r_goto 11 rfl rfl ?_
      refine gforget (ls := [.null, .null, .null, .null]) ⟨(Or.inr (Or.inl ⟨rfl, _, rfl⟩)), ⟨(Or.inr (Or.inl ⟨rfl, _, rfl⟩)), ⟨(Or.inr (Or.inl ⟨rfl, _, rfl⟩)), ⟨(Or.inr (Or.inl ⟨rfl, _, rfl⟩)), trivial⟩⟩⟩⟩ ?_
      exact t_X7_fraction_11  hr hQ
def r_X7_share_51 (f : Nat) (g : Nat) (K29 : Int32 → Int32 → Int32 → Int32 → Int32 → (Nat → Nat → Int32) → (Nat → Nat → Int64) → Option gRs) (v2 : Int32) (v3 : Int32) (v4 : Int32) (v6 : Int32) (s0 : Int32) (s1 : Int32) (I : Nat → Nat → Int32) (L : Nat → Nat → Int64) : Option gRs := (K29 v2 v3 v4 (s0 + s1) (v6 + (nI 1)) I L)
set_option maxHeartbeats 4000000 in
set_option maxRecDepth 100000 in
theorem t_X7_share_51 {n f g d : Nat} {Q : gP} {z : gRs}  (hw : gfw f g)  {K29 : Int32 → Int32 → Int32 → Int32 → Int32 → (Nat → Nat → Int32) → (Nat → Nat → Int64) → Option gRs} (hK29 : ∀ v2 v3 v4 v5 v6 I L, K29 v2 v3 v4 v5 v6 I L = some z → gW gM (d + 4) 0 0 k_X7_share 29 [.ref 2, .null, .int v2, .int v3, .int v4, .int v5, .int v6, .null] [] (gKn n, gRf f g, I, L) Q) {v2 : Int32} {v3 : Int32} {v4 : Int32} {v6 : Int32} {s0 : Int32} {s1 : Int32} {I : Nat → Nat → Int32} {L : Nat → Nat → Int64} (hr : r_X7_share_51 f g K29 v2 v3 v4 v6 s0 s1 I L = some z) (hQ : Q (some (.int z.1)) (gKn n, gRf f g, z.2.1, z.2.2)) : gW gM (d + 4) 0 0 k_X7_share 51 [.ref 2, .null, .int v2, .int v3, .int v4, .null, .int v6, .null] [.int s1, .int s0] (gKn n, gRf f g, I, L) Q := by
  have hfe := hw.f
  have hfd := hw.g
  unfold r_X7_share_51 at hr
  refine r_iadd rfl ?_
  refine r_istore [.ref 2, .null, .int v2, .int v3, .int v4, .int (s0 + s1), .int v6, .null] rfl rfl (Nat.le_of_ble_eq_true rfl) rfl ?_
  refine r_iinc (y := (v6 + (nI 1))) [.ref 2, .null, .int v2, .int v3, .int v4, .int (s0 + s1), .int (v6 + (nI 1)), .null] rfl rfl rfl (ginc _ 1) rfl ?_
  refine r_goto 29 rfl rfl ?_
  exact hK29 _ _ _ _ _ _ _ hr
def r_X7_share_29 (f : Nat) (g : Nat)  : Nat → Int32 → Int32 → Int32 → Int32 → Int32 → (Nat → Nat → Int32) → (Nat → Nat → Int64) → Option gRs
  | 0, _, _, _, _, _, _, _ => none
  | m + 1, v2, v3, v4, v5, v6, I, L => (if (nI 12) ≤ v6 then ((r_X7_fraction I L v5 (nI 60) v3).bind (fun z26 => some (z26.1, z26.2.1, z26.2.2))) else (if ((gshr v4 v6) &&& (nI 1)) = 0 then (r_X7_share_29 f g m v2 v3 v4 v5 (v6 + (nI 1)) I L) else ((r_X7_singersOf f g I L v6 v2).bind (fun z28 => (if z28.1 ≤ 0 then (r_X7_share_51 f g (r_X7_share_29 f g m) v2 v3 v4 v6 v5 (nI 0) z28.2.1 z28.2.2) else (if ¬ z28.1 = 0 then (r_X7_share_51 f g (r_X7_share_29 f g m) v2 v3 v4 v6 v5 ((nI 60) / z28.1) z28.2.1 z28.2.2) else none))))))
set_option maxHeartbeats 4000000 in
set_option maxRecDepth 100000 in
theorem t_X7_share_29 {n f g d : Nat} {Q : gP} {z : gRs}  (hw : gfw f g)   : ∀ {m : Nat} {v2 : Int32} {v3 : Int32} {v4 : Int32} {v5 : Int32} {v6 : Int32} {I : Nat → Nat → Int32} {L : Nat → Nat → Int64}, r_X7_share_29 f g m v2 v3 v4 v5 v6 I L = some z → Q (some (.int z.1)) (gKn n, gRf f g, z.2.1, z.2.2) → gW gM (d + 4) 0 0 k_X7_share 29 [.ref 2, .null, .int v2, .int v3, .int v4, .int v5, .int v6, .null] [] (gKn n, gRf f g, I, L) Q := by
  intro m
  have hfe := hw.f
  have hfd := hw.g
  induction m with
  | zero =>
    intro v2 v3 v4 v5 v6 I L hr _
    cases hr
  | succ m ih =>
    intro v2 v3 v4 v5 v6 I L hr hQ
    have hK29 : ∀ v2 v3 v4 v5 v6 I L, r_X7_share_29 f g m v2 v3 v4 v5 v6 I L = some z → gW gM (d + 4) 0 0 k_X7_share 29 [.ref 2, .null, .int v2, .int v3, .int v4, .int v5, .int v6, .null] [] (gKn n, gRf f g, I, L) Q := fun v2 v3 v4 v5 v6 I L hr => ih hr hQ
    unfold r_X7_share_29 at hr
    refine r_iload rfl rfl ?_
    refine r_const rfl (gcst 12) ?_
    refine r_icmp_ge 55 rfl rfl (fun c25 => ?_) (fun c25 => ?_)
    · rw [if_pos c25] at hr
      refine r_iload rfl rfl ?_
      refine r_const rfl (gcst 60) ?_
      refine r_iload rfl rfl ?_
      obtain ⟨z26, hz26, hr⟩ := gbnd hr
      refine r_invs [.int v5, .int (nI 60), .int v3] rfl rfl rfl rfl (Nat.le_of_ble_eq_true rfl) ⟨rfl, rfl⟩ ?_
      refine s_X7_fraction  hz26 ?_
      show gW _ _ _ _ _ 59 [.ref 2, .null, .int v2, .int v3, .int v4, .int v5, .int v6, .null] [.int z26.1] (gKn n, gRf f g, z26.2.1, z26.2.2) _
      refine r_iret rfl ?_
      cases hr
      exact hQ
    · rw [if_neg c25] at hr
      refine r_iload rfl rfl ?_
      refine r_iload rfl rfl ?_
      refine r_ishr rfl ?_
      refine r_const rfl (gcst 1) ?_
      refine r_iand rfl ?_
      refine r_if_eq 53 rfl rfl (fun c27 => ?_) (fun c27 => ?_)
      · rw [if_pos c27] at hr
        refine r_iinc (y := (v6 + (nI 1))) [.ref 2, .null, .int v2, .int v3, .int v4, .int v5, .int (v6 + (nI 1)), .null] rfl rfl rfl (ginc _ 1) rfl ?_
        refine r_goto 29 rfl rfl ?_
        exact hK29 _ _ _ _ _ _ _ hr
      · rw [if_neg c27] at hr
        refine r_aload rfl rfl ?_
        refine r_iload rfl rfl ?_
        refine r_iload rfl rfl ?_
        obtain ⟨z28, hz28, hr⟩ := gbnd hr
        refine r_invv (a := 2) [.int v6, .int v2] rfl rfl rfl rfl rfl (Nat.le_of_ble_eq_true rfl) ⟨rfl, rfl⟩ ?_
        refine s_X7_singersOf hw  hz28 ?_
        show gW _ _ _ _ _ 42 [.ref 2, .null, .int v2, .int v3, .int v4, .int v5, .int v6, .null] [.int z28.1] (gKn n, gRf f g, z28.2.1, z28.2.2) _
        refine r_istore [.ref 2, .null, .int v2, .int v3, .int v4, .int v5, .int v6, .int z28.1] rfl rfl (Nat.le_of_ble_eq_true rfl) rfl ?_
        refine r_iload rfl rfl ?_
        refine r_iload rfl rfl ?_
        refine r_if_le 50 rfl rfl (fun c29 => ?_) (fun c29 => ?_)
        · rw [if_pos c29] at hr
          refine r_const rfl (gcst 0) ?_
          refine gforget (ls := [.ref 2, .null, .int v2, .int v3, .int v4, .null, .int v6, .null]) ⟨(Or.inl rfl), ⟨(Or.inl rfl), ⟨(Or.inl rfl), ⟨(Or.inl rfl), ⟨(Or.inl rfl), ⟨(Or.inr (Or.inl ⟨rfl, _, rfl⟩)), ⟨(Or.inl rfl), ⟨(Or.inr (Or.inl ⟨rfl, _, rfl⟩)), trivial⟩⟩⟩⟩⟩⟩⟩⟩ ?_
          exact t_X7_share_51 hw hK29 hr hQ
        · rw [if_neg c29] at hr
          refine r_const rfl (gcst 60) ?_
          refine r_iload rfl rfl ?_
          obtain ⟨b30, hr⟩ := gopt hr
          refine r_idiv rfl b30 ?_
          refine r_goto 51 rfl rfl ?_
          refine gforget (ls := [.ref 2, .null, .int v2, .int v3, .int v4, .null, .int v6, .null]) ⟨(Or.inl rfl), ⟨(Or.inl rfl), ⟨(Or.inl rfl), ⟨(Or.inl rfl), ⟨(Or.inl rfl), ⟨(Or.inr (Or.inl ⟨rfl, _, rfl⟩)), ⟨(Or.inl rfl), ⟨(Or.inr (Or.inl ⟨rfl, _, rfl⟩)), trivial⟩⟩⟩⟩⟩⟩⟩⟩ ?_
          exact t_X7_share_51 hw hK29 hr hQ
def r_X7_share_10 (f : Nat) (g : Nat)   (I : Nat → Nat → Int32) (L : Nat → Nat → Int64) : Option gRs := some ((-1 : Int32), I, L)
set_option maxHeartbeats 4000000 in
set_option maxRecDepth 100000 in
theorem t_X7_share_10 {n f g d : Nat} {Q : gP} {z : gRs}  (hw : gfw f g)    {I : Nat → Nat → Int32} {L : Nat → Nat → Int64} (hr : r_X7_share_10 f g I L = some z) (hQ : Q (some (.int z.1)) (gKn n, gRf f g, z.2.1, z.2.2)) : gW gM (d + 4) 0 0 k_X7_share 10 [.null, .null, .null, .null, .null, .null, .null, .null] [] (gKn n, gRf f g, I, L) Q := by
  have hfe := hw.f
  have hfd := hw.g
  unfold r_X7_share_10 at hr
  refine r_const rfl (v := -1) (by decide) ?_
  refine r_iret rfl ?_
  cases hr
  exact hQ
def r_X7_share (f g : Nat) (I : Nat → Nat → Int32) (L : Nat → Nat → Int64) (a1 : Int32) (a2 : Int32) (a3 : Int32) : Option gRs := (if (f_X1_isBeast I L f a1) = 0 then (r_X7_share_10 f g I L) else (if ¬ (f_X1_isLane I L f a2) = 0 then ((r_X1_sing I L f 18 a1 a2 53).bind (fun z33 => ((r_X6_toneBits z33.2.1 z33.2.2 53).bind (fun z34 => (r_X7_share_29 f g 100 a2 a3 z34.1 (nI 0) (nI 0) z34.2.1 z34.2.2))))) else (r_X7_share_10 f g I L)))
set_option maxHeartbeats 4000000 in
set_option maxRecDepth 100000 in
theorem s_X7_share {n f g d : Nat} {Q : gP} {I : Nat → Nat → Int32} {L : Nat → Nat → Int64} {a1 : Int32} {a2 : Int32} {a3 : Int32} {z : gRs} (hw : gfw f g)  (hr : r_X7_share f g I L a1 a2 a3 = some z) (hQ : Q (some (.int z.1)) (gKn n, gRf f g, z.2.1, z.2.2)) : gR gM (d + 4) 82 [.ref 2, .int a1, .int a2, .int a3] (gKn n, gRf f g, I, L) Q := by
  have hfe := hw.f
  have hfd := hw.g
  unfold r_X7_share at hr
  show gW gM (d + 4) 0 0 k_X7_share 0 [.ref 2, .int a1, .int a2, .int a3, .null, .null, .null, .null] [] (gKn n, gRf f g, I, L) Q
  refine r_aload rfl rfl ?_
  refine r_getR (c := 7) (k := 2) (v := f) rfl rfl ⟨rfl, rfl⟩ rfl ?_
  refine r_iload rfl rfl ?_
  refine r_invv (a := f) [.int a1] rfl rfl (shFen hfe) rfl rfl (Nat.le_of_ble_eq_true rfl) ⟨rfl, rfl⟩ ?_
  refine s_X1_isBeast hfe ?_
  show gW _ _ _ _ _ 4 [.ref 2, .int a1, .int a2, .int a3, .null, .null, .null, .null] [.int (f_X1_isBeast I L f a1)] (gKn n, gRf f g, I, L) _
  refine r_if_eq 10 rfl rfl (fun c31 => ?_) (fun c31 => ?_)
  · rw [if_pos c31] at hr
    refine gforget (ls := [.null, .null, .null, .null, .null, .null, .null, .null]) ⟨(Or.inr (Or.inr ⟨rfl, _, rfl⟩)), ⟨(Or.inr (Or.inl ⟨rfl, _, rfl⟩)), ⟨(Or.inr (Or.inl ⟨rfl, _, rfl⟩)), ⟨(Or.inr (Or.inl ⟨rfl, _, rfl⟩)), ⟨(Or.inl rfl), ⟨(Or.inl rfl), ⟨(Or.inl rfl), ⟨(Or.inl rfl), trivial⟩⟩⟩⟩⟩⟩⟩⟩ ?_
    exact t_X7_share_10 hw hr hQ
  · rw [if_neg c31] at hr
    refine r_aload rfl rfl ?_
    refine r_getR (c := 7) (k := 2) (v := f) rfl rfl ⟨rfl, rfl⟩ rfl ?_
    refine r_iload rfl rfl ?_
    refine r_invv (a := f) [.int a2] rfl rfl (shFen hfe) rfl rfl (Nat.le_of_ble_eq_true rfl) ⟨rfl, rfl⟩ ?_
    refine s_X1_isLane hfe ?_
    show gW _ _ _ _ _ 9 [.ref 2, .int a1, .int a2, .int a3, .null, .null, .null, .null] [.int (f_X1_isLane I L f a2)] (gKn n, gRf f g, I, L) _
    refine r_if_ne 12 rfl rfl (fun c32 => ?_) (fun c32 => ?_)
    · rw [if_pos c32] at hr
      refine r_aload rfl rfl ?_
      refine r_getR (c := 7) (k := 2) (v := f) rfl rfl ⟨rfl, rfl⟩ rfl ?_
      refine r_aload rfl rfl ?_
      refine r_getR (c := 7) (k := 4) (v := 18) rfl rfl ⟨rfl, rfl⟩ rfl ?_
      refine r_iload rfl rfl ?_
      refine r_iload rfl rfl ?_
      refine r_aload rfl rfl ?_
      refine r_getR (c := 7) (k := 12) (v := 53) rfl rfl ⟨rfl, rfl⟩ rfl ?_
      obtain ⟨z33, hz33, hr⟩ := gbnd hr
      refine r_invv (a := f) [.ref 18, .int a1, .int a2, .ref 53] rfl rfl (shFen hfe) rfl rfl (Nat.le_of_ble_eq_true rfl) ⟨rfl, rfl⟩ ?_
      refine s_X1_sing hfe rfl rfl hz33 ?_
      show gW _ _ _ _ _ 21 [.ref 2, .int a1, .int a2, .int a3, .null, .null, .null, .null] [] (gKn n, gRf f g, z33.2.1, z33.2.2) _
      refine r_aload rfl rfl ?_
      refine r_getR (c := 7) (k := 12) (v := 53) rfl rfl ⟨rfl, rfl⟩ rfl ?_
      obtain ⟨z34, hz34, hr⟩ := gbnd hr
      refine r_invv (a := 53) [] rfl rfl rfl rfl rfl (Nat.le_of_ble_eq_true rfl) ⟨rfl, rfl⟩ ?_
      refine s_X6_toneBits rfl hz34 ?_
      show gW _ _ _ _ _ 24 [.ref 2, .int a1, .int a2, .int a3, .null, .null, .null, .null] [.int z34.1] (gKn n, gRf f g, z34.2.1, z34.2.2) _
      refine r_istore [.ref 2, .int a1, .int a2, .int a3, .int z34.1, .null, .null, .null] rfl rfl (Nat.le_of_ble_eq_true rfl) rfl ?_
      refine r_const rfl (gcst 0) ?_
      refine r_istore [.ref 2, .int a1, .int a2, .int a3, .int z34.1, .int (nI 0), .null, .null] rfl rfl (Nat.le_of_ble_eq_true rfl) rfl ?_
      refine r_const rfl (gcst 0) ?_
      refine r_istore [.ref 2, .int a1, .int a2, .int a3, .int z34.1, .int (nI 0), .int (nI 0), .null] rfl rfl (Nat.le_of_ble_eq_true rfl) rfl ?_
      refine gforget (ls := [.ref 2, .null, .int a2, .int a3, .int z34.1, .int (nI 0), .int (nI 0), .null]) ⟨(Or.inl rfl), ⟨(Or.inr (Or.inl ⟨rfl, _, rfl⟩)), ⟨(Or.inl rfl), ⟨(Or.inl rfl), ⟨(Or.inl rfl), ⟨(Or.inl rfl), ⟨(Or.inl rfl), ⟨(Or.inl rfl), trivial⟩⟩⟩⟩⟩⟩⟩⟩ ?_
      exact t_X7_share_29 hw hr hQ
    · rw [if_neg c32] at hr
      refine gforget (ls := [.null, .null, .null, .null, .null, .null, .null, .null]) ⟨(Or.inr (Or.inr ⟨rfl, _, rfl⟩)), ⟨(Or.inr (Or.inl ⟨rfl, _, rfl⟩)), ⟨(Or.inr (Or.inl ⟨rfl, _, rfl⟩)), ⟨(Or.inr (Or.inl ⟨rfl, _, rfl⟩)), ⟨(Or.inl rfl), ⟨(Or.inl rfl), ⟨(Or.inl rfl), ⟨(Or.inl rfl), trivial⟩⟩⟩⟩⟩⟩⟩⟩ ?_
      exact t_X7_share_10 hw hr hQ
def r_X7_rests_82 (f : Nat) (g : Nat)  (s0 : Int32) (I : Nat → Nat → Int32) (L : Nat → Nat → Int64) : Option gRs := some (s0, I, L)
set_option maxHeartbeats 4000000 in
set_option maxRecDepth 100000 in
theorem t_X7_rests_82 {n f g d : Nat} {Q : gP} {z : gRs}  (hw : gfw f g)   {s0 : Int32} {I : Nat → Nat → Int32} {L : Nat → Nat → Int64} (hr : r_X7_rests_82 f g s0 I L = some z) (hQ : Q (some (.int z.1)) (gKn n, gRf f g, z.2.1, z.2.2)) : gW gM (d + 3) 0 0 k_X7_rests 82 [.null, .null, .null, .null, .null, .null] [.int s0] (gKn n, gRf f g, I, L) Q := by
  have hfe := hw.f
  have hfd := hw.g
  unfold r_X7_rests_82 at hr
  refine r_iret rfl ?_
  cases hr
  exact hQ
def r_X7_rests_40 (f : Nat) (g : Nat) (K24 : Int32 → Int32 → Int32 → Int32 → (Nat → Nat → Int32) → (Nat → Nat → Int64) → Option gRs) : Nat → Int32 → Int32 → Int32 → Int32 → Int32 → (Nat → Nat → Int32) → (Nat → Nat → Int64) → Option gRs
  | 0, _, _, _, _, _, _, _ => none
  | m + 1, v1, v2, v3, v4, v5, I, L => (if (I f 1) ≤ v5 then (K24 v1 v2 v3 (v4 + (nI 1)) I L) else ((r_X1_sing I L f 18 v2 v5 55).bind (fun z28 => ((r_X3_meet z28.2.1 z28.2.2 v4 53 v5 55).bind (fun z29 => (r_X7_rests_40 f g K24 m v1 v2 v3 v4 (v5 + (nI 1)) z29.2.1 z29.2.2))))))
set_option maxHeartbeats 4000000 in
set_option maxRecDepth 100000 in
theorem t_X7_rests_40 {n f g d : Nat} {Q : gP} {z : gRs}  (hw : gfw f g)  {K24 : Int32 → Int32 → Int32 → Int32 → (Nat → Nat → Int32) → (Nat → Nat → Int64) → Option gRs} (hK24 : ∀ v1 v2 v3 v4 I L, K24 v1 v2 v3 v4 I L = some z → gW gM (d + 3) 0 0 k_X7_rests 24 [.ref 2, .int v1, .int v2, .int v3, .int v4, .null] [] (gKn n, gRf f g, I, L) Q) : ∀ {m : Nat} {v1 : Int32} {v2 : Int32} {v3 : Int32} {v4 : Int32} {v5 : Int32} {I : Nat → Nat → Int32} {L : Nat → Nat → Int64}, r_X7_rests_40 f g K24 m v1 v2 v3 v4 v5 I L = some z → Q (some (.int z.1)) (gKn n, gRf f g, z.2.1, z.2.2) → gW gM (d + 3) 0 0 k_X7_rests 40 [.ref 2, .int v1, .int v2, .int v3, .int v4, .int v5] [] (gKn n, gRf f g, I, L) Q := by
  intro m
  have hfe := hw.f
  have hfd := hw.g
  induction m with
  | zero =>
    intro v1 v2 v3 v4 v5 I L hr _
    cases hr
  | succ m ih =>
    intro v1 v2 v3 v4 v5 I L hr hQ
    have hK40 : ∀ v1 v2 v3 v4 v5 I L, r_X7_rests_40 f g K24 m v1 v2 v3 v4 v5 I L = some z → gW gM (d + 3) 0 0 k_X7_rests 40 [.ref 2, .int v1, .int v2, .int v3, .int v4, .int v5] [] (gKn n, gRf f g, I, L) Q := fun v1 v2 v3 v4 v5 I L hr => ih hr hQ
    unfold r_X7_rests_40 at hr
    refine r_iload rfl rfl ?_
    refine r_aload rfl rfl ?_
    refine r_getR (c := 7) (k := 2) (v := f) rfl rfl ⟨rfl, rfl⟩ rfl ?_
    refine r_getI (c := 1) (k := 1) rfl (shFen hfe) ⟨rfl, rfl⟩ ?_
    refine r_icmp_ge 65 rfl rfl (fun c27 => ?_) (fun c27 => ?_)
    · rw [if_pos c27] at hr
      refine r_iinc (y := (v4 + (nI 1))) [.ref 2, .int v1, .int v2, .int v3, .int (v4 + (nI 1)), .int v5] rfl rfl rfl (ginc _ 1) rfl ?_
      refine r_goto 24 rfl rfl ?_
      refine gforget (ls := [.ref 2, .int v1, .int v2, .int v3, .int (v4 + (nI 1)), .null]) ⟨(Or.inl rfl), ⟨(Or.inl rfl), ⟨(Or.inl rfl), ⟨(Or.inl rfl), ⟨(Or.inl rfl), ⟨(Or.inr (Or.inl ⟨rfl, _, rfl⟩)), trivial⟩⟩⟩⟩⟩⟩ ?_
      exact hK24 _ _ _ _ _ _ hr
    · rw [if_neg c27] at hr
      refine r_aload rfl rfl ?_
      refine r_getR (c := 7) (k := 2) (v := f) rfl rfl ⟨rfl, rfl⟩ rfl ?_
      refine r_aload rfl rfl ?_
      refine r_getR (c := 7) (k := 4) (v := 18) rfl rfl ⟨rfl, rfl⟩ rfl ?_
      refine r_iload rfl rfl ?_
      refine r_iload rfl rfl ?_
      refine r_aload rfl rfl ?_
      refine r_getR (c := 7) (k := 13) (v := 55) rfl rfl ⟨rfl, rfl⟩ rfl ?_
      obtain ⟨z28, hz28, hr⟩ := gbnd hr
      refine r_invv (a := f) [.ref 18, .int v2, .int v5, .ref 55] rfl rfl (shFen hfe) rfl rfl (Nat.le_of_ble_eq_true rfl) ⟨rfl, rfl⟩ ?_
      refine s_X1_sing hfe rfl rfl hz28 ?_
      show gW _ _ _ _ _ 54 [.ref 2, .int v1, .int v2, .int v3, .int v4, .int v5] [] (gKn n, gRf f g, z28.2.1, z28.2.2) _
      refine r_aload rfl rfl ?_
      refine r_getR (c := 7) (k := 11) (v := 50) rfl rfl ⟨rfl, rfl⟩ rfl ?_
      refine r_iload rfl rfl ?_
      refine r_aload rfl rfl ?_
      refine r_getR (c := 7) (k := 12) (v := 53) rfl rfl ⟨rfl, rfl⟩ rfl ?_
      refine r_iload rfl rfl ?_
      refine r_aload rfl rfl ?_
      refine r_getR (c := 7) (k := 13) (v := 55) rfl rfl ⟨rfl, rfl⟩ rfl ?_
      obtain ⟨z29, hz29, hr⟩ := gbnd hr
      refine r_invv (a := 50) [.int v4, .ref 53, .int v5, .ref 55] rfl rfl rfl rfl rfl (Nat.le_of_ble_eq_true rfl) ⟨rfl, rfl⟩ ?_
      refine s_X3_meet rfl rfl hz29 ?_
      show gW _ _ _ _ _ 63 [.ref 2, .int v1, .int v2, .int v3, .int v4, .int v5] [] (gKn n, gRf f g, z29.2.1, z29.2.2) _
      refine r_iinc (y := (v5 + (nI 1))) [.ref 2, .int v1, .int v2, .int v3, .int v4, .int (v5 + (nI 1))] rfl rfl rfl (ginc _ 1) rfl ?_
      refine r_goto 40 rfl rfl ?_
      exact hK40 _ _ _ _ _ _ _ hr
def r_X7_rests_24 (f : Nat) (g : Nat)  : Nat → Int32 → Int32 → Int32 → Int32 → (Nat → Nat → Int32) → (Nat → Nat → Int64) → Option gRs
  | 0, _, _, _, _, _, _ => none
  | m + 1, v1, v2, v3, v4, I, L => (if (I f 1) ≤ v4 then ((r_X3_settle I L (I f 1)).bind (fun z31 => (if ¬ v3 = 0 then (r_X7_rests_82 f g (z31.2.1 50 3) z31.2.1 z31.2.2) else (r_X7_rests_82 f g (z31.2.1 50 2) z31.2.1 z31.2.2)))) else ((r_X1_sing I L f 18 v1 v4 53).bind (fun z33 => (r_X7_rests_40 f g (r_X7_rests_24 f g m) 100 v1 v2 v3 v4 (nI 0) z33.2.1 z33.2.2))))
set_option maxHeartbeats 4000000 in
set_option maxRecDepth 100000 in
theorem t_X7_rests_24 {n f g d : Nat} {Q : gP} {z : gRs}  (hw : gfw f g)   : ∀ {m : Nat} {v1 : Int32} {v2 : Int32} {v3 : Int32} {v4 : Int32} {I : Nat → Nat → Int32} {L : Nat → Nat → Int64}, r_X7_rests_24 f g m v1 v2 v3 v4 I L = some z → Q (some (.int z.1)) (gKn n, gRf f g, z.2.1, z.2.2) → gW gM (d + 3) 0 0 k_X7_rests 24 [.ref 2, .int v1, .int v2, .int v3, .int v4, .null] [] (gKn n, gRf f g, I, L) Q := by
  intro m
  have hfe := hw.f
  have hfd := hw.g
  induction m with
  | zero =>
    intro v1 v2 v3 v4 I L hr _
    cases hr
  | succ m ih =>
    intro v1 v2 v3 v4 I L hr hQ
    have hK24 : ∀ v1 v2 v3 v4 I L, r_X7_rests_24 f g m v1 v2 v3 v4 I L = some z → gW gM (d + 3) 0 0 k_X7_rests 24 [.ref 2, .int v1, .int v2, .int v3, .int v4, .null] [] (gKn n, gRf f g, I, L) Q := fun v1 v2 v3 v4 I L hr => ih hr hQ
    unfold r_X7_rests_24 at hr
    refine r_iload rfl rfl ?_
    refine r_aload rfl rfl ?_
    refine r_getR (c := 7) (k := 2) (v := f) rfl rfl ⟨rfl, rfl⟩ rfl ?_
    refine r_getI (c := 1) (k := 1) rfl (shFen hfe) ⟨rfl, rfl⟩ ?_
    refine r_icmp_ge 67 rfl rfl (fun c30 => ?_) (fun c30 => ?_)
    · rw [if_pos c30] at hr
      refine r_aload rfl rfl ?_
      refine r_getR (c := 7) (k := 11) (v := 50) rfl rfl ⟨rfl, rfl⟩ rfl ?_
      refine r_aload rfl rfl ?_
      refine r_getR (c := 7) (k := 2) (v := f) rfl rfl ⟨rfl, rfl⟩ rfl ?_
      refine r_getI (c := 1) (k := 1) rfl (shFen hfe) ⟨rfl, rfl⟩ ?_
      obtain ⟨z31, hz31, hr⟩ := gbnd hr
      refine r_invv (a := 50) [.int (I f 1)] rfl rfl rfl rfl rfl (Nat.le_of_ble_eq_true rfl) ⟨rfl, rfl⟩ ?_
      refine s_X3_settle  hz31 ?_
      show gW _ _ _ _ _ 73 [.ref 2, .int v1, .int v2, .int v3, .int v4, .null] [] (gKn n, gRf f g, z31.2.1, z31.2.2) _
      refine r_iload rfl rfl ?_
      refine r_if_ne 79 rfl rfl (fun c32 => ?_) (fun c32 => ?_)
      · rw [if_pos c32] at hr
        refine r_aload rfl rfl ?_
        refine r_getR (c := 7) (k := 11) (v := 50) rfl rfl ⟨rfl, rfl⟩ rfl ?_
        refine r_getI (c := 3) (k := 3) rfl rfl ⟨rfl, rfl⟩ ?_
        refine gforget (ls := [.null, .null, .null, .null, .null, .null]) ⟨(Or.inr (Or.inr ⟨rfl, _, rfl⟩)), ⟨(Or.inr (Or.inl ⟨rfl, _, rfl⟩)), ⟨(Or.inr (Or.inl ⟨rfl, _, rfl⟩)), ⟨(Or.inr (Or.inl ⟨rfl, _, rfl⟩)), ⟨(Or.inr (Or.inl ⟨rfl, _, rfl⟩)), ⟨(Or.inl rfl), trivial⟩⟩⟩⟩⟩⟩ ?_
        exact t_X7_rests_82 hw hr hQ
      · rw [if_neg c32] at hr
        refine r_aload rfl rfl ?_
        refine r_getR (c := 7) (k := 11) (v := 50) rfl rfl ⟨rfl, rfl⟩ rfl ?_
        refine r_getI (c := 3) (k := 2) rfl rfl ⟨rfl, rfl⟩ ?_
        refine r_goto 82 rfl rfl ?_
        refine gforget (ls := [.null, .null, .null, .null, .null, .null]) ⟨(Or.inr (Or.inr ⟨rfl, _, rfl⟩)), ⟨(Or.inr (Or.inl ⟨rfl, _, rfl⟩)), ⟨(Or.inr (Or.inl ⟨rfl, _, rfl⟩)), ⟨(Or.inr (Or.inl ⟨rfl, _, rfl⟩)), ⟨(Or.inr (Or.inl ⟨rfl, _, rfl⟩)), ⟨(Or.inl rfl), trivial⟩⟩⟩⟩⟩⟩ ?_
        exact t_X7_rests_82 hw hr hQ
    · rw [if_neg c30] at hr
      refine r_aload rfl rfl ?_
      refine r_getR (c := 7) (k := 2) (v := f) rfl rfl ⟨rfl, rfl⟩ rfl ?_
      refine r_aload rfl rfl ?_
      refine r_getR (c := 7) (k := 4) (v := 18) rfl rfl ⟨rfl, rfl⟩ rfl ?_
      refine r_iload rfl rfl ?_
      refine r_iload rfl rfl ?_
      refine r_aload rfl rfl ?_
      refine r_getR (c := 7) (k := 12) (v := 53) rfl rfl ⟨rfl, rfl⟩ rfl ?_
      obtain ⟨z33, hz33, hr⟩ := gbnd hr
      refine r_invv (a := f) [.ref 18, .int v1, .int v4, .ref 53] rfl rfl (shFen hfe) rfl rfl (Nat.le_of_ble_eq_true rfl) ⟨rfl, rfl⟩ ?_
      refine s_X1_sing hfe rfl rfl hz33 ?_
      show gW _ _ _ _ _ 38 [.ref 2, .int v1, .int v2, .int v3, .int v4, .null] [] (gKn n, gRf f g, z33.2.1, z33.2.2) _
      refine r_const rfl (gcst 0) ?_
      refine r_istore [.ref 2, .int v1, .int v2, .int v3, .int v4, .int (nI 0)] rfl rfl (Nat.le_of_ble_eq_true rfl) rfl ?_
      exact t_X7_rests_40 hw hK24 hr hQ
def r_X7_rests_20 (f : Nat) (g : Nat)   (I : Nat → Nat → Int32) (L : Nat → Nat → Int64) : Option gRs := some ((-2 : Int32), I, L)
set_option maxHeartbeats 4000000 in
set_option maxRecDepth 100000 in
theorem t_X7_rests_20 {n f g d : Nat} {Q : gP} {z : gRs}  (hw : gfw f g)    {I : Nat → Nat → Int32} {L : Nat → Nat → Int64} (hr : r_X7_rests_20 f g I L = some z) (hQ : Q (some (.int z.1)) (gKn n, gRf f g, z.2.1, z.2.2)) : gW gM (d + 3) 0 0 k_X7_rests 20 [.null, .null, .null, .null, .null, .null] [] (gKn n, gRf f g, I, L) Q := by
  have hfe := hw.f
  have hfd := hw.g
  unfold r_X7_rests_20 at hr
  refine r_const rfl (v := -2) (by decide) ?_
  refine r_iret rfl ?_
  cases hr
  exact hQ
def r_X7_rests_10 (f : Nat) (g : Nat)   (I : Nat → Nat → Int32) (L : Nat → Nat → Int64) : Option gRs := some ((-1 : Int32), I, L)
set_option maxHeartbeats 4000000 in
set_option maxRecDepth 100000 in
theorem t_X7_rests_10 {n f g d : Nat} {Q : gP} {z : gRs}  (hw : gfw f g)    {I : Nat → Nat → Int32} {L : Nat → Nat → Int64} (hr : r_X7_rests_10 f g I L = some z) (hQ : Q (some (.int z.1)) (gKn n, gRf f g, z.2.1, z.2.2)) : gW gM (d + 3) 0 0 k_X7_rests 10 [.null, .null, .null, .null, .null, .null] [] (gKn n, gRf f g, I, L) Q := by
  have hfe := hw.f
  have hfd := hw.g
  unfold r_X7_rests_10 at hr
  refine r_const rfl (v := -1) (by decide) ?_
  refine r_iret rfl ?_
  cases hr
  exact hQ
def r_X7_rests (f g : Nat) (I : Nat → Nat → Int32) (L : Nat → Nat → Int64) (a1 : Int32) (a2 : Int32) (a3 : Int32) : Option gRs := (if (f_X1_isBeast I L f a1) = 0 then (r_X7_rests_10 f g I L) else (if ¬ (f_X1_isBeast I L f a2) = 0 then (if a1 = a2 then (r_X7_rests_20 f g I L) else (if a3 < 0 then (r_X7_rests_20 f g I L) else (if a3 ≤ (nI 1) then (r_X7_rests_24 f g 100 a1 a2 a3 (nI 0) I L) else (r_X7_rests_20 f g I L)))) else (r_X7_rests_10 f g I L)))
set_option maxHeartbeats 4000000 in
set_option maxRecDepth 100000 in
theorem s_X7_rests {n f g d : Nat} {Q : gP} {I : Nat → Nat → Int32} {L : Nat → Nat → Int64} {a1 : Int32} {a2 : Int32} {a3 : Int32} {z : gRs} (hw : gfw f g)  (hr : r_X7_rests f g I L a1 a2 a3 = some z) (hQ : Q (some (.int z.1)) (gKn n, gRf f g, z.2.1, z.2.2)) : gR gM (d + 3) 83 [.ref 2, .int a1, .int a2, .int a3] (gKn n, gRf f g, I, L) Q := by
  have hfe := hw.f
  have hfd := hw.g
  unfold r_X7_rests at hr
  show gW gM (d + 3) 0 0 k_X7_rests 0 [.ref 2, .int a1, .int a2, .int a3, .null, .null] [] (gKn n, gRf f g, I, L) Q
  refine r_aload rfl rfl ?_
  refine r_getR (c := 7) (k := 2) (v := f) rfl rfl ⟨rfl, rfl⟩ rfl ?_
  refine r_iload rfl rfl ?_
  refine r_invv (a := f) [.int a1] rfl rfl (shFen hfe) rfl rfl (Nat.le_of_ble_eq_true rfl) ⟨rfl, rfl⟩ ?_
  refine s_X1_isBeast hfe ?_
  show gW _ _ _ _ _ 4 [.ref 2, .int a1, .int a2, .int a3, .null, .null] [.int (f_X1_isBeast I L f a1)] (gKn n, gRf f g, I, L) _
  refine r_if_eq 10 rfl rfl (fun c34 => ?_) (fun c34 => ?_)
  · rw [if_pos c34] at hr
    refine gforget (ls := [.null, .null, .null, .null, .null, .null]) ⟨(Or.inr (Or.inr ⟨rfl, _, rfl⟩)), ⟨(Or.inr (Or.inl ⟨rfl, _, rfl⟩)), ⟨(Or.inr (Or.inl ⟨rfl, _, rfl⟩)), ⟨(Or.inr (Or.inl ⟨rfl, _, rfl⟩)), ⟨(Or.inl rfl), ⟨(Or.inl rfl), trivial⟩⟩⟩⟩⟩⟩ ?_
    exact t_X7_rests_10 hw hr hQ
  · rw [if_neg c34] at hr
    refine r_aload rfl rfl ?_
    refine r_getR (c := 7) (k := 2) (v := f) rfl rfl ⟨rfl, rfl⟩ rfl ?_
    refine r_iload rfl rfl ?_
    refine r_invv (a := f) [.int a2] rfl rfl (shFen hfe) rfl rfl (Nat.le_of_ble_eq_true rfl) ⟨rfl, rfl⟩ ?_
    refine s_X1_isBeast hfe ?_
    show gW _ _ _ _ _ 9 [.ref 2, .int a1, .int a2, .int a3, .null, .null] [.int (f_X1_isBeast I L f a2)] (gKn n, gRf f g, I, L) _
    refine r_if_ne 12 rfl rfl (fun c35 => ?_) (fun c35 => ?_)
    · rw [if_pos c35] at hr
      refine r_iload rfl rfl ?_
      refine r_iload rfl rfl ?_
      refine r_icmp_eq 20 rfl rfl (fun c36 => ?_) (fun c36 => ?_)
      · rw [if_pos c36] at hr
        refine gforget (ls := [.null, .null, .null, .null, .null, .null]) ⟨(Or.inr (Or.inr ⟨rfl, _, rfl⟩)), ⟨(Or.inr (Or.inl ⟨rfl, _, rfl⟩)), ⟨(Or.inr (Or.inl ⟨rfl, _, rfl⟩)), ⟨(Or.inr (Or.inl ⟨rfl, _, rfl⟩)), ⟨(Or.inl rfl), ⟨(Or.inl rfl), trivial⟩⟩⟩⟩⟩⟩ ?_
        exact t_X7_rests_20 hw hr hQ
      · rw [if_neg c36] at hr
        refine r_iload rfl rfl ?_
        refine r_if_lt 20 rfl rfl (fun c37 => ?_) (fun c37 => ?_)
        · rw [if_pos c37] at hr
          refine gforget (ls := [.null, .null, .null, .null, .null, .null]) ⟨(Or.inr (Or.inr ⟨rfl, _, rfl⟩)), ⟨(Or.inr (Or.inl ⟨rfl, _, rfl⟩)), ⟨(Or.inr (Or.inl ⟨rfl, _, rfl⟩)), ⟨(Or.inr (Or.inl ⟨rfl, _, rfl⟩)), ⟨(Or.inl rfl), ⟨(Or.inl rfl), trivial⟩⟩⟩⟩⟩⟩ ?_
          exact t_X7_rests_20 hw hr hQ
        · rw [if_neg c37] at hr
          refine r_iload rfl rfl ?_
          refine r_const rfl (gcst 1) ?_
          refine r_icmp_le 22 rfl rfl (fun c38 => ?_) (fun c38 => ?_)
          · rw [if_pos c38] at hr
            refine r_const rfl (gcst 0) ?_
            refine r_istore [.ref 2, .int a1, .int a2, .int a3, .int (nI 0), .null] rfl rfl (Nat.le_of_ble_eq_true rfl) rfl ?_
            exact t_X7_rests_24 hw hr hQ
          · rw [if_neg c38] at hr
            refine gforget (ls := [.null, .null, .null, .null, .null, .null]) ⟨(Or.inr (Or.inr ⟨rfl, _, rfl⟩)), ⟨(Or.inr (Or.inl ⟨rfl, _, rfl⟩)), ⟨(Or.inr (Or.inl ⟨rfl, _, rfl⟩)), ⟨(Or.inr (Or.inl ⟨rfl, _, rfl⟩)), ⟨(Or.inl rfl), ⟨(Or.inl rfl), trivial⟩⟩⟩⟩⟩⟩ ?_
            exact t_X7_rests_20 hw hr hQ
    · rw [if_neg c35] at hr
      refine gforget (ls := [.null, .null, .null, .null, .null, .null]) ⟨(Or.inr (Or.inr ⟨rfl, _, rfl⟩)), ⟨(Or.inr (Or.inl ⟨rfl, _, rfl⟩)), ⟨(Or.inr (Or.inl ⟨rfl, _, rfl⟩)), ⟨(Or.inr (Or.inl ⟨rfl, _, rfl⟩)), ⟨(Or.inl rfl), ⟨(Or.inl rfl), trivial⟩⟩⟩⟩⟩⟩ ?_
      exact t_X7_rests_10 hw hr hQ
def r_X7_chanceOf_25  (K4 : Int32 → Int32 → Int32 → Int32 → Int32 → (Nat → Nat → Int32) → (Nat → Nat → Int64) → Option gRs) (v0 : Int32) (v1 : Int32) (v2 : Int32) (v4 : Int32) (s0 : Int32) (s1 : Int32) (I : Nat → Nat → Int32) (L : Nat → Nat → Int64) : Option gRs := (K4 v0 v1 v2 (s0 * s1) (v4 + (nI 1)) I L)
set_option maxHeartbeats 4000000 in
set_option maxRecDepth 100000 in
theorem t_X7_chanceOf_25 {n f g d : Nat} {Q : gP} {z : gRs}   {K4 : Int32 → Int32 → Int32 → Int32 → Int32 → (Nat → Nat → Int32) → (Nat → Nat → Int64) → Option gRs} (hK4 : ∀ v0 v1 v2 v3 v4 I L, K4 v0 v1 v2 v3 v4 I L = some z → gW gM (d + 0) 0 0 k_X7_chanceOf 4 [.int v0, .int v1, .int v2, .int v3, .int v4] [] (gKn n, gRf f g, I, L) Q) {v0 : Int32} {v1 : Int32} {v2 : Int32} {v4 : Int32} {s0 : Int32} {s1 : Int32} {I : Nat → Nat → Int32} {L : Nat → Nat → Int64} (hr : r_X7_chanceOf_25 K4 v0 v1 v2 v4 s0 s1 I L = some z) (hQ : Q (some (.int z.1)) (gKn n, gRf f g, z.2.1, z.2.2)) : gW gM (d + 0) 0 0 k_X7_chanceOf 25 [.int v0, .int v1, .int v2, .null, .int v4] [.int s1, .int s0] (gKn n, gRf f g, I, L) Q := by
  unfold r_X7_chanceOf_25 at hr
  refine r_imul rfl ?_
  refine r_istore [.int v0, .int v1, .int v2, .int (s0 * s1), .int v4] rfl rfl (Nat.le_of_ble_eq_true rfl) rfl ?_
  refine r_iinc (y := (v4 + (nI 1))) [.int v0, .int v1, .int v2, .int (s0 * s1), .int (v4 + (nI 1))] rfl rfl rfl (ginc _ 1) rfl ?_
  refine r_goto 4 rfl rfl ?_
  exact hK4 _ _ _ _ _ _ _ hr
def r_X7_chanceOf_4   : Nat → Int32 → Int32 → Int32 → Int32 → Int32 → (Nat → Nat → Int32) → (Nat → Nat → Int64) → Option gRs
  | 0, _, _, _, _, _, _, _ => none
  | m + 1, v0, v1, v2, v3, v4, I, L => (if (nI 5) ≤ v4 then some (v3, I, L) else (if ((gshr v1 v4) &&& (nI 1)) = 0 then (r_X7_chanceOf_4  m v0 v1 v2 v3 (v4 + (nI 1)) I L) else (if ((gshr v0 v4) &&& (nI 1)) = 0 then (r_X7_chanceOf_25 (r_X7_chanceOf_4  m) v0 v1 v2 v4 v3 ((nI 10) - v2) I L) else (r_X7_chanceOf_25 (r_X7_chanceOf_4  m) v0 v1 v2 v4 v3 v2 I L))))
set_option maxHeartbeats 4000000 in
set_option maxRecDepth 100000 in
theorem t_X7_chanceOf_4 {n f g d : Nat} {Q : gP} {z : gRs}    : ∀ {m : Nat} {v0 : Int32} {v1 : Int32} {v2 : Int32} {v3 : Int32} {v4 : Int32} {I : Nat → Nat → Int32} {L : Nat → Nat → Int64}, r_X7_chanceOf_4 m v0 v1 v2 v3 v4 I L = some z → Q (some (.int z.1)) (gKn n, gRf f g, z.2.1, z.2.2) → gW gM (d + 0) 0 0 k_X7_chanceOf 4 [.int v0, .int v1, .int v2, .int v3, .int v4] [] (gKn n, gRf f g, I, L) Q := by
  intro m
  induction m with
  | zero =>
    intro v0 v1 v2 v3 v4 I L hr _
    cases hr
  | succ m ih =>
    intro v0 v1 v2 v3 v4 I L hr hQ
    have hK4 : ∀ v0 v1 v2 v3 v4 I L, r_X7_chanceOf_4 m v0 v1 v2 v3 v4 I L = some z → gW gM (d + 0) 0 0 k_X7_chanceOf 4 [.int v0, .int v1, .int v2, .int v3, .int v4] [] (gKn n, gRf f g, I, L) Q := fun v0 v1 v2 v3 v4 I L hr => ih hr hQ
    unfold r_X7_chanceOf_4 at hr
    refine r_iload rfl rfl ?_
    refine r_const rfl (gcst 5) ?_
    refine r_icmp_ge 29 rfl rfl (fun c7 => ?_) (fun c7 => ?_)
    · rw [if_pos c7] at hr
      refine r_iload rfl rfl ?_
      refine r_iret rfl ?_
      cases hr
      exact hQ
    · rw [if_neg c7] at hr
      refine r_iload rfl rfl ?_
      refine r_iload rfl rfl ?_
      refine r_ishr rfl ?_
      refine r_const rfl (gcst 1) ?_
      refine r_iand rfl ?_
      refine r_if_eq 27 rfl rfl (fun c8 => ?_) (fun c8 => ?_)
      · rw [if_pos c8] at hr
        refine r_iinc (y := (v4 + (nI 1))) [.int v0, .int v1, .int v2, .int v3, .int (v4 + (nI 1))] rfl rfl rfl (ginc _ 1) rfl ?_
        refine r_goto 4 rfl rfl ?_
        exact hK4 _ _ _ _ _ _ _ hr
      · rw [if_neg c8] at hr
        refine r_iload rfl rfl ?_
        refine r_iload rfl rfl ?_
        refine r_iload rfl rfl ?_
        refine r_ishr rfl ?_
        refine r_const rfl (gcst 1) ?_
        refine r_iand rfl ?_
        refine r_if_eq 22 rfl rfl (fun c9 => ?_) (fun c9 => ?_)
        · rw [if_pos c9] at hr
          refine r_const rfl (gcst 10) ?_
          refine r_iload rfl rfl ?_
          refine r_isub rfl ?_
          refine gforget (ls := [.int v0, .int v1, .int v2, .null, .int v4]) ⟨(Or.inl rfl), ⟨(Or.inl rfl), ⟨(Or.inl rfl), ⟨(Or.inr (Or.inl ⟨rfl, _, rfl⟩)), ⟨(Or.inl rfl), trivial⟩⟩⟩⟩⟩ ?_
          exact t_X7_chanceOf_25 hK4 hr hQ
        · rw [if_neg c9] at hr
          refine r_iload rfl rfl ?_
          refine r_goto 25 rfl rfl ?_
          refine gforget (ls := [.int v0, .int v1, .int v2, .null, .int v4]) ⟨(Or.inl rfl), ⟨(Or.inl rfl), ⟨(Or.inl rfl), ⟨(Or.inr (Or.inl ⟨rfl, _, rfl⟩)), ⟨(Or.inl rfl), trivial⟩⟩⟩⟩⟩ ?_
          exact t_X7_chanceOf_25 hK4 hr hQ
def r_X7_chanceOf (I : Nat → Nat → Int32) (L : Nat → Nat → Int64) (a0 : Int32) (a1 : Int32) (a2 : Int32) : Option gRs := (r_X7_chanceOf_4 100 a0 a1 a2 (nI 1) (nI 0) I L)
set_option maxHeartbeats 4000000 in
set_option maxRecDepth 100000 in
theorem s_X7_chanceOf {n f g d : Nat} {Q : gP} {I : Nat → Nat → Int32} {L : Nat → Nat → Int64} {a0 : Int32} {a1 : Int32} {a2 : Int32} {z : gRs}  (hr : r_X7_chanceOf I L a0 a1 a2 = some z) (hQ : Q (some (.int z.1)) (gKn n, gRf f g, z.2.1, z.2.2)) : gR gM (d + 0) 100 [.int a0, .int a1, .int a2] (gKn n, gRf f g, I, L) Q := by
  unfold r_X7_chanceOf at hr
  show gW gM (d + 0) 0 0 k_X7_chanceOf 0 [.int a0, .int a1, .int a2, .null, .null] [] (gKn n, gRf f g, I, L) Q
  refine r_const rfl (gcst 1) ?_
  refine r_istore [.int a0, .int a1, .int a2, .int (nI 1), .null] rfl rfl (Nat.le_of_ble_eq_true rfl) rfl ?_
  refine r_const rfl (gcst 0) ?_
  refine r_istore [.int a0, .int a1, .int a2, .int (nI 1), .int (nI 0)] rfl rfl (Nat.le_of_ble_eq_true rfl) rfl ?_
  exact t_X7_chanceOf_4  hr hQ
def r_X7_tonesWhenOiled (f g : Nat) (I : Nat → Nat → Int32) (L : Nat → Nat → Int64) (a1 : Int32) (a2 : Int32) (a3 : Int32) : Option gRs := ((r_X1_sing (gu2 (i_X4_become I L 19 18) 19 3 (((i_X4_become I L 19 18) 19 3) ||| a3)) (l_X4_become I L 19 18) f 19 a1 a2 53).bind (fun z3 => ((r_X6_toneCount z3.2.1 z3.2.2 53).bind (fun z4 => some (z4.1, z4.2.1, z4.2.2)))))
set_option maxHeartbeats 4000000 in
set_option maxRecDepth 100000 in
theorem s_X7_tonesWhenOiled {n f g d : Nat} {Q : gP} {I : Nat → Nat → Int32} {L : Nat → Nat → Int64} {a1 : Int32} {a2 : Int32} {a3 : Int32} {z : gRs} (hw : gfw f g)  (hr : r_X7_tonesWhenOiled f g I L a1 a2 a3 = some z) (hQ : Q (some (.int z.1)) (gKn n, gRf f g, z.2.1, z.2.2)) : gR gM (d + 3) 101 [.ref 2, .int a1, .int a2, .int a3] (gKn n, gRf f g, I, L) Q := by
  have hfe := hw.f
  have hfd := hw.g
  unfold r_X7_tonesWhenOiled at hr
  show gW gM (d + 3) 0 0 k_X7_tonesWhenOiled 0 [.ref 2, .int a1, .int a2, .int a3] [] (gKn n, gRf f g, I, L) Q
  refine r_aload rfl rfl ?_
  refine r_getR (c := 7) (k := 5) (v := 19) rfl rfl ⟨rfl, rfl⟩ rfl ?_
  refine r_aload rfl rfl ?_
  refine r_getR (c := 7) (k := 4) (v := 18) rfl rfl ⟨rfl, rfl⟩ rfl ?_
  refine r_invv (a := 19) [.ref 18] rfl rfl rfl rfl rfl (Nat.le_of_ble_eq_true rfl) ⟨rfl, rfl⟩ ?_
  refine s_X4_become rfl rfl ?_
  show gW _ _ _ _ _ 5 [.ref 2, .int a1, .int a2, .int a3] [] (gKn n, gRf f g, (i_X4_become I L 19 18), (l_X4_become I L 19 18)) _
  refine r_aload rfl rfl ?_
  refine r_getR (c := 7) (k := 5) (v := 19) rfl rfl ⟨rfl, rfl⟩ rfl ?_
  refine r_dup rfl rfl ?_
  refine r_getI (c := 4) (k := 3) rfl rfl ⟨rfl, rfl⟩ ?_
  refine r_iload rfl rfl ?_
  refine r_ior rfl ?_
  refine r_putI (c := 4) (k := 3) rfl rfl ⟨rfl, rfl⟩ ?_
  refine r_aload rfl rfl ?_
  refine r_getR (c := 7) (k := 2) (v := f) rfl rfl ⟨rfl, rfl⟩ rfl ?_
  refine r_aload rfl rfl ?_
  refine r_getR (c := 7) (k := 5) (v := 19) rfl rfl ⟨rfl, rfl⟩ rfl ?_
  refine r_iload rfl rfl ?_
  refine r_iload rfl rfl ?_
  refine r_aload rfl rfl ?_
  refine r_getR (c := 7) (k := 12) (v := 53) rfl rfl ⟨rfl, rfl⟩ rfl ?_
  obtain ⟨z3, hz3, hr⟩ := gbnd hr
  refine r_invv (a := f) [.ref 19, .int a1, .int a2, .ref 53] rfl rfl (shFen hfe) rfl rfl (Nat.le_of_ble_eq_true rfl) ⟨rfl, rfl⟩ ?_
  refine s_X1_sing hfe rfl rfl hz3 ?_
  show gW _ _ _ _ _ 21 [.ref 2, .int a1, .int a2, .int a3] [] (gKn n, gRf f g, z3.2.1, z3.2.2) _
  refine r_aload rfl rfl ?_
  refine r_getR (c := 7) (k := 12) (v := 53) rfl rfl ⟨rfl, rfl⟩ rfl ?_
  obtain ⟨z4, hz4, hr⟩ := gbnd hr
  refine r_invv (a := 53) [] rfl rfl rfl rfl rfl (Nat.le_of_ble_eq_true rfl) ⟨rfl, rfl⟩ ?_
  refine s_X6_toneCount rfl hz4 ?_
  show gW _ _ _ _ _ 24 [.ref 2, .int a1, .int a2, .int a3] [.int z4.1] (gKn n, gRf f g, z4.2.1, z4.2.2) _
  refine r_iret rfl ?_
  cases hr
  exact hQ
def r_X7_drips_70 (f : Nat) (g : Nat) (K41 : Int32 → Int32 → Int32 → Int32 → Int32 → Int32 → Int32 → Int32 → Int32 → (Nat → Nat → Int32) → (Nat → Nat → Int64) → Option gRs) (v1 : Int32) (v2 : Int32) (v3 : Int32) (v4 : Int32) (v5 : Int32) (v6 : Int32) (v8 : Int32) (v9 : Int32) (s0 : Int32) (s1 : Int32) (I : Nat → Nat → Int32) (L : Nat → Nat → Int64) : Option gRs := (K41 v1 v2 v3 v4 v5 v6 (s0 + s1) v8 (v9 + (nI 1)) I L)
set_option maxHeartbeats 4000000 in
set_option maxRecDepth 100000 in
theorem t_X7_drips_70 {n f g d : Nat} {Q : gP} {z : gRs}  (hw : gfw f g)  {K41 : Int32 → Int32 → Int32 → Int32 → Int32 → Int32 → Int32 → Int32 → Int32 → (Nat → Nat → Int32) → (Nat → Nat → Int64) → Option gRs} (hK41 : ∀ v1 v2 v3 v4 v5 v6 v7 v8 v9 I L, K41 v1 v2 v3 v4 v5 v6 v7 v8 v9 I L = some z → gW gM (d + 4) 0 0 k_X7_drips 41 [.ref 2, .int v1, .int v2, .int v3, .int v4, .int v5, .int v6, .int v7, .int v8, .int v9, .null] [] (gKn n, gRf f g, I, L) Q) {v1 : Int32} {v2 : Int32} {v3 : Int32} {v4 : Int32} {v5 : Int32} {v6 : Int32} {v8 : Int32} {v9 : Int32} {s0 : Int32} {s1 : Int32} {I : Nat → Nat → Int32} {L : Nat → Nat → Int64} (hr : r_X7_drips_70 f g K41 v1 v2 v3 v4 v5 v6 v8 v9 s0 s1 I L = some z) (hQ : Q (some (.int z.1)) (gKn n, gRf f g, z.2.1, z.2.2)) : gW gM (d + 4) 0 0 k_X7_drips 70 [.ref 2, .int v1, .int v2, .int v3, .int v4, .int v5, .int v6, .null, .int v8, .int v9, .null] [.int s1, .int s0] (gKn n, gRf f g, I, L) Q := by
  have hfe := hw.f
  have hfd := hw.g
  unfold r_X7_drips_70 at hr
  refine r_iadd rfl ?_
  refine r_istore [.ref 2, .int v1, .int v2, .int v3, .int v4, .int v5, .int v6, .int (s0 + s1), .int v8, .int v9, .null] rfl rfl (Nat.le_of_ble_eq_true rfl) rfl ?_
  refine r_iinc (y := (v9 + (nI 1))) [.ref 2, .int v1, .int v2, .int v3, .int v4, .int v5, .int v6, .int (s0 + s1), .int v8, .int (v9 + (nI 1)), .null] rfl rfl rfl (ginc _ 1) rfl ?_
  refine r_goto 41 rfl rfl ?_
  exact hK41 _ _ _ _ _ _ _ _ _ _ _ hr
def r_X7_drips_41 (f : Nat) (g : Nat)  : Nat → Int32 → Int32 → Int32 → Int32 → Int32 → Int32 → Int32 → Int32 → Int32 → (Nat → Nat → Int32) → (Nat → Nat → Int64) → Option gRs
  | 0, _, _, _, _, _, _, _, _, _, _, _ => none
  | m + 1, v1, v2, v3, v4, v5, v6, v7, v8, v9, I, L => (if (nI 32) ≤ v9 then ((r_X7_fraction I L v7 v8 v5).bind (fun z35 => some (z35.1, z35.2.1, z35.2.2))) else (if ¬ (v9 &&& (v6 ^^^ (-1 : Int32))) = 0 then (r_X7_drips_41 f g m v1 v2 v3 v4 v5 v6 v7 v8 (v9 + (nI 1)) I L) else ((r_X7_chanceOf I L v9 v6 v4).bind (fun z37 => ((r_X7_tonesWhenOiled f g z37.2.1 z37.2.2 v1 v2 v9).bind (fun z38 => (if v3 < z38.1 then (r_X7_drips_70 f g (r_X7_drips_41 f g m) v1 v2 v3 v4 v5 v6 (v8 + z37.1) v9 v7 (nI 0) z38.2.1 z38.2.2) else (r_X7_drips_70 f g (r_X7_drips_41 f g m) v1 v2 v3 v4 v5 v6 (v8 + z37.1) v9 v7 z37.1 z38.2.1 z38.2.2))))))))
set_option maxHeartbeats 4000000 in
set_option maxRecDepth 100000 in
theorem t_X7_drips_41 {n f g d : Nat} {Q : gP} {z : gRs}  (hw : gfw f g)   : ∀ {m : Nat} {v1 : Int32} {v2 : Int32} {v3 : Int32} {v4 : Int32} {v5 : Int32} {v6 : Int32} {v7 : Int32} {v8 : Int32} {v9 : Int32} {I : Nat → Nat → Int32} {L : Nat → Nat → Int64}, r_X7_drips_41 f g m v1 v2 v3 v4 v5 v6 v7 v8 v9 I L = some z → Q (some (.int z.1)) (gKn n, gRf f g, z.2.1, z.2.2) → gW gM (d + 4) 0 0 k_X7_drips 41 [.ref 2, .int v1, .int v2, .int v3, .int v4, .int v5, .int v6, .int v7, .int v8, .int v9, .null] [] (gKn n, gRf f g, I, L) Q := by
  intro m
  have hfe := hw.f
  have hfd := hw.g
  induction m with
  | zero =>
    intro v1 v2 v3 v4 v5 v6 v7 v8 v9 I L hr _
    cases hr
  | succ m ih =>
    intro v1 v2 v3 v4 v5 v6 v7 v8 v9 I L hr hQ
    have hK41 : ∀ v1 v2 v3 v4 v5 v6 v7 v8 v9 I L, r_X7_drips_41 f g m v1 v2 v3 v4 v5 v6 v7 v8 v9 I L = some z → gW gM (d + 4) 0 0 k_X7_drips 41 [.ref 2, .int v1, .int v2, .int v3, .int v4, .int v5, .int v6, .int v7, .int v8, .int v9, .null] [] (gKn n, gRf f g, I, L) Q := fun v1 v2 v3 v4 v5 v6 v7 v8 v9 I L hr => ih hr hQ
    unfold r_X7_drips_41 at hr
    refine r_iload rfl rfl ?_
    refine r_const rfl (gcst 32) ?_
    refine r_icmp_ge 74 rfl rfl (fun c34 => ?_) (fun c34 => ?_)
    · rw [if_pos c34] at hr
      refine r_iload rfl rfl ?_
      refine r_iload rfl rfl ?_
      refine r_iload rfl rfl ?_
      obtain ⟨z35, hz35, hr⟩ := gbnd hr
      refine r_invs [.int v7, .int v8, .int v5] rfl rfl rfl rfl (Nat.le_of_ble_eq_true rfl) ⟨rfl, rfl⟩ ?_
      refine s_X7_fraction  hz35 ?_
      show gW _ _ _ _ _ 78 [.ref 2, .int v1, .int v2, .int v3, .int v4, .int v5, .int v6, .int v7, .int v8, .int v9, .null] [.int z35.1] (gKn n, gRf f g, z35.2.1, z35.2.2) _
      refine r_iret rfl ?_
      cases hr
      exact hQ
    · rw [if_neg c34] at hr
      refine r_iload rfl rfl ?_
      refine r_iload rfl rfl ?_
      refine r_const rfl (v := -1) (by decide) ?_
      refine r_ixor rfl ?_
      refine r_iand rfl ?_
      refine r_if_ne 72 rfl rfl (fun c36 => ?_) (fun c36 => ?_)
      · rw [if_pos c36] at hr
        refine r_iinc (y := (v9 + (nI 1))) [.ref 2, .int v1, .int v2, .int v3, .int v4, .int v5, .int v6, .int v7, .int v8, .int (v9 + (nI 1)), .null] rfl rfl rfl (ginc _ 1) rfl ?_
        refine r_goto 41 rfl rfl ?_
        exact hK41 _ _ _ _ _ _ _ _ _ _ _ hr
      · rw [if_neg c36] at hr
        refine r_iload rfl rfl ?_
        refine r_iload rfl rfl ?_
        refine r_iload rfl rfl ?_
        obtain ⟨z37, hz37, hr⟩ := gbnd hr
        refine r_invs [.int v9, .int v6, .int v4] rfl rfl rfl rfl (Nat.le_of_ble_eq_true rfl) ⟨rfl, rfl⟩ ?_
        refine s_X7_chanceOf  hz37 ?_
        show gW _ _ _ _ _ 54 [.ref 2, .int v1, .int v2, .int v3, .int v4, .int v5, .int v6, .int v7, .int v8, .int v9, .null] [.int z37.1] (gKn n, gRf f g, z37.2.1, z37.2.2) _
        refine r_istore [.ref 2, .int v1, .int v2, .int v3, .int v4, .int v5, .int v6, .int v7, .int v8, .int v9, .int z37.1] rfl rfl (Nat.le_of_ble_eq_true rfl) rfl ?_
        refine r_iload rfl rfl ?_
        refine r_iload rfl rfl ?_
        refine r_iadd rfl ?_
        refine r_istore [.ref 2, .int v1, .int v2, .int v3, .int v4, .int v5, .int v6, .int v7, .int (v8 + z37.1), .int v9, .int z37.1] rfl rfl (Nat.le_of_ble_eq_true rfl) rfl ?_
        refine r_iload rfl rfl ?_
        refine r_aload rfl rfl ?_
        refine r_iload rfl rfl ?_
        refine r_iload rfl rfl ?_
        refine r_iload rfl rfl ?_
        obtain ⟨z38, hz38, hr⟩ := gbnd hr
        refine r_invv (a := 2) [.int v1, .int v2, .int v9] rfl rfl rfl rfl rfl (Nat.le_of_ble_eq_true rfl) ⟨rfl, rfl⟩ ?_
        refine s_X7_tonesWhenOiled hw  hz38 ?_
        show gW _ _ _ _ _ 65 [.ref 2, .int v1, .int v2, .int v3, .int v4, .int v5, .int v6, .int v7, .int (v8 + z37.1), .int v9, .int z37.1] [.int z38.1, .int v7] (gKn n, gRf f g, z38.2.1, z38.2.2) _
        refine r_iload rfl rfl ?_
        refine r_icmp_gt 69 rfl rfl (fun c39 => ?_) (fun c39 => ?_)
        · rw [if_pos c39] at hr
          refine r_const rfl (gcst 0) ?_
          refine gforget (ls := [.ref 2, .int v1, .int v2, .int v3, .int v4, .int v5, .int v6, .null, .int (v8 + z37.1), .int v9, .null]) ⟨(Or.inl rfl), ⟨(Or.inl rfl), ⟨(Or.inl rfl), ⟨(Or.inl rfl), ⟨(Or.inl rfl), ⟨(Or.inl rfl), ⟨(Or.inl rfl), ⟨(Or.inr (Or.inl ⟨rfl, _, rfl⟩)), ⟨(Or.inl rfl), ⟨(Or.inl rfl), ⟨(Or.inr (Or.inl ⟨rfl, _, rfl⟩)), trivial⟩⟩⟩⟩⟩⟩⟩⟩⟩⟩⟩ ?_
          exact t_X7_drips_70 hw hK41 hr hQ
        · rw [if_neg c39] at hr
          refine r_iload rfl rfl ?_
          refine r_goto 70 rfl rfl ?_
          refine gforget (ls := [.ref 2, .int v1, .int v2, .int v3, .int v4, .int v5, .int v6, .null, .int (v8 + z37.1), .int v9, .null]) ⟨(Or.inl rfl), ⟨(Or.inl rfl), ⟨(Or.inl rfl), ⟨(Or.inl rfl), ⟨(Or.inl rfl), ⟨(Or.inl rfl), ⟨(Or.inl rfl), ⟨(Or.inr (Or.inl ⟨rfl, _, rfl⟩)), ⟨(Or.inl rfl), ⟨(Or.inl rfl), ⟨(Or.inr (Or.inl ⟨rfl, _, rfl⟩)), trivial⟩⟩⟩⟩⟩⟩⟩⟩⟩⟩⟩ ?_
          exact t_X7_drips_70 hw hK41 hr hQ
def r_X7_drips_22 (f : Nat) (g : Nat)   (I : Nat → Nat → Int32) (L : Nat → Nat → Int64) : Option gRs := some ((-2 : Int32), I, L)
set_option maxHeartbeats 4000000 in
set_option maxRecDepth 100000 in
theorem t_X7_drips_22 {n f g d : Nat} {Q : gP} {z : gRs}  (hw : gfw f g)    {I : Nat → Nat → Int32} {L : Nat → Nat → Int64} (hr : r_X7_drips_22 f g I L = some z) (hQ : Q (some (.int z.1)) (gKn n, gRf f g, z.2.1, z.2.2)) : gW gM (d + 4) 0 0 k_X7_drips 22 [.null, .null, .null, .null, .null, .null, .null, .null, .null, .null, .null] [] (gKn n, gRf f g, I, L) Q := by
  have hfe := hw.f
  have hfd := hw.g
  unfold r_X7_drips_22 at hr
  refine r_const rfl (v := -2) (by decide) ?_
  refine r_iret rfl ?_
  cases hr
  exact hQ
def r_X7_drips_10 (f : Nat) (g : Nat)   (I : Nat → Nat → Int32) (L : Nat → Nat → Int64) : Option gRs := some ((-1 : Int32), I, L)
set_option maxHeartbeats 4000000 in
set_option maxRecDepth 100000 in
theorem t_X7_drips_10 {n f g d : Nat} {Q : gP} {z : gRs}  (hw : gfw f g)    {I : Nat → Nat → Int32} {L : Nat → Nat → Int64} (hr : r_X7_drips_10 f g I L = some z) (hQ : Q (some (.int z.1)) (gKn n, gRf f g, z.2.1, z.2.2)) : gW gM (d + 4) 0 0 k_X7_drips 10 [.null, .null, .null, .null, .null, .null, .null, .null, .null, .null, .null] [] (gKn n, gRf f g, I, L) Q := by
  have hfe := hw.f
  have hfd := hw.g
  unfold r_X7_drips_10 at hr
  refine r_const rfl (v := -1) (by decide) ?_
  refine r_iret rfl ?_
  cases hr
  exact hQ
def r_X7_drips (f g : Nat) (I : Nat → Nat → Int32) (L : Nat → Nat → Int64) (a1 : Int32) (a2 : Int32) (a3 : Int32) (a4 : Int32) (a5 : Int32) : Option gRs := (if (f_X1_isBeast I L f a1) = 0 then (r_X7_drips_10 f g I L) else (if ¬ (f_X1_isLane I L f a2) = 0 then (if a3 < 0 then (r_X7_drips_22 f g I L) else (if (nI 12) < a3 then (r_X7_drips_22 f g I L) else (if a4 < 0 then (r_X7_drips_22 f g I L) else (if a4 ≤ (nI 10) then ((r_X1_gatesOf I L f a2).bind (fun z46 => (r_X7_drips_41 f g 100 a1 a2 a3 a4 a5 (z46.1 &&& ((z46.2.1 18 3) ^^^ (-1 : Int32))) (nI 0) (nI 0) (nI 0) z46.2.1 z46.2.2))) else (r_X7_drips_22 f g I L))))) else (r_X7_drips_10 f g I L)))
set_option maxHeartbeats 4000000 in
set_option maxRecDepth 100000 in
theorem s_X7_drips {n f g d : Nat} {Q : gP} {I : Nat → Nat → Int32} {L : Nat → Nat → Int64} {a1 : Int32} {a2 : Int32} {a3 : Int32} {a4 : Int32} {a5 : Int32} {z : gRs} (hw : gfw f g)  (hr : r_X7_drips f g I L a1 a2 a3 a4 a5 = some z) (hQ : Q (some (.int z.1)) (gKn n, gRf f g, z.2.1, z.2.2)) : gR gM (d + 4) 84 [.ref 2, .int a1, .int a2, .int a3, .int a4, .int a5] (gKn n, gRf f g, I, L) Q := by
  have hfe := hw.f
  have hfd := hw.g
  unfold r_X7_drips at hr
  show gW gM (d + 4) 0 0 k_X7_drips 0 [.ref 2, .int a1, .int a2, .int a3, .int a4, .int a5, .null, .null, .null, .null, .null] [] (gKn n, gRf f g, I, L) Q
  refine r_aload rfl rfl ?_
  refine r_getR (c := 7) (k := 2) (v := f) rfl rfl ⟨rfl, rfl⟩ rfl ?_
  refine r_iload rfl rfl ?_
  refine r_invv (a := f) [.int a1] rfl rfl (shFen hfe) rfl rfl (Nat.le_of_ble_eq_true rfl) ⟨rfl, rfl⟩ ?_
  refine s_X1_isBeast hfe ?_
  show gW _ _ _ _ _ 4 [.ref 2, .int a1, .int a2, .int a3, .int a4, .int a5, .null, .null, .null, .null, .null] [.int (f_X1_isBeast I L f a1)] (gKn n, gRf f g, I, L) _
  refine r_if_eq 10 rfl rfl (fun c40 => ?_) (fun c40 => ?_)
  · rw [if_pos c40] at hr
    refine gforget (ls := [.null, .null, .null, .null, .null, .null, .null, .null, .null, .null, .null]) ⟨(Or.inr (Or.inr ⟨rfl, _, rfl⟩)), ⟨(Or.inr (Or.inl ⟨rfl, _, rfl⟩)), ⟨(Or.inr (Or.inl ⟨rfl, _, rfl⟩)), ⟨(Or.inr (Or.inl ⟨rfl, _, rfl⟩)), ⟨(Or.inr (Or.inl ⟨rfl, _, rfl⟩)), ⟨(Or.inr (Or.inl ⟨rfl, _, rfl⟩)), ⟨(Or.inl rfl), ⟨(Or.inl rfl), ⟨(Or.inl rfl), ⟨(Or.inl rfl), ⟨(Or.inl rfl), trivial⟩⟩⟩⟩⟩⟩⟩⟩⟩⟩⟩ ?_
    exact t_X7_drips_10 hw hr hQ
  · rw [if_neg c40] at hr
    refine r_aload rfl rfl ?_
    refine r_getR (c := 7) (k := 2) (v := f) rfl rfl ⟨rfl, rfl⟩ rfl ?_
    refine r_iload rfl rfl ?_
    refine r_invv (a := f) [.int a2] rfl rfl (shFen hfe) rfl rfl (Nat.le_of_ble_eq_true rfl) ⟨rfl, rfl⟩ ?_
    refine s_X1_isLane hfe ?_
    show gW _ _ _ _ _ 9 [.ref 2, .int a1, .int a2, .int a3, .int a4, .int a5, .null, .null, .null, .null, .null] [.int (f_X1_isLane I L f a2)] (gKn n, gRf f g, I, L) _
    refine r_if_ne 12 rfl rfl (fun c41 => ?_) (fun c41 => ?_)
    · rw [if_pos c41] at hr
      refine r_iload rfl rfl ?_
      refine r_if_lt 22 rfl rfl (fun c42 => ?_) (fun c42 => ?_)
      · rw [if_pos c42] at hr
        refine gforget (ls := [.null, .null, .null, .null, .null, .null, .null, .null, .null, .null, .null]) ⟨(Or.inr (Or.inr ⟨rfl, _, rfl⟩)), ⟨(Or.inr (Or.inl ⟨rfl, _, rfl⟩)), ⟨(Or.inr (Or.inl ⟨rfl, _, rfl⟩)), ⟨(Or.inr (Or.inl ⟨rfl, _, rfl⟩)), ⟨(Or.inr (Or.inl ⟨rfl, _, rfl⟩)), ⟨(Or.inr (Or.inl ⟨rfl, _, rfl⟩)), ⟨(Or.inl rfl), ⟨(Or.inl rfl), ⟨(Or.inl rfl), ⟨(Or.inl rfl), ⟨(Or.inl rfl), trivial⟩⟩⟩⟩⟩⟩⟩⟩⟩⟩⟩ ?_
        exact t_X7_drips_22 hw hr hQ
      · rw [if_neg c42] at hr
        refine r_iload rfl rfl ?_
        refine r_const rfl (gcst 12) ?_
        refine r_icmp_gt 22 rfl rfl (fun c43 => ?_) (fun c43 => ?_)
        · rw [if_pos c43] at hr
          refine gforget (ls := [.null, .null, .null, .null, .null, .null, .null, .null, .null, .null, .null]) ⟨(Or.inr (Or.inr ⟨rfl, _, rfl⟩)), ⟨(Or.inr (Or.inl ⟨rfl, _, rfl⟩)), ⟨(Or.inr (Or.inl ⟨rfl, _, rfl⟩)), ⟨(Or.inr (Or.inl ⟨rfl, _, rfl⟩)), ⟨(Or.inr (Or.inl ⟨rfl, _, rfl⟩)), ⟨(Or.inr (Or.inl ⟨rfl, _, rfl⟩)), ⟨(Or.inl rfl), ⟨(Or.inl rfl), ⟨(Or.inl rfl), ⟨(Or.inl rfl), ⟨(Or.inl rfl), trivial⟩⟩⟩⟩⟩⟩⟩⟩⟩⟩⟩ ?_
          exact t_X7_drips_22 hw hr hQ
        · rw [if_neg c43] at hr
          refine r_iload rfl rfl ?_
          refine r_if_lt 22 rfl rfl (fun c44 => ?_) (fun c44 => ?_)
          · rw [if_pos c44] at hr
            refine gforget (ls := [.null, .null, .null, .null, .null, .null, .null, .null, .null, .null, .null]) ⟨(Or.inr (Or.inr ⟨rfl, _, rfl⟩)), ⟨(Or.inr (Or.inl ⟨rfl, _, rfl⟩)), ⟨(Or.inr (Or.inl ⟨rfl, _, rfl⟩)), ⟨(Or.inr (Or.inl ⟨rfl, _, rfl⟩)), ⟨(Or.inr (Or.inl ⟨rfl, _, rfl⟩)), ⟨(Or.inr (Or.inl ⟨rfl, _, rfl⟩)), ⟨(Or.inl rfl), ⟨(Or.inl rfl), ⟨(Or.inl rfl), ⟨(Or.inl rfl), ⟨(Or.inl rfl), trivial⟩⟩⟩⟩⟩⟩⟩⟩⟩⟩⟩ ?_
            exact t_X7_drips_22 hw hr hQ
          · rw [if_neg c44] at hr
            refine r_iload rfl rfl ?_
            refine r_const rfl (gcst 10) ?_
            refine r_icmp_le 24 rfl rfl (fun c45 => ?_) (fun c45 => ?_)
            · rw [if_pos c45] at hr
              refine r_aload rfl rfl ?_
              refine r_getR (c := 7) (k := 2) (v := f) rfl rfl ⟨rfl, rfl⟩ rfl ?_
              refine r_iload rfl rfl ?_
              obtain ⟨z46, hz46, hr⟩ := gbnd hr
              refine r_invv (a := f) [.int a2] rfl rfl (shFen hfe) rfl rfl (Nat.le_of_ble_eq_true rfl) ⟨rfl, rfl⟩ ?_
              refine s_X1_gatesOf hfe hz46 ?_
              show gW _ _ _ _ _ 28 [.ref 2, .int a1, .int a2, .int a3, .int a4, .int a5, .null, .null, .null, .null, .null] [.int z46.1] (gKn n, gRf f g, z46.2.1, z46.2.2) _
              refine r_aload rfl rfl ?_
              refine r_getR (c := 7) (k := 4) (v := 18) rfl rfl ⟨rfl, rfl⟩ rfl ?_
              refine r_getI (c := 4) (k := 3) rfl rfl ⟨rfl, rfl⟩ ?_
              refine r_const rfl (v := -1) (by decide) ?_
              refine r_ixor rfl ?_
              refine r_iand rfl ?_
              refine r_istore [.ref 2, .int a1, .int a2, .int a3, .int a4, .int a5, .int (z46.1 &&& ((z46.2.1 18 3) ^^^ (-1 : Int32))), .null, .null, .null, .null] rfl rfl (Nat.le_of_ble_eq_true rfl) rfl ?_
              refine r_const rfl (gcst 0) ?_
              refine r_istore [.ref 2, .int a1, .int a2, .int a3, .int a4, .int a5, .int (z46.1 &&& ((z46.2.1 18 3) ^^^ (-1 : Int32))), .int (nI 0), .null, .null, .null] rfl rfl (Nat.le_of_ble_eq_true rfl) rfl ?_
              refine r_const rfl (gcst 0) ?_
              refine r_istore [.ref 2, .int a1, .int a2, .int a3, .int a4, .int a5, .int (z46.1 &&& ((z46.2.1 18 3) ^^^ (-1 : Int32))), .int (nI 0), .int (nI 0), .null, .null] rfl rfl (Nat.le_of_ble_eq_true rfl) rfl ?_
              refine r_const rfl (gcst 0) ?_
              refine r_istore [.ref 2, .int a1, .int a2, .int a3, .int a4, .int a5, .int (z46.1 &&& ((z46.2.1 18 3) ^^^ (-1 : Int32))), .int (nI 0), .int (nI 0), .int (nI 0), .null] rfl rfl (Nat.le_of_ble_eq_true rfl) rfl ?_
              exact t_X7_drips_41 hw hr hQ
            · rw [if_neg c45] at hr
              refine gforget (ls := [.null, .null, .null, .null, .null, .null, .null, .null, .null, .null, .null]) ⟨(Or.inr (Or.inr ⟨rfl, _, rfl⟩)), ⟨(Or.inr (Or.inl ⟨rfl, _, rfl⟩)), ⟨(Or.inr (Or.inl ⟨rfl, _, rfl⟩)), ⟨(Or.inr (Or.inl ⟨rfl, _, rfl⟩)), ⟨(Or.inr (Or.inl ⟨rfl, _, rfl⟩)), ⟨(Or.inr (Or.inl ⟨rfl, _, rfl⟩)), ⟨(Or.inl rfl), ⟨(Or.inl rfl), ⟨(Or.inl rfl), ⟨(Or.inl rfl), ⟨(Or.inl rfl), trivial⟩⟩⟩⟩⟩⟩⟩⟩⟩⟩⟩ ?_
              exact t_X7_drips_22 hw hr hQ
    · rw [if_neg c41] at hr
      refine gforget (ls := [.null, .null, .null, .null, .null, .null, .null, .null, .null, .null, .null]) ⟨(Or.inr (Or.inr ⟨rfl, _, rfl⟩)), ⟨(Or.inr (Or.inl ⟨rfl, _, rfl⟩)), ⟨(Or.inr (Or.inl ⟨rfl, _, rfl⟩)), ⟨(Or.inr (Or.inl ⟨rfl, _, rfl⟩)), ⟨(Or.inr (Or.inl ⟨rfl, _, rfl⟩)), ⟨(Or.inr (Or.inl ⟨rfl, _, rfl⟩)), ⟨(Or.inl rfl), ⟨(Or.inl rfl), ⟨(Or.inl rfl), ⟨(Or.inl rfl), ⟨(Or.inl rfl), trivial⟩⟩⟩⟩⟩⟩⟩⟩⟩⟩⟩ ?_
      exact t_X7_drips_10 hw hr hQ
def f_X7_seed (f g : Nat) (I : Nat → Nat → Int32) (L : Nat → Nat → Int64) (a1 : Int64) : Int64 := (L 2 14)
def l_X7_seed (f g : Nat) (I : Nat → Nat → Int32) (L : Nat → Nat → Int64) (a1 : Int64) : Nat → Nat → Int64 := (gu2 L 2 14 a1)
set_option maxHeartbeats 4000000 in
set_option maxRecDepth 100000 in
theorem s_X7_seed {n f g d : Nat} {Q : gP} {I : Nat → Nat → Int32} {L : Nat → Nat → Int64} {a1 : Int64} (hw : gfw f g)  (hQ : Q (some (.long (f_X7_seed f g I L a1))) (gKn n, gRf f g, I, l_X7_seed f g I L a1)) : gR gM (d + 0) 85 [.ref 2, .long a1] (gKn n, gRf f g, I, L) Q := by
  unfold f_X7_seed l_X7_seed at hQ
  show gW gM (d + 0) 0 0 k_X7_seed 0 [.ref 2, .long a1, .null, .null, .null] [] (gKn n, gRf f g, I, L) Q
  refine r_aload rfl rfl ?_
  refine r_getL (c := 7) (k := 14) rfl rfl ⟨rfl, rfl⟩ ?_
  refine r_lstore [.ref 2, .long a1, .null, .long (L 2 14), .null] rfl rfl (Nat.le_of_ble_eq_true rfl) rfl ?_
  refine r_aload rfl rfl ?_
  refine r_lload rfl rfl ?_
  refine r_putL (c := 7) (k := 14) rfl rfl ⟨rfl, rfl⟩ ?_
  refine r_lload rfl rfl ?_
  refine r_lret rfl ?_
  first | exact hQ | simpa only [if_true] using hQ
def r_X7_doChance_35 (f : Nat) (g : Nat) (a1 : Nat)   (I : Nat → Nat → Int32) (L : Nat → Nat → Int64) : Option gRs := some ((nI 0), I, L)
set_option maxHeartbeats 4000000 in
set_option maxRecDepth 100000 in
theorem t_X7_doChance_35 {n f g d : Nat} {Q : gP} {z : gRs} {a1 : Nat} (hw : gfw f g) (h1 : gmo a1 = true)   {I : Nat → Nat → Int32} {L : Nat → Nat → Int64} (hr : r_X7_doChance_35 f g a1 I L = some z) (hQ : Q (some (.int z.1)) (gKn n, gRf f g, z.2.1, z.2.2)) : gW gM (d + 5) 0 0 k_X7_doChance 35 [.null, .null, .null] [] (gKn n, gRf f g, I, L) Q := by
  have hfe := hw.f
  have hfd := hw.g
  unfold r_X7_doChance_35 at hr
  refine r_const rfl (gcst 0) ?_
  refine r_iret rfl ?_
  cases hr
  exact hQ
def r_X7_doChance (f g : Nat) (I : Nat → Nat → Int32) (L : Nat → Nat → Int64) (a1 : Nat) (a2 : Int32) : Option gRs := (if ¬ a2 = (nI 20) then (if a2 < (nI 15) then ((r_X7_goesHome f g I L a1 (a2 / (nI 3)) (grem a2 (nI 3))).bind (fun z13 => (if z13.1 = 0 then (r_X7_doChance_35 f g a1 z13.2.1 z13.2.2) else ((r_X6_toneCount z13.2.1 z13.2.2 53).bind (fun z15 => some (z15.1, z15.2.1, z15.2.2)))))) else (r_X7_doChance_35 f g a1 (i_X7_turnsOut f g I L a1 (a2 - (nI 15))) L)) else (r_X7_doChance_35 f g a1 (gu2 I a1 5 ((I a1 5) ^^^ (nI 1))) L))
set_option maxHeartbeats 4000000 in
set_option maxRecDepth 100000 in
theorem s_X7_doChance {n f g d : Nat} {Q : gP} {I : Nat → Nat → Int32} {L : Nat → Nat → Int64} {a1 : Nat} {a2 : Int32} {z : gRs} (hw : gfw f g) (h1 : gmo a1 = true) (hr : r_X7_doChance f g I L a1 a2 = some z) (hQ : Q (some (.int z.1)) (gKn n, gRf f g, z.2.1, z.2.2)) : gR gM (d + 5) 102 [.ref 2, .ref a1, .int a2] (gKn n, gRf f g, I, L) Q := by
  have hfe := hw.f
  have hfd := hw.g
  unfold r_X7_doChance at hr
  show gW gM (d + 5) 0 0 k_X7_doChance 0 [.ref 2, .ref a1, .int a2] [] (gKn n, gRf f g, I, L) Q
  refine r_iload rfl rfl ?_
  refine r_const rfl (gcst 20) ?_
  refine r_icmp_ne 10 rfl rfl (fun c11 => ?_) (fun c11 => ?_)
  · rw [if_pos c11] at hr
    refine r_iload rfl rfl ?_
    refine r_const rfl (gcst 15) ?_
    refine r_icmp_lt 21 rfl rfl (fun c12 => ?_) (fun c12 => ?_)
    · rw [if_pos c12] at hr
      refine r_aload rfl rfl ?_
      refine r_aload rfl rfl ?_
      refine r_iload rfl rfl ?_
      refine r_const rfl (gcst 3) ?_
      refine r_idiv rfl (nI_ne0 (n := 3) (by decide) (by decide)) ?_
      refine r_iload rfl rfl ?_
      refine r_const rfl (gcst 3) ?_
      refine r_irem rfl (nI_ne0 (n := 3) (by decide) (by decide)) ?_
      obtain ⟨z13, hz13, hr⟩ := gbnd hr
      refine r_invv (a := 2) [.ref a1, .int (a2 / (nI 3)), .int (grem a2 (nI 3))] rfl rfl rfl rfl rfl (Nat.le_of_ble_eq_true rfl) ⟨rfl, rfl⟩ ?_
      refine s_X7_goesHome hw h1 hz13 ?_
      show gW _ _ _ _ _ 30 [.ref 2, .ref a1, .int a2] [.int z13.1] (gKn n, gRf f g, z13.2.1, z13.2.2) _
      refine r_if_eq 35 rfl rfl (fun c14 => ?_) (fun c14 => ?_)
      · rw [if_pos c14] at hr
        refine gforget (ls := [.null, .null, .null]) ⟨(Or.inr (Or.inr ⟨rfl, _, rfl⟩)), ⟨(Or.inr (Or.inr ⟨rfl, _, rfl⟩)), ⟨(Or.inr (Or.inl ⟨rfl, _, rfl⟩)), trivial⟩⟩⟩ ?_
        exact t_X7_doChance_35 hw h1 hr hQ
      · rw [if_neg c14] at hr
        refine r_aload rfl rfl ?_
        refine r_getR (c := 7) (k := 12) (v := 53) rfl rfl ⟨rfl, rfl⟩ rfl ?_
        obtain ⟨z15, hz15, hr⟩ := gbnd hr
        refine r_invv (a := 53) [] rfl rfl rfl rfl rfl (Nat.le_of_ble_eq_true rfl) ⟨rfl, rfl⟩ ?_
        refine s_X6_toneCount rfl hz15 ?_
        show gW _ _ _ _ _ 34 [.ref 2, .ref a1, .int a2] [.int z15.1] (gKn n, gRf f g, z15.2.1, z15.2.2) _
        refine r_iret rfl ?_
        cases hr
        exact hQ
    · rw [if_neg c12] at hr
      refine r_aload rfl rfl ?_
      refine r_aload rfl rfl ?_
      refine r_iload rfl rfl ?_
      refine r_const rfl (gcst 15) ?_
      refine r_isub rfl ?_
      refine r_invv (a := 2) [.ref a1, .int (a2 - (nI 15))] rfl rfl rfl rfl rfl (Nat.le_of_ble_eq_true rfl) ⟨rfl, rfl⟩ ?_
      refine s_X7_turnsOut hw h1 ?_
      show gW _ _ _ _ _ 19 [.ref 2, .ref a1, .int a2] [.int (f_X7_turnsOut f g I L a1 (a2 - (nI 15)))] (gKn n, gRf f g, (i_X7_turnsOut f g I L a1 (a2 - (nI 15))), L) _
      refine r_pop rfl rfl ?_
      refine r_goto 35 rfl rfl ?_
      refine gforget (ls := [.null, .null, .null]) ⟨(Or.inr (Or.inr ⟨rfl, _, rfl⟩)), ⟨(Or.inr (Or.inr ⟨rfl, _, rfl⟩)), ⟨(Or.inr (Or.inl ⟨rfl, _, rfl⟩)), trivial⟩⟩⟩ ?_
      exact t_X7_doChance_35 hw h1 hr hQ
  · rw [if_neg c11] at hr
    refine r_aload rfl rfl ?_
    refine r_dup rfl rfl ?_
    refine r_getI (c := 4) (k := 5) rfl (shMom h1) ⟨rfl, rfl⟩ ?_
    refine r_const rfl (gcst 1) ?_
    refine r_ixor rfl ?_
    refine r_putI (c := 4) (k := 5) rfl (shMom h1) ⟨rfl, rfl⟩ ?_
    refine r_goto 35 rfl rfl ?_
    refine gforget (ls := [.null, .null, .null]) ⟨(Or.inr (Or.inr ⟨rfl, _, rfl⟩)), ⟨(Or.inr (Or.inr ⟨rfl, _, rfl⟩)), ⟨(Or.inr (Or.inl ⟨rfl, _, rfl⟩)), trivial⟩⟩⟩ ?_
    exact t_X7_doChance_35 hw h1 hr hQ
def r_X7_winters_17 (f : Nat) (g : Nat)  : Nat → Int32 → Int32 → Int32 → (Nat → Nat → Int32) → (Nat → Nat → Int64) → Option gRs
  | 0, _, _, _, _, _ => none
  | m + 1, v1, v2, v3, I, L => (if v1 ≤ v3 then some (v2, I, L) else ((r_X7_doChance f g I (gu2 L 2 14 (((L 2 14) * (lN 6364136223846793005)) + (lN 1442695040888963407))) 19 (Int64.toInt32 (gremL (glushr ((gu2 L 2 14 (((L 2 14) * (lN 6364136223846793005)) + (lN 1442695040888963407))) 2 14) (nI 33)) (lN 21)))).bind (fun z8 => (r_X7_winters_17 f g m v1 (v2 + z8.1) (v3 + (nI 1)) z8.2.1 z8.2.2))))
set_option maxHeartbeats 4000000 in
set_option maxRecDepth 100000 in
theorem t_X7_winters_17 {n f g d : Nat} {Q : gP} {z : gRs}  (hw : gfw f g)   : ∀ {m : Nat} {v1 : Int32} {v2 : Int32} {v3 : Int32} {I : Nat → Nat → Int32} {L : Nat → Nat → Int64}, r_X7_winters_17 f g m v1 v2 v3 I L = some z → Q (some (.int z.1)) (gKn n, gRf f g, z.2.1, z.2.2) → gW gM (d + 6) 0 0 k_X7_winters 17 [.ref 2, .int v1, .int v2, .int v3] [] (gKn n, gRf f g, I, L) Q := by
  intro m
  have hfe := hw.f
  have hfd := hw.g
  induction m with
  | zero =>
    intro v1 v2 v3 I L hr _
    cases hr
  | succ m ih =>
    intro v1 v2 v3 I L hr hQ
    have hK17 : ∀ v1 v2 v3 I L, r_X7_winters_17 f g m v1 v2 v3 I L = some z → gW gM (d + 6) 0 0 k_X7_winters 17 [.ref 2, .int v1, .int v2, .int v3] [] (gKn n, gRf f g, I, L) Q := fun v1 v2 v3 I L hr => ih hr hQ
    unfold r_X7_winters_17 at hr
    refine r_iload rfl rfl ?_
    refine r_iload rfl rfl ?_
    refine r_icmp_ge 44 rfl rfl (fun c7 => ?_) (fun c7 => ?_)
    · rw [if_pos c7] at hr
      refine r_iload rfl rfl ?_
      refine r_iret rfl ?_
      cases hr
      exact hQ
    · rw [if_neg c7] at hr
      refine r_aload rfl rfl ?_
      refine r_aload rfl rfl ?_
      refine r_getL (c := 7) (k := 14) rfl rfl ⟨rfl, rfl⟩ ?_
      refine r_lconst (v := lN 6364136223846793005) rfl rfl ?_
      refine r_lmul rfl ?_
      refine r_lconst (v := lN 1442695040888963407) rfl rfl ?_
      refine r_ladd rfl ?_
      refine r_putL (c := 7) (k := 14) rfl rfl ⟨rfl, rfl⟩ ?_
      refine r_iload rfl rfl ?_
      refine r_aload rfl rfl ?_
      refine r_aload rfl rfl ?_
      refine r_getR (c := 7) (k := 5) (v := 19) rfl rfl ⟨rfl, rfl⟩ rfl ?_
      refine r_aload rfl rfl ?_
      refine r_getL (c := 7) (k := 14) rfl rfl ⟨rfl, rfl⟩ ?_
      refine r_const rfl (gcst 33) ?_
      refine r_lushr rfl ?_
      refine r_lconst (v := lN 21) rfl rfl ?_
      refine r_lrem rfl (by decide) ?_
      refine r_l2i rfl ?_
      obtain ⟨z8, hz8, hr⟩ := gbnd hr
      refine r_invv (a := 2) [.ref 19, .int (Int64.toInt32 (gremL (glushr ((gu2 L 2 14 (((L 2 14) * (lN 6364136223846793005)) + (lN 1442695040888963407))) 2 14) (nI 33)) (lN 21)))] rfl rfl rfl rfl rfl (Nat.le_of_ble_eq_true rfl) ⟨rfl, rfl⟩ ?_
      refine s_X7_doChance hw rfl hz8 ?_
      show gW _ _ _ _ _ 40 [.ref 2, .int v1, .int v2, .int v3] [.int z8.1, .int v2] (gKn n, gRf f g, z8.2.1, z8.2.2) _
      refine r_iadd rfl ?_
      refine r_istore [.ref 2, .int v1, .int (v2 + z8.1), .int v3] rfl rfl (Nat.le_of_ble_eq_true rfl) rfl ?_
      refine r_iinc (y := (v3 + (nI 1))) [.ref 2, .int v1, .int (v2 + z8.1), .int (v3 + (nI 1))] rfl rfl rfl (ginc _ 1) rfl ?_
      refine r_goto 17 rfl rfl ?_
      exact hK17 _ _ _ _ _ hr
def r_X7_winters_6 (f : Nat) (g : Nat)   (I : Nat → Nat → Int32) (L : Nat → Nat → Int64) : Option gRs := some ((-2 : Int32), I, L)
set_option maxHeartbeats 4000000 in
set_option maxRecDepth 100000 in
theorem t_X7_winters_6 {n f g d : Nat} {Q : gP} {z : gRs}  (hw : gfw f g)    {I : Nat → Nat → Int32} {L : Nat → Nat → Int64} (hr : r_X7_winters_6 f g I L = some z) (hQ : Q (some (.int z.1)) (gKn n, gRf f g, z.2.1, z.2.2)) : gW gM (d + 6) 0 0 k_X7_winters 6 [.null, .null, .null, .null] [] (gKn n, gRf f g, I, L) Q := by
  have hfe := hw.f
  have hfd := hw.g
  unfold r_X7_winters_6 at hr
  refine r_const rfl (v := -2) (by decide) ?_
  refine r_iret rfl ?_
  cases hr
  exact hQ
def r_X7_winters (f g : Nat) (I : Nat → Nat → Int32) (L : Nat → Nat → Int64) (a1 : Int32) : Option gRs := (if a1 < (nI 1) then (r_X7_winters_6 f g I L) else (if a1 ≤ (nI 30) then (r_X7_winters_17 f g 100 a1 (nI 0) (nI 0) (i_X4_become I L 19 18) (l_X4_become I L 19 18)) else (r_X7_winters_6 f g I L)))
set_option maxHeartbeats 4000000 in
set_option maxRecDepth 100000 in
theorem s_X7_winters {n f g d : Nat} {Q : gP} {I : Nat → Nat → Int32} {L : Nat → Nat → Int64} {a1 : Int32} {z : gRs} (hw : gfw f g)  (hr : r_X7_winters f g I L a1 = some z) (hQ : Q (some (.int z.1)) (gKn n, gRf f g, z.2.1, z.2.2)) : gR gM (d + 6) 86 [.ref 2, .int a1] (gKn n, gRf f g, I, L) Q := by
  have hfe := hw.f
  have hfd := hw.g
  unfold r_X7_winters at hr
  show gW gM (d + 6) 0 0 k_X7_winters 0 [.ref 2, .int a1, .null, .null] [] (gKn n, gRf f g, I, L) Q
  refine r_iload rfl rfl ?_
  refine r_const rfl (gcst 1) ?_
  refine r_icmp_lt 6 rfl rfl (fun c9 => ?_) (fun c9 => ?_)
  · rw [if_pos c9] at hr
    refine gforget (ls := [.null, .null, .null, .null]) ⟨(Or.inr (Or.inr ⟨rfl, _, rfl⟩)), ⟨(Or.inr (Or.inl ⟨rfl, _, rfl⟩)), ⟨(Or.inl rfl), ⟨(Or.inl rfl), trivial⟩⟩⟩⟩ ?_
    exact t_X7_winters_6 hw hr hQ
  · rw [if_neg c9] at hr
    refine r_iload rfl rfl ?_
    refine r_const rfl (gcst 30) ?_
    refine r_icmp_le 8 rfl rfl (fun c10 => ?_) (fun c10 => ?_)
    · rw [if_pos c10] at hr
      refine r_aload rfl rfl ?_
      refine r_getR (c := 7) (k := 5) (v := 19) rfl rfl ⟨rfl, rfl⟩ rfl ?_
      refine r_aload rfl rfl ?_
      refine r_getR (c := 7) (k := 4) (v := 18) rfl rfl ⟨rfl, rfl⟩ rfl ?_
      refine r_invv (a := 19) [.ref 18] rfl rfl rfl rfl rfl (Nat.le_of_ble_eq_true rfl) ⟨rfl, rfl⟩ ?_
      refine s_X4_become rfl rfl ?_
      show gW _ _ _ _ _ 13 [.ref 2, .int a1, .null, .null] [] (gKn n, gRf f g, (i_X4_become I L 19 18), (l_X4_become I L 19 18)) _
      refine r_const rfl (gcst 0) ?_
      refine r_istore [.ref 2, .int a1, .int (nI 0), .null] rfl rfl (Nat.le_of_ble_eq_true rfl) rfl ?_
      refine r_const rfl (gcst 0) ?_
      refine r_istore [.ref 2, .int a1, .int (nI 0), .int (nI 0)] rfl rfl (Nat.le_of_ble_eq_true rfl) rfl ?_
      exact t_X7_winters_17 hw hr hQ
    · rw [if_neg c10] at hr
      refine gforget (ls := [.null, .null, .null, .null]) ⟨(Or.inr (Or.inr ⟨rfl, _, rfl⟩)), ⟨(Or.inr (Or.inl ⟨rfl, _, rfl⟩)), ⟨(Or.inl rfl), ⟨(Or.inl rfl), trivial⟩⟩⟩⟩ ?_
      exact t_X7_winters_6 hw hr hQ
