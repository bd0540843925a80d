/-! THE LAW, from its entry: the abstract machine's run is the machine's -/
theorem gnest_in : ∀ z ∈ gnest, Cond.methodLinkNest z.1 z.2.1 z.2.2.1 z.2.2.2 ∈ lw_tbl := by
  have h : (gnest.zip [71, 130, 190, 252, 272, 176, 354, 218, 234]).all (fun q => decide (lw_tbl[q.2]? = some (Cond.methodLinkNest q.1.1 q.1.2.1 q.1.2.2.1 q.1.2.2.2))) = true := by decide +kernel
  intro z hz
  obtain ⟨i, hi⟩ := List.getElem?_of_mem hz
  have hi2 : i < 9 := (List.getElem?_eq_some_iff.mp hi).1
  have hm : (z, ([71, 130, 190, 252, 272, 176, 354, 218, 234] : List Nat)[i]'hi2) ∈ gnest.zip [71, 130, 190, 252, 272, 176, 354, 218, 234] := List.mem_of_getElem? (i := i) (by rw [List.getElem?_zip_eq_some]; exact ⟨hi, List.getElem?_eq_getElem hi2⟩)
  have h1 := List.all_eq_true.mp h _ hm
  exact List.mem_of_getElem? (of_decide_eq_true h1)
set_option maxHeartbeats 4000000 in
set_option maxRecDepth 100000 in
theorem whole_of (hlaw : ∀ (n : Nat) (xs : Nat → Int32), n ≤ 384 → gW gM (0 + 11) 74 1143 k_L_law 0 [.ref 1, .null, .null, .null] [] (gKl n 0, gRl 0, gI0 xs, gL0) lwQ) {p : Program} {e : Env} {s : State} {m : MethodId} {below : List Frame} {meth : Method} {c : Code} (l : Launch) {b L : Nat} {xs : Nat → Int32} (hL : L ≤ 384) (C0 : lw_At p s m meth c b L xs) : W p l e room_1 s m #[Value.ref b] below meth c s.heap [] 0 0 (lw_Z below #[Value.ref b] s) (entryFrame m ([Value.ref b] : List Value).toArray 4) := by
  obtain ⟨hx, hb, hr, hml, hown, hts, hX, hbl, hlocks, hgv⟩ := C0
  have htg : ∀ w ∈ gGw, w.before #[Value.ref b] s = true := fun w hw => hts w (List.mem_filter.mp hw).1
  obtain ⟨c0, iS0, hKn0⟩ := u_known (C := gRX 0) (T := gTT 0) (N := gnf 0) (n := gnf 0) htg ok_u0 (htg _ (ok_c0.2.2.2.2.1))
  obtain ⟨c1, iS1, hKn1⟩ := u_known (C := gRX 1) (T := gTT 1) (N := gnf 1) (n := gnf 1) htg ok_u1 (htg _ (ok_c1.2.2.2.2.1))
  obtain ⟨c2, iS2, hKn2⟩ := u_known (C := gRX 2) (T := gTT 2) (N := gnf 2) (n := gnf 2) htg ok_u2 (htg _ (ok_c2.2.2.2.2.1))
  obtain ⟨c3, iS3, hKn3⟩ := u_known (C := gRX 3) (T := gTT 3) (N := gnf 3) (n := gnf 3) htg ok_u3 (htg _ (ok_c3.2.2.2.2.1))
  obtain ⟨c4, iS4, hKn4⟩ := u_known (C := gRX 4) (T := gTT 4) (N := gnf 4) (n := gnf 4) htg ok_u4 (htg _ (ok_c4.2.2.2.2.1))
  obtain ⟨c5, iS5, hKn5⟩ := u_known (C := gRX 5) (T := gTT 5) (N := gnf 5) (n := gnf 5) htg ok_u5 (htg _ (ok_c5.2.2.2.2.1))
  obtain ⟨c6, iS6, hKn6⟩ := u_known (C := gRX 6) (T := gTT 6) (N := gnf 6) (n := gnf 6) htg ok_u6 (htg _ (ok_c6.2.2.2.2.1))
  obtain ⟨c7, iS7, hKn7⟩ := u_known (C := gRX 7) (T := gTT 7) (N := gnf 7) (n := gnf 7) htg ok_u7 (htg _ (ok_c7.2.2.2.2.1))
  obtain ⟨c8, iS8, hKn8⟩ := u_known (C := gRX 8) (T := gTT 8) (N := gnf 8) (n := gnf 8) htg ok_u8 (htg _ (ok_c8.2.2.2.2.1))
  obtain ⟨dC, dI, hKc⟩ : ∃ (dC : Nat → ClassId) (dI : Nat → Nat → Nat), ∀ (k : Nat) (q : vw_C), vwCl[k]? = some q → u_Kn s q.1 q.2.1 q.2.2 (dC k) (dI k) := by
    refine ⟨fun k => if k = 0 then c0 else if k = 1 then c1 else if k = 2 then c2 else if k = 3 then c3 else if k = 4 then c4 else if k = 5 then c5 else if k = 6 then c6 else if k = 7 then c7 else c8, fun k => if k = 0 then iS0 else if k = 1 then iS1 else if k = 2 then iS2 else if k = 3 then iS3 else if k = 4 then iS4 else if k = 5 then iS5 else if k = 6 then iS6 else if k = 7 then iS7 else iS8, ?_⟩
    intro k q hq
    match k, hq with
    | 0, hq => cases hq; exact hKn0
    | 1, hq => cases hq; exact hKn1
    | 2, hq => cases hq; exact hKn2
    | 3, hq => cases hq; exact hKn3
    | 4, hq => cases hq; exact hKn4
    | 5, hq => cases hq; exact hKn5
    | 6, hq => cases hq; exact hKn6
    | 7, hq => cases hq; exact hKn7
    | 8, hq => cases hq; exact hKn8
    | k + 9, hq => simp [vwCl] at hq
  obtain ⟨cI, kI, compI, i1, i2, i3⟩ := Cond.arrayClass_spec (htg (.arrayClass .int) ok_any.2.2.1)
  obtain ⟨cB, kB, compB, j1, j2, j3⟩ := Cond.arrayClass_spec (htg (.arrayClass .boolean) ok_any.2.2.2)
  have hAO : Cond.arrayOver (.object RX4) ∈ lw_tbl := List.mem_of_getElem? (i := 175) (by decide +kernel)
  obtain ⟨compM, cM, kM, m1, m2, m3, m4, m5⟩ := Cond.arrayOver_spec (hts _ hAO)
  have hK : va_K (dC, dI) vwCl (gtys (cI, cB, cM)) s := by
    refine ⟨hKc, fun k q hq => ?_⟩
    match k, hq with
    | 0, hq =>
      cases hq
      exact ⟨fun n z => ⟨fun k h => (by cases h), kI, i2, compI, i3⟩, i1⟩
    | 1, hq =>
      cases hq
      exact ⟨fun n z => ⟨fun k h => (by cases h), kB, j2, compB, j3⟩, j1⟩
    | 2, hq =>
      cases hq
      exact ⟨fun n z => ⟨fun k h => (by cases h), kM, m3, compM, m4⟩, kM, compM, m3, m4, m1, m5⟩
    | k + 3, hq => simp [gtys] at hq
  have hEx : gEx s := ⟨fun z hz => va_Nw.of rfl (hts _ (gnest_in z hz)), va_AO.of (hts _ hAO)⟩
  have hS := g_sound ok_all (hlaw L xs hL)
  rw [lg_entry_eq]
  have key := hS 0 l p e room_1 s m #[Value.ref b] below meth c b s.heap.size (dC, dI) (cI, cB, cM) L s.heap [] 0 0 _ 0 (by decide) rfl ⟨hx, hb, hml, hown, htg, hEx, hr, hlocks, fun h => absurd h (by decide +kernel), hK, hbl, Nat.le_refl _, Nat.le_of_ble_eq_true rfl, Nat.le_of_ble_eq_true rfl⟩ ⟨⟨fun k q h => by simp [gws, gsz, gKl] at h, rfl, ⟨fun a ha => ?_, rfl⟩, hX⟩, va_S.rf, gLV.entry (b0 := b) (b := s.heap.size) (n := 4) (as := [.ref 1]) (fun x => by simp) (by decide), Nat.le_of_ble_eq_true rfl, Nat.le_of_ble_eq_true rfl⟩ rfl
  · intro T hT X
    obtain ⟨t, a1, o, b1, b2, ⟨r, σ', q1, q2, -, -⟩, L', hF, hL'⟩ := key T hT X
    refine ⟨t, a1, o, b1, b2, ?_, ?_⟩
    · rw [q2, q1]
      rfl
    · exact ⟨hF.1, hF.2.1, hF.2.2.weaken (fun y hy hlt => absurd hlt (Nat.not_lt.mpr (hL' y hy))) (Nat.le_refl _) (Nat.le_refl _)⟩
  · show (if a < 0 + 2 then (gKn L).2 a else 99) = 99
    rcases ha with rfl | ha
    · rfl
    · have ha : 2 ≤ a := ha
      rw [if_neg (by omega)]
