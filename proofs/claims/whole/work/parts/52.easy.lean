/-! THE EASY CALLS -/
theorem getD_in {α : Type} {xs : List α} {j : Nat} {d : α} (h : j < xs.length) : xs.getD j d ∈ xs := by
  rw [List.getD_eq_getElem?_getD, List.getElem?_eq_getElem h]
  exact List.getElem_mem h
theorem cHold_lt {f g a : Nat} (hw : gfw f g) (h : cHold f a) : a < 57 ∧ a ≠ 1 ∧ a ≠ 19 ∧ (a < 44 ∨ 57 ≤ a) ∧ ¬ (g ≤ a ∧ a ≤ g + 6) := by
  unfold cHold at h
  rcases hw with ⟨rfl, rfl⟩ | ⟨rfl, rfl⟩ <;> omega
theorem ag_write (x : Int32) : mAg (fun f g I L => r_X7_write f g I L x) (fun I L => r_X8_write I L x) := by
  intro S hS
  have hl := hS.1.1
  rcases irg_cases x (lo := 0) (hi := 255) (by omega) (by omega) with ⟨h, e⟩ | ⟨h1, h2, h3, e⟩ | ⟨k, -, hk, rfl, e⟩
  · have h : x < 0 := h
    refine ⟨-2, S, hS, fun f g I L hw hc => ⟨I, L, ?_, hc⟩, fun I L hr => ⟨I, L, ?_, hr⟩⟩
    · show r_X7_write f g I L x = _
      unfold r_X7_write r_X7_write_5
      rw [if_pos h]
    · show r_X8_write I L x = _
      unfold r_X8_write
      rw [in_c (by omega) (by omega), e, if_neg (by simp [z0])]
  · have h1 : ¬ x < 0 := h1
    refine ⟨-2, S, hS, fun f g I L hw hc => ⟨I, L, ?_, hc⟩, fun I L hr => ⟨I, L, ?_, hr⟩⟩
    · show r_X7_write f g I L x = _
      unfold r_X7_write r_X7_write_5
      rw [if_neg h1, if_neg h3]
    · show r_X8_write I L x = _
      unfold r_X8_write
      rw [in_c (by omega) (by omega), e, if_neg (by simp [z0])]
  · by_cases hq : (sT S).length = 60
    · refine ⟨-4, S, hS, fun f g I L hw hc => ⟨I, L, ?_, hc⟩, fun I L hr => ⟨I, L, ?_, hr⟩⟩
      · show r_X7_write f g I L _ = _
        unfold r_X7_write
        simp (disch := omega) only [n_le, n_lt, n_eq, n_eq0, n_0lt, n_le0, n_lt0, n_0le, n_gvp, n_gx, n_add, n_mul, decide_eq_true_eq, Option.bind_some, if_false, if_true, not_false_eq_true, not_true_eq_false, hc.1.1]
        rw [if_pos (by omega), if_neg (by omega)]
      · show r_X8_write I L _ = _
        unfold r_X8_write
        rw [in_c (by omega) (by omega), e, if_pos z1]
        simp (disch := omega) only [n_le, n_lt, n_eq, n_eq0, n_0lt, n_le0, n_lt0, n_0le, n_gvp, n_gx, n_add, n_mul, decide_eq_true_eq, Option.bind_some, if_false, if_true, not_false_eq_true, not_true_eq_false, hr.1.1]
        rw [if_neg (by omega)]
    · refine ⟨nI ((sT S).length + 1), (sT S ++ [k], S.2), ⟨⟨?_, ?_⟩, hS.2⟩, fun f g I L hw hc => ?_, fun I L hr => ?_⟩
      · show (sT S ++ [k]).length ≤ 60
        rw [List.length_append]
        simp
        omega
      · show ∀ t ∈ sT S ++ [k], t < 256
        intro t ht
        rcases List.mem_append.mp ht with q | q
        · exact hS.1.2 t q
        · have := List.mem_singleton.mp q
          omega
      · refine ⟨gu2 (gu2 I 3 (sT S).length (nI k)) 2 1 (nI ((sT S).length + 1)), L, ?_, ?_⟩
        · show r_X7_write f g I L _ = _
          unfold r_X7_write
          have e2 : gu2 I 3 (sT S).length (nI k) 2 1 = nI (sT S).length := by
            rw [gu2_other (by decide)]
            exact hc.1.1
          simp (disch := omega) only [n_le, n_lt, n_eq, n_eq0, n_0lt, n_le0, n_lt0, n_0le, n_gvp, n_gx, n_add, n_mul, decide_eq_true_eq, Option.bind_some, if_false, if_true, not_false_eq_true, not_true_eq_false, hc.1.1, e2, g2a]
          rw [if_pos (by omega), if_pos (by omega), if_pos (by omega)]
        · have hne : ∀ a, ¬ a = 2 → ¬ a = 3 → gu2 (gu2 I 3 (sT S).length (nI k)) 2 1 (nI ((sT S).length + 1)) a = I a := fun a h2 h3 => by rw [gu2_other h2, gu2_other h3]
          obtain ⟨c1, c2, c3, c4, c5, c6, c7⟩ := hc
          have hf := gfe_or hw.f
          refine ⟨⟨?_, ?_⟩, cFen_kept (fun a q1 q2 => hne a (by omega) (by omega)) c2, cMom_kept (hne 18 (by decide) (by decide)) rfl c3, cActs_kept (hne 20 (by decide) (by decide)) (fun a q1 q2 => ⟨hne a (by omega) (by omega), rfl⟩) c4, fun s hs => ⟨by rw [hne 39 (by decide) (by decide)]; exact (c5 s hs).1, fun W hW => cMom_kept (hne _ (by omega) (by omega)) rfl ((c5 s hs).2 W hW)⟩, ⟨by rw [hne 40 (by decide) (by decide)]; exact c6.1, fun j q hq => by rw [hne 41 (by decide) (by decide), hne 42 (by decide) (by decide), hne 43 (by decide) (by decide)]; exact c6.2 j q hq⟩, c7⟩
          · rw [g2a]
            show _ = nI (sT S ++ [k]).length
            rw [List.length_append]
            rfl
          · intro j hj
            have hj : j < (sT S ++ [k]).length := hj
            show _ = nI ((sT S ++ [k]).getD j 0)
            rw [List.length_append] at hj
            have hj : j < (sT S).length + 1 := hj
            rw [gu2_other (by decide), gu2_self]
            by_cases q : j = (sT S).length
            · rw [if_pos q, q, getD_last]
            · rw [if_neg q, getD_app1 (by omega)]
              exact c1.2 j (by omega)
      · refine ⟨gu2 (gu2 I 68 (sT S).length (nI k)) 57 20 (nI ((sT S).length + 1)), L, ?_, ?_⟩
        · show r_X8_write I L _ = _
          unfold r_X8_write
          have e2 : gu2 I 68 (sT S).length (nI k) 57 20 = nI (sT S).length := by
            rw [gu2_other (by decide)]
            exact hr.1.1
          rw [in_c (by omega) (by omega), e, if_pos z1]
          simp (disch := omega) only [n_le, n_lt, n_eq, n_eq0, n_0lt, n_le0, n_lt0, n_0le, n_gvp, n_gx, n_add, n_mul, decide_eq_true_eq, Option.bind_some, if_false, if_true, not_false_eq_true, not_true_eq_false, hr.1.1, e2, g2a]
          rw [if_pos hq, if_pos (by omega)]
        · have hS' : okSt ([], S.2) := ⟨⟨by simp [sT], by simp [sT]⟩, hS.2⟩
          have hk57 : ∀ j, ¬ j = 20 → gu2 (gu2 I 68 (sT S).length (nI k)) 57 20 (nI ((sT S).length + 1)) 57 j = I 57 j := fun j hj => by rw [g2n hj, gu2_other (by decide)]
          have hne : ∀ a, ¬ a = 57 → ¬ a = 68 → gu2 (gu2 I 68 (sT S).length (nI k)) 57 20 (nI ((sT S).length + 1)) a = I a := fun a h2 h3 => by rw [gu2_other h2, gu2_other h3]
          obtain ⟨r1, r2, r3, r4, r5, r6, r7⟩ := hr
          refine ⟨⟨?_, ?_⟩, rFen_kept (fun j hj => hk57 j (by omega)) (fun a q1 q2 => hne a (by omega) (by omega)) r2, rMom_kept (hne 63 (by decide) (by decide)) r3, ?_, fun s hs => ⟨by rw [hne 74 (by decide) (by decide)]; exact (r5 s hs).1, fun W hW => rMom_kept (hne 75 (by decide) (by decide)) ((r5 s hs).2 W hW)⟩, ⟨by rw [hk57 29 (by decide)]; exact r6.1, fun j q hq => by rw [hne 71 (by decide) (by decide), hne 72 (by decide) (by decide), hne 73 (by decide) (by decide)]; exact r6.2 j q hq⟩, r7⟩
          · rw [g2a]
            show _ = nI (sT S ++ [k]).length
            rw [List.length_append]
            rfl
          · intro j hj
            have hj : j < (sT S ++ [k]).length := hj
            show _ = nI ((sT S ++ [k]).getD j 0)
            rw [List.length_append] at hj
            have hj : j < (sT S).length + 1 := hj
            rw [gu2_other (by decide), gu2_self]
            by_cases q : j = (sT S).length
            · rw [if_pos q, q, getD_last]
            · rw [if_neg q, getD_app1 (by omega)]
              exact r1.2 j (by omega)
          · obtain ⟨hl, h25, q, hq, h26, hA⟩ := r4
            exact ⟨hl, by rw [hk57 25 (by decide)]; exact h25, q, hq, by rw [hk57 26 (by decide)]; exact h26, fun j V hV => rMom_kept (hne 70 (by decide) (by decide)) (hA j V hV)⟩
theorem ag_wipe : mAg (fun f g I L => some (f_X7_wipe f g I L, i_X7_wipe f g I L, L)) (fun I L => some (f_X8_wipe I L, i_X8_wipe I L, L)) := by
  intro S hS
  refine ⟨nI (sT S).length, ([], S.2), ⟨⟨by simp [sT], by simp [sT]⟩, hS.2⟩, fun f g I L hw hc => ?_, fun I L hr => ?_⟩
  · refine ⟨gu2 I 2 1 (nI 0), L, ?_, ?_⟩
    · show some (I 2 1, _, _) = _
      rw [hc.1.1]
      rfl
    · obtain ⟨c1, c2, c3, c4, c5, c6, c7⟩ := hc
      have hne : ∀ a, ¬ a = 2 → gu2 I 2 1 (nI 0) a = I a := fun a h => gu2_other h
      have hf := gfe_or hw.f
      exact ⟨⟨by rw [g2a]; rfl, fun j hj => by simp [sT] at hj⟩, cFen_kept (fun a q1 q2 => hne a (by omega)) c2, cMom_kept (hne 18 (by decide)) rfl c3, cActs_kept (hne 20 (by decide)) (fun a q1 q2 => ⟨hne a (by omega), rfl⟩) c4, cKept_kept (fun a q1 q2 => ⟨hne a (by omega), rfl⟩) c5, cHear_kept (fun a q1 q2 => hne a (by omega)) c6, c7⟩
  · refine ⟨gu2 I 57 20 (nI 0), L, ?_, ?_⟩
    · show some (I 57 20, _, _) = _
      rw [hr.1.1]
      rfl
    · obtain ⟨r1, r2, r3, r4, r5, r6, r7⟩ := hr
      have hne : ∀ a, ¬ a = 57 → gu2 I 57 20 (nI 0) a = I a := fun a h => gu2_other h
      have h57 : ∀ j, ¬ j = 20 → gu2 I 57 20 (nI 0) 57 j = I 57 j := fun j h => g2n h
      exact ⟨⟨by rw [g2a]; rfl, fun j hj => by simp [sT] at hj⟩, rFen_kept (fun j hj => h57 j (by omega)) (fun a q1 q2 => hne a (by omega)) r2, rMom_kept (hne 63 (by decide)) r3, rActs_kept (h57 25 (by decide)) (h57 26 (by decide)) (hne 70 (by decide)) r4, rKept_kept (hne 74 (by decide)) (hne 75 (by decide)) r5, rHear_kept (h57 29 (by decide)) (fun a q1 q2 => hne a (by omega)) r6, r7⟩
theorem ag_seed (v : Int64) {S : TSt} (hS : okSt S) : okSt (sT S, sF S, sV S, sA S, sK S, sH S, v) ∧ (∀ f I L, cSt f I L S → L 2 14 = sD S ∧ cSt f I (gu2 L 2 14 v) (sT S, sF S, sV S, sA S, sK S, sH S, v)) ∧ (∀ I L, rSt I L S → L 57 33 = sD S ∧ rSt I (gu2 L 57 33 v) (sT S, sF S, sV S, sA S, sK S, sH S, v)) := by
  refine ⟨hS, fun f I L hc => ?_, fun I L hr => ?_⟩
  · obtain ⟨c1, c2, c3, c4, c5, c6, c7⟩ := hc
    have hne : ∀ a, ¬ a = 2 → gu2 L 2 14 v a = L a := fun a h => gu2_other h
    exact ⟨c7, c1, c2, cMom_kept rfl (hne 18 (by decide)) c3, cActs_kept rfl (fun a q1 q2 => ⟨rfl, hne a (by omega)⟩) c4, cKept_kept (fun a q1 q2 => ⟨rfl, hne a (by omega)⟩) c5, c6, g2a⟩
  · obtain ⟨r1, r2, r3, r4, r5, r6, r7⟩ := hr
    exact ⟨r7, r1, r2, r3, r4, r5, r6, g2a⟩
theorem ag_unhear : mAg (fun f g I L => some (f_X7_unhear f g I L, i_X7_unhear f g I L, L)) (fun I L => some (f_X8_unhear I L, i_X8_unhear I L, L)) := by
  intro S hS
  refine ⟨nI (sH S).length, (sT S, sF S, sV S, sA S, sK S, [], sD S), ⟨hS.1, hS.2.1, hS.2.2.1, hS.2.2.2.1, hS.2.2.2.2.1, by simp [sH], by simp [sH]⟩, fun f g I L hw hc => ?_, fun I L hr => ?_⟩
  · obtain ⟨c1, c2, c3, c4, c5, c6, c7⟩ := hc
    refine ⟨gu2 I 40 3 (nI 0), L, ?_, ?_⟩
    · show some (I 40 3, _, _) = _
      rw [c6.1]
      rfl
    · have hne : ∀ a, ¬ a = 40 → gu2 I 40 3 (nI 0) a = I a := fun a h => gu2_other h
      have hf := gfe_or hw.f
      exact ⟨cTxt_kept (by rw [hne 2 (by decide)]) (hne 3 (by decide)) c1, cFen_kept (fun a q1 q2 => hne a (by omega)) c2, cMom_kept (hne 18 (by decide)) rfl c3, cActs_kept (hne 20 (by decide)) (fun a q1 q2 => ⟨hne a (by omega), rfl⟩) c4, cKept_kept (fun a q1 q2 => ⟨hne a (by omega), rfl⟩) c5, ⟨by rw [g2a]; rfl, fun j h hj => by simp [sH] at hj⟩, c7⟩
  · obtain ⟨r1, r2, r3, r4, r5, r6, r7⟩ := hr
    refine ⟨gu2 I 57 29 (nI 0), L, ?_, ?_⟩
    · show some (I 57 29, _, _) = _
      rw [r6.1]
      rfl
    · have hne : ∀ a, ¬ a = 57 → gu2 I 57 29 (nI 0) a = I a := fun a h => gu2_other h
      have h57 : ∀ j, ¬ j = 29 → gu2 I 57 29 (nI 0) 57 j = I 57 j := fun j h => g2n h
      exact ⟨rTxt_kept (h57 20 (by decide)) (hne 68 (by decide)) r1, rFen_kept (fun j hj => h57 j (by omega)) (fun a q1 q2 => hne a (by omega)) r2, rMom_kept (hne 63 (by decide)) r3, rActs_kept (h57 25 (by decide)) (h57 26 (by decide)) (hne 70 (by decide)) r4, rKept_kept (hne 74 (by decide)) (hne 75 (by decide)) r5, ⟨by rw [g2a]; rfl, fun j h hj => by simp [sH] at hj⟩, r7⟩
theorem ag_count (x : Int32) : mAg (fun f g I L => some (f_X7_count f g I L x, I, L)) (fun I L => some (f_X8_count I L x, I, L)) := by
  refine mAg_ask (fun f g I L z hw e a q => by cases e; exact ⟨rfl, rfl⟩) (fun S hS => ⟨(if x = nI 0 then nI (sT S).length else if x = nI 1 then nI (fG (sF S)) else if x = nI 2 then nI (fL (sF S)) else if x = nI 3 then nI (fB (sF S)) else if x = nI 4 then nI (fV (sF S)) else if x = nI 5 then nI (mf (sV S)) else if x = nI 6 then nI (ms (sV S)).length else if x = nI 7 then nI (mh (sV S)) else if x = nI 8 then nI (sA S).length else if x = nI 9 then nI (sH S).length else -2), fun f g I L hw hc => ⟨I, L, ?_⟩, fun I L hr => ⟨I, L, ?_, rSame_refl⟩⟩)
  · obtain ⟨c1, c2, c3, c4, c5, c6, c7⟩ := hc
    obtain ⟨m0, m1, m2, m3, m4, m5, m7, -⟩ := c3
    show some (f_X7_count f g I L x, I, L) = _
    unfold f_X7_count
    rw [c1.1, c2.1, c2.2.1, c2.2.2.1, c2.2.2.2.1, m5, m7, m4, c4.2.1, c6.1]
  · obtain ⟨r1, r2, r3, r4, r5, r6, r7⟩ := hr
    obtain ⟨-, -, q10, q11, q12, q13, q14, -⟩ := r3
    rw [Nat.zero_add] at q12 q13 q14
    show some (f_X8_count I L x, I, L) = _
    unfold f_X8_count
    rw [n_gx (by omega), n_gx (by omega), n_gx (by omega), r1.1, r2.1, r2.2.1, r2.2.2.1, r2.2.2.2.1, q13, q14, q12, r4.2.1, r6.1]
theorem ag_sung (x : Int32) : mAg (fun f g I L => some (f_X7_sung f g I L x, I, L)) (fun I L => r_X8_sung I L x) := by
  refine mAg_ask (fun f g I L z hw e a q => by cases e; exact ⟨rfl, rfl⟩) (fun S hS => ?_)
  rcases irg_cases x (lo := 0) (hi := 11) (by omega) (by omega) with ⟨h, e⟩ | ⟨h1, h2, h3, e⟩ | ⟨k, -, hk, rfl, e⟩
  · have h : x < 0 := h
    refine ⟨-2, fun f g I L hw hc => ⟨I, L, ?_⟩, fun I L hr => ⟨I, L, ?_, rSame_refl⟩⟩
    · show some (f_X7_sung f g I L x, I, L) = _
      unfold f_X7_sung
      rw [if_pos h, if_pos rfl]
    · show r_X8_sung I L x = _
      unfold r_X8_sung r_X8_sung_12
      rw [in_c (by omega) (by omega), e, if_pos z0]
  · have h1 : ¬ x < 0 := h1
    refine ⟨-2, fun f g I L hw hc => ⟨I, L, ?_⟩, fun I L hr => ⟨I, L, ?_, rSame_refl⟩⟩
    · show some (f_X7_sung f g I L x, I, L) = _
      have h4 : ¬ x < nI 12 := by
        rw [Int32.lt_iff_toInt_lt, n_ti (by omega)] at h2 ⊢
        omega
      unfold f_X7_sung
      rw [if_neg h1, if_neg h4, if_pos rfl]
    · show r_X8_sung I L x = _
      unfold r_X8_sung r_X8_sung_12
      rw [in_c (by omega) (by omega), e, if_pos z0]
  · refine ⟨lAt (ms (sV S)) k, fun f g I L hw hc => ⟨I, L, ?_⟩, fun I L hr => ⟨I, L, ?_, rSame_refl⟩⟩
    · show some (f_X7_sung f g I L _, I, L) = _
      unfold f_X7_sung
      rw [fromLast_c hS.2.2.1 hc.2.2.1 (by omega)]
      simp (disch := omega) only [n_le, n_lt, n_eq, n_eq0, n_0lt, n_le0, n_lt0, n_0le, n_gvp, n_gx, n_add, n_mul, decide_eq_true_eq, Option.bind_some, if_false, if_true, not_false_eq_true, not_true_eq_false]
      rw [if_neg (by simp; omega)]
      rfl
    · show r_X8_sung I L _ = _
      unfold r_X8_sung r_X8_sung_12
      rw [in_c (by omega) (by omega), e, if_neg z1, sungOn_r (lv := 0) (by omega) hS.2.2.1 (by simpa using hr.2.2.1) (by omega)]
      rfl
