/-! SLOTS, HEARD -/
theorem keep15 {I : gII} {L : gLL} {s h : Nat} (hs : s < 2) (hh : I 63 12 = nI h) (h32 : h < 32) : ∃ I', r_X8_keep_15 100 (nI s) (nI 0) I L = some (nI (popn 13 h), I', L) ∧ (∀ i, i < 27 → I' 75 (27 * s + i) = I 63 i) ∧ (∀ i, ¬ (27 * s ≤ i ∧ i < 27 * s + 27) → I' 75 i = I 75 i) ∧ (∀ a, a ≠ 75 → I' a = I a) := by
  have h := gloopE (fun m j (t : gII) => r_X8_keep_15 m (nI s) (nI j) t L) (fun j t => (∀ i, i < j → t 75 (27 * s + i) = I 63 i) ∧ (∀ i, ¬ (27 * s ≤ i ∧ i < 27 * s + 27) → t 75 i = I 75 i) ∧ ∀ a, a ≠ 75 → t a = I a) (fun z => ∃ I', z = (nI (popn 13 h), I', L) ∧ (∀ i, i < 27 → I' 75 (27 * s + i) = I 63 i) ∧ (∀ i, ¬ (27 * s ≤ i ∧ i < 27 * s + 27) → I' 75 i = I 75 i) ∧ (∀ a, a ≠ 75 → I' a = I a)) (n := 27)
    (fun m j t hj hp => Or.inl ⟨gu2 t 75 (27 * s + j) (I 63 j), by
      show r_X8_keep_15 (m + 1) (nI s) (nI j) t L = r_X8_keep_15 m (nI s) (nI (j + 1)) _ L
      rw [r_X8_keep_15, hp.2.2 63 (by decide)]
      have h1 : 27 * s + j < 54 := by omega
      have h2 : j < 54 := by omega
      simp (disch := omega) only [n_le, n_lt, n_eq, n_eq0, n_0lt, n_le0, n_lt0, n_0le, n_gvp, n_gx, n_add, n_mul, decide_eq_true_eq, Option.bind_some, if_false, if_true, not_false_eq_true, not_true_eq_false, h1, h2]
      rw [if_neg (by omega)], fun i hi => by
        rw [gu2_self]
        by_cases qq : i = j
        · rw [if_pos (by omega), qq]
        · rw [if_neg (by omega)]
          exact hp.1 i (by omega), fun i hi => by
        rw [g2n (by omega)]
        exact hp.2.1 i hi, fun a ha => (gu2_other ha).trans (hp.2.2 a ha)⟩)
    (fun m t hp => ⟨(nI (popn 13 h), t, L), by
      show r_X8_keep_15 (m + 1) (nI s) (nI 27) t L = _
      rw [r_X8_keep_15, if_pos (by decide), hp.2.2 63 (by decide), n_gx (by omega), hh, ones_r (by omega)]
      rfl, t, rfl, hp.1, hp.2.1, hp.2.2⟩) (d := 27) (j := 0) (N := 100) (s := I) rfl (by omega) ⟨fun i hi => by omega, fun i _ => rfl, fun a _ => rfl⟩
  obtain ⟨z, e, I', rfl, h1, h2, h3⟩ := h
  exact ⟨I', e, h1, h2, h3⟩
theorem again17 {I : gII} {L : gLL} {s h : Nat} (hs : s < 2) (hh : I 75 (27 * s + 12) = nI h) (h32 : h < 32) : ∃ I', r_X8_again_17 100 (nI s) (nI 0) I L = some (nI (popn 13 h), I', L) ∧ (∀ i, i < 27 → I' 63 i = I 75 (27 * s + i)) ∧ (∀ a, a ≠ 57 → a ≠ 63 → I' a = I a) ∧ I' 57 25 = nI 0 ∧ ∀ j, j ≠ 25 → I' 57 j = I 57 j := by
  have h := gloopE (fun m j (t : gII) => r_X8_again_17 m (nI s) (nI j) t L) (fun j t => (∀ i, i < j → t 63 i = I 75 (27 * s + i)) ∧ ∀ a, a ≠ 63 → t a = I a) (fun z => ∃ I', z = (nI (popn 13 h), I', L) ∧ (∀ i, i < 27 → I' 63 i = I 75 (27 * s + i)) ∧ (∀ a, a ≠ 57 → a ≠ 63 → I' a = I a) ∧ I' 57 25 = nI 0 ∧ ∀ j, j ≠ 25 → I' 57 j = I 57 j) (n := 27)
    (fun m j t hj hp => Or.inl ⟨gu2 t 63 j (I 75 (27 * s + j)), by
      show r_X8_again_17 (m + 1) (nI s) (nI j) t L = r_X8_again_17 m (nI s) (nI (j + 1)) _ L
      rw [r_X8_again_17, hp.2 75 (by decide)]
      have h1 : 27 * s + j < 54 := by omega
      have h2 : j < 54 := by omega
      simp (disch := omega) only [n_le, n_lt, n_eq, n_eq0, n_0lt, n_le0, n_lt0, n_0le, n_gvp, n_gx, n_add, n_mul, decide_eq_true_eq, Option.bind_some, if_false, if_true, not_false_eq_true, not_true_eq_false, h1, h2]
      rw [if_neg (by omega)], fun i hi => by
        rw [gu2_self]
        by_cases qq : i = j
        · rw [if_pos qq, qq]
        · rw [if_neg qq]
          exact hp.1 i (by omega), fun a ha => (gu2_other ha).trans (hp.2 a ha)⟩)
    (fun m t hp => ⟨(nI (popn 13 h), gu2 t 57 25 (nI 0), L), by
      show r_X8_again_17 (m + 1) (nI s) (nI 27) t L = _
      rw [r_X8_again_17, if_pos (by decide), gu2_other (by decide), n_gx (by omega), hp.1 12 (by omega), hh, ones_r (by omega)]
      rfl, gu2 t 57 25 (nI 0), rfl, fun i hi => by rw [gu2_other (by decide)]; exact hp.1 i hi, fun a a1 a2 => (gu2_other a1).trans (hp.2 a a2), g2a, fun j hj => by rw [g2n hj, hp.2 57 (by decide)]⟩) (d := 27) (j := 0) (N := 100) (s := I) rfl (by omega) ⟨fun i hi => by omega, fun a _ => rfl⟩
  obtain ⟨z, e, I', rfl, h1, h2, h3, h4⟩ := h
  exact ⟨I', e, h1, h2, h3, h4⟩
theorem isSlot_v {I : gII} {L : gLL} {x : Int32} : f_X7_isSlot I L x = inb x 2 := rfl
theorem irg_inb {x : Int32} {n : Nat} (hn : n < 100) : irg x 0 n = inb x (n + 1) := by
  unfold irg inb
  rw [z0]
  by_cases h : x < 0
  · rw [if_pos h, if_pos h]
  · rw [if_neg h, if_neg h]
    have : nI n < x ↔ nI (n + 1) ≤ x := by
      rw [Int32.lt_iff_toInt_lt, Int32.le_iff_toInt_le, n_ti (by omega), n_ti (by omega)]
      omega
    by_cases h2 : nI n < x
    · rw [if_pos h2, if_pos (this.mp h2)]
    · rw [if_neg h2, if_neg (fun q => h2 (this.mpr q))]
def setK (S : TSt) (K : Nat → Option TMom) : TSt := (sT S, sF S, sV S, sA S, K, sH S, sD S)
theorem ag_keep (x : Int32) : mAg (fun f g I L => r_X7_keep f g I L x) (fun I L => r_X8_keep I L x) := by
  intro S hS
  have hF := hS.2.1
  have hV := hS.2.2.1
  have h32 := okM_h32 hF hV
  rcases inb_cases x (n := 2) (by omega) with e | ⟨s, hs, rfl, e⟩
  · refine ⟨-1, S, hS, fun f g I L hw hc => ⟨I, L, ?_, hc⟩, fun I L hr => ⟨I, L, ?_, hr⟩⟩
    · show r_X7_keep f g I L x = _
      unfold r_X7_keep
      rw [isSlot_v, e, if_neg (by simp [z0])]
    · show r_X8_keep I L x = _
      unfold r_X8_keep
      rw [in_c (by omega) (by omega), irg_inb (by omega), e, if_neg (by simp [z0])]
  · refine ⟨nI (popn 13 (mh (sV S))), setK S (fun i => if i = s then some (sV S) else sK S i), ⟨hS.1, hS.2.1, hS.2.2.1, hS.2.2.2.1, fun i W hW => ?_, hS.2.2.2.2.2⟩, fun f g I L hw hc => ?_, fun I L hr => ?_⟩
    · have hW : (if i = s then some (sV S) else sK S i) = some W := hW
      by_cases q : i = s
      · rw [if_pos q] at hW
        cases hW
        exact hV
      · rw [if_neg q] at hW
        exact hS.2.2.2.2.1 i W hW
    · show ∃ I' L', r_X7_keep f g I L (nI s) = _ ∧ _
      obtain ⟨c1, c2, c3, c4, c5, c6, c7⟩ := hc
      have hf := gfe_or hw.f
      have b := cMom_become (m := 37 + s) c3
      have kI : ∀ a, a ≠ 37 + s → a ≠ 39 → gu2 (i_X4_become I L (37 + s) 18) 39 s (nI 1) a = I a := fun a a1 a2 => (gu2_other a2).trans (wi_X4_become a1)
      have kL : ∀ a, a ≠ 37 + s → l_X4_become I L (37 + s) 18 a = L a := fun a a1 => wl_X4_become a1
      refine ⟨gu2 (i_X4_become I L (37 + s) 18) 39 s (nI 1), l_X4_become I L (37 + s) 18, ?_, cTxt_kept (by rw [kI 2 (by omega) (by omega)]) (kI 3 (by omega) (by omega)) c1, cFen_kept (fun a q1 q2 => kI a (by omega) (by omega)) c2, cMom_kept (kI 18 (by omega) (by omega)) (kL 18 (by omega)) c3, cActs_kept (kI 20 (by omega) (by omega)) (fun a q1 q2 => ⟨kI a (by omega) (by omega), kL a (by omega)⟩) c4, fun i hi => ?_, cHear_kept (fun a q1 q2 => kI a (by omega) (by omega)) c6, by rw [kL 2 (by omega)]; exact c7⟩
      · unfold r_X7_keep
        rw [isSlot_v, e, if_pos z1]
        simp (disch := omega) only [n_le, n_lt, n_eq, n_eq0, n_0lt, n_le0, n_lt0, n_0le, n_gvp, n_gx, n_add, n_mul, decide_eq_true_eq, Option.bind_some, if_false, if_true, not_false_eq_true, not_true_eq_false, hs]
        rw [homeCount_c (by rw [kI 18 (by omega) (by omega)]; exact c3.2.2.2.2.1) (by omega)]
      · show _ = nI (oN (if i = s then some (sV S) else sK S i)) ∧ ∀ W, (if i = s then some (sV S) else sK S i) = some W → _
        by_cases q : i = s
        · subst q
          rw [if_pos rfl]
          refine ⟨by rw [g2a]; rfl, fun W hW => ?_⟩
          cases hW
          exact cMom_kept (gu2_other (by omega)) rfl b
        · rw [if_neg q]
          refine ⟨by rw [g2n q, wi_X4_become (by omega)]; exact (c5 i hi).1, fun W hW => ?_⟩
          exact cMom_kept (kI _ (by omega) (by omega)) (kL _ (by omega)) ((c5 i hi).2 W hW)
    · show ∃ I' L', r_X8_keep I L (nI s) = _ ∧ _
      have r12 := hr.2.2.1.2.2.2.2.1
      rw [Nat.zero_add] at r12
      obtain ⟨I2, e2, d1, d2, d3⟩ := keep15 (I := gu2 I 74 s (nI 1)) (L := L) hs (by rw [gu2_other (by decide)]; exact r12) h32.1
      have kI : ∀ a, a ≠ 74 → a ≠ 75 → I2 a = I a := fun a a1 a2 => (d3 a a2).trans (gu2_other a1)
      obtain ⟨r1, r2, r3, r4, r5, r6, r7⟩ := hr
      refine ⟨I2, L, ?_, rTxt_kept (by rw [kI 57 (by decide) (by decide)]) (kI 68 (by decide) (by decide)) r1, rFen_kept (fun j hj => by rw [kI 57 (by decide) (by decide)]) (fun a q1 q2 => kI a (by omega) (by omega)) r2, rMom_kept (kI 63 (by decide) (by decide)) r3, rActs_kept (by rw [kI 57 (by decide) (by decide)]) (by rw [kI 57 (by decide) (by decide)]) (kI 70 (by decide) (by decide)) r4, fun i hi => ?_, rHear_kept (by rw [kI 57 (by decide) (by decide)]) (fun a q1 q2 => kI a (by omega) (by omega)) r6, r7⟩
      · unfold r_X8_keep
        rw [in_c (by omega) (by omega), irg_inb (by omega), e, if_pos z1]
        simp (disch := omega) only [n_le, n_lt, n_eq, n_eq0, n_0lt, n_le0, n_lt0, n_0le, n_gvp, n_gx, n_add, n_mul, decide_eq_true_eq, Option.bind_some, if_false, if_true, not_false_eq_true, not_true_eq_false, hs]
        exact e2
      · show _ = nI (oN (if i = s then some (sV S) else sK S i)) ∧ ∀ W, (if i = s then some (sV S) else sK S i) = some W → _
        by_cases q : i = s
        · subst q
          rw [if_pos rfl]
          refine ⟨by rw [d3 74 (by decide), g2a]; rfl, fun W hW => ?_⟩
          cases hW
          exact rMom_copy hV.2.2.2.2.2.2.2 (fun j hj => by rw [d1 j hj, gu2_other (by decide), Nat.zero_add]) r3
        · rw [if_neg q]
          refine ⟨by rw [d3 74 (by decide), g2n q]; exact (r5 i hi).1, fun W hW => ?_⟩
          have hW' := hS.2.2.2.2.1 i W hW
          exact rMom_copy hW'.2.2.2.2.2.2.2 (fun j hj => by rw [d2 _ (by omega), gu2_other (by decide)]) ((r5 i hi).2 W hW)
theorem ag_again (x : Int32) : mAg (fun f g I L => r_X7_again f g I L x) (fun I L => r_X8_again I L x) := by
  intro S hS
  have hF := hS.2.1
  rcases inb_cases x (n := 2) (by omega) with e | ⟨s, hs, rfl, e⟩
  · refine ⟨-1, S, hS, fun f g I L hw hc => ⟨I, L, ?_, hc⟩, fun I L hr => ⟨I, L, ?_, hr⟩⟩
    · show r_X7_again f g I L x = _
      unfold r_X7_again
      rw [isSlot_v, e, if_neg (by simp [z0])]
    · show r_X8_again I L x = _
      unfold r_X8_again
      rw [in_c (by omega) (by omega), irg_inb (by omega), e, if_neg (by simp [z0])]
  cases hK : sK S s with
  | none =>
    refine ⟨-3, S, hS, fun f g I L hw hc => ⟨I, L, ?_, hc⟩, fun I L hr => ⟨I, L, ?_, hr⟩⟩
    · have h := (hc.2.2.2.2.1 s hs).1
      rw [hK] at h
      have h : I 39 s = 0 := h
      show r_X7_again f g I L (nI s) = _
      unfold r_X7_again
      rw [isSlot_v, e, if_pos z1]
      simp (disch := omega) only [n_le, n_lt, n_eq, n_eq0, n_0lt, n_le0, n_lt0, n_0le, n_gvp, n_gx, n_add, n_mul, decide_eq_true_eq, Option.bind_some, if_false, if_true, not_false_eq_true, not_true_eq_false, hs, h]
    · have h := (hr.2.2.2.2.1 s hs).1
      rw [hK] at h
      have h : I 74 s = 0 := h
      show r_X8_again I L (nI s) = _
      unfold r_X8_again
      rw [in_c (by omega) (by omega), irg_inb (by omega), e, if_pos z1]
      simp (disch := omega) only [n_le, n_lt, n_eq, n_eq0, n_0lt, n_le0, n_lt0, n_0le, n_gvp, n_gx, n_add, n_mul, decide_eq_true_eq, Option.bind_some, if_false, if_true, not_false_eq_true, not_true_eq_false, hs, h]
  | some W =>
    have hW := hS.2.2.2.2.1 s W hK
    have h32 := okM_h32 hF hW
    refine ⟨nI (popn 13 (mh W)), setVA S W [], okSt_act hS hW (fun X hX => by cases hX), fun f g I L hw hc => ?_, fun I L hr => ?_⟩
    · show ∃ I' L', r_X7_again f g I L (nI s) = _ ∧ _
      have h := (hc.2.2.2.2.1 s hs).1
      rw [hK] at h
      have h : I 39 s = nI 1 := h
      have w := (hc.2.2.2.2.1 s hs).2 W hK
      have b := cMom_become (m := 18) w
      have b2 : cMom (i_X0_forgetAll (i_X4_become I L 18 (37 + s)) (l_X4_become I L 18 (37 + s))) (l_X4_become I L 18 (37 + s)) 18 W := cMom_kept (wi_X0_forgetAll (by decide)) rfl b
      refine ⟨i_X0_forgetAll (i_X4_become I L 18 (37 + s)) (l_X4_become I L 18 (37 + s)), l_X4_become I L 18 (37 + s), ?_, cSt_act (fun a q => ?_) hc b2 ⟨by simp, ?_, 0, by omega, ?_, fun j V hV => by simp at hV⟩⟩
      · unfold r_X7_again
        rw [isSlot_v, e, if_pos z1]
        simp (disch := omega) only [n_le, n_lt, n_eq, n_eq0, n_0lt, n_le0, n_lt0, n_0le, n_gvp, n_gx, n_add, n_mul, decide_eq_true_eq, Option.bind_some, if_false, if_true, not_false_eq_true, not_true_eq_false, hs, h, z1]
        rw [homeCount_c b2.2.2.2.2.1 h32.1, if_pos (by decide)]
      · have ha : a ≠ 18 ∧ a ≠ 20 := by
          have := wcl hw q
          omega
        exact ⟨(wi_X0_forgetAll ha.2).trans (wi_X4_become ha.1), wl_X4_become ha.1⟩
      · unfold i_X0_forgetAll
        rw [g2a]
        rfl
      · unfold i_X0_forgetAll
        rw [g2n (by decide), g2a]
    · show ∃ I' L', r_X8_again I L (nI s) = _ ∧ _
      have h := (hr.2.2.2.2.1 s hs).1
      rw [hK] at h
      have h : I 74 s = nI 1 := h
      have w := (hr.2.2.2.2.1 s hs).2 W hK
      obtain ⟨I2, e2, d1, d2, d3, d4⟩ := again17 (L := L) hs w.2.2.2.2.1 h32.1
      obtain ⟨hl, h25, q, hq, h26, hA⟩ := hr.2.2.2.1
      refine ⟨I2, L, ?_, rSt_act (fun a qa => d2 a (by omega) (by omega)) (fun j qj => d4 j (by omega)) rfl hr (rMom_copy hW.2.2.2.2.2.2.2 (fun j hj => by rw [Nat.zero_add]; exact d1 j hj) w) ⟨by simp, d3, q, hq, by rw [d4 26 (by decide)]; exact h26, fun j V hV => by simp at hV⟩⟩
      unfold r_X8_again
      rw [in_c (by omega) (by omega), irg_inb (by omega), e, if_pos z1]
      simp (disch := omega) only [n_le, n_lt, n_eq, n_eq0, n_0lt, n_le0, n_lt0, n_0le, n_gvp, n_gx, n_add, n_mul, decide_eq_true_eq, Option.bind_some, if_false, if_true, not_false_eq_true, not_true_eq_false, hs, h, z1]
      exact e2
def setH (S : TSt) (H : List (Nat × Nat × Nat)) : TSt := (sT S, sF S, sV S, sA S, sK S, H, sD S)
theorem get_snoc {α : Type} {xs : List α} {y h : α} {j : Nat} (e : (xs ++ [y])[j]? = some h) : (j = xs.length ∧ h = y) ∨ (j < xs.length ∧ xs[j]? = some h) := by
  rcases Nat.lt_trichotomy j xs.length with q | q | q
  · rw [List.getElem?_append_left q] at e
    exact Or.inr ⟨q, e⟩
  · rw [List.getElem?_append_right (by omega), q, Nat.sub_self] at e
    exact Or.inl ⟨q, by simpa using e.symm⟩
  · rw [List.getElem?_append_right (by omega)] at e
    have := (List.getElem?_eq_some_iff.mp e).1
    simp at this
    omega
theorem ag_hear (x y w : Int32) : mAg (fun f g I L => r_X7_hear f g I L x y w) (fun I L => r_X8_hear I L x y w) := by
  intro S hS
  have hF := hS.2.1
  have hG := hF.1
  have hl6 := hS.2.2.2.2.2.1
  rcases inb_cases y (n := fG (sF S)) (by omega) with e | ⟨k, hk, rfl, e⟩
  · refine ⟨-1, S, hS, fun f g I L hw hc => ⟨I, L, ?_, hc⟩, fun I L hr => ⟨I, L, ?_, hr⟩⟩
    · show r_X7_hear f g I L x y w = _
      unfold r_X7_hear
      rw [isGate_c hc.2.1, e, if_neg (by simp [z0])]
    · show r_X8_hear I L x y w = _
      unfold r_X8_hear
      rw [isGate_m hF hr.2.1]
      simp only [Option.bind_some]
      rw [e, if_neg (by simp [z0])]
  have ek : ∀ {I : gII} {L : gLL}, f_X7_isKind I L x = inb x 4 := rfl
  rcases inb_cases x (n := 4) (by omega) with e2 | ⟨d, hd, rfl, e2⟩
  · refine ⟨-2, S, hS, fun f g I L hw hc => ⟨I, L, ?_, hc⟩, fun I L hr => ⟨I, L, ?_, hr⟩⟩
    · show r_X7_hear f g I L x (nI k) w = _
      unfold r_X7_hear r_X7_hear_15
      rw [isGate_c hc.2.1, e, if_pos z1, ek, e2, if_pos z0]
    · show r_X8_hear I L x (nI k) w = _
      unfold r_X8_hear r_X8_hear_18
      rw [isGate_m hF hr.2.1]
      simp only [Option.bind_some]
      rw [e, if_pos z1, in_c (by omega) (by omega), irg_inb (by omega), e2, if_pos z0]
  have er : ∀ {I : gII} {L : gLL}, rSt I L S → r_X8_hear I L (nI d) (nI k) w = if ¬ irg w 0 12 = 0 then (if ¬ (I 57 29) = (nI 6) then (if gvp (I 57 29) 6 = true then (if gvp ((gu2 I 71 (gx (I 57 29)) (nI d)) 57 29) 6 = true then (if gvp ((gu2 (gu2 I 71 (gx (I 57 29)) (nI d)) 72 (gx ((gu2 I 71 (gx (I 57 29)) (nI d)) 57 29)) (nI k)) 57 29) 6 = true then some (((gu2 (gu2 (gu2 (gu2 I 71 (gx (I 57 29)) (nI d)) 72 (gx ((gu2 I 71 (gx (I 57 29)) (nI d)) 57 29)) (nI k)) 73 (gx ((gu2 (gu2 I 71 (gx (I 57 29)) (nI d)) 72 (gx ((gu2 I 71 (gx (I 57 29)) (nI d)) 57 29)) (nI k)) 57 29)) w) 57 29 (((gu2 (gu2 (gu2 I 71 (gx (I 57 29)) (nI d)) 72 (gx ((gu2 I 71 (gx (I 57 29)) (nI d)) 57 29)) (nI k)) 73 (gx ((gu2 (gu2 I 71 (gx (I 57 29)) (nI d)) 72 (gx ((gu2 I 71 (gx (I 57 29)) (nI d)) 57 29)) (nI k)) 57 29)) w) 57 29) + (nI 1))) 57 29), (gu2 (gu2 (gu2 (gu2 I 71 (gx (I 57 29)) (nI d)) 72 (gx ((gu2 I 71 (gx (I 57 29)) (nI d)) 57 29)) (nI k)) 73 (gx ((gu2 (gu2 I 71 (gx (I 57 29)) (nI d)) 72 (gx ((gu2 I 71 (gx (I 57 29)) (nI d)) 57 29)) (nI k)) 57 29)) w) 57 29 (((gu2 (gu2 (gu2 I 71 (gx (I 57 29)) (nI d)) 72 (gx ((gu2 I 71 (gx (I 57 29)) (nI d)) 57 29)) (nI k)) 73 (gx ((gu2 (gu2 I 71 (gx (I 57 29)) (nI d)) 72 (gx ((gu2 I 71 (gx (I 57 29)) (nI d)) 57 29)) (nI k)) 57 29)) w) 57 29) + (nI 1))), L) else none) else none) else none) else some ((-4 : Int32), I, L)) else some ((-2 : Int32), I, L) := fun {I L} hr => by
    unfold r_X8_hear r_X8_hear_18
    rw [isGate_m hF hr.2.1]
    simp only [Option.bind_some]
    rw [e, if_pos z1, in_c (by omega) (by omega), irg_inb (by omega), e2, if_neg z1, in_c (by omega) (by omega)]
  have ec : ∀ {f g : Nat} {I : gII} {L : gLL}, cSt f I L S → r_X7_hear f g I L (nI d) (nI k) w = if w < 0 then some ((-2 : Int32), I, L) else (if w ≤ (nI 12) then (if (I 40 3) < (nI 6) then ((r_X2_add I L (nI d) (nI k) w).bind (fun z18 => some ((z18.2.1 40 3), z18.2.1, z18.2.2))) else some ((-4 : Int32), I, L)) else some ((-2 : Int32), I, L)) := fun {f g I L} hc => by
    unfold r_X7_hear r_X7_hear_15
    rw [isGate_c hc.2.1, e, if_pos z1, ek, e2, if_neg z1]
  rcases irg_cases w (lo := 0) (hi := 12) (by omega) (by omega) with ⟨h, e3⟩ | ⟨h1, h2, h3, e3⟩ | ⟨t, -, ht, rfl, e3⟩
  · have h : w < 0 := h
    refine ⟨-2, S, hS, fun f g I L hw hc => ⟨I, L, ?_, hc⟩, fun I L hr => ⟨I, L, ?_, hr⟩⟩
    · exact (ec hc).trans (by rw [if_pos h])
    · exact (er hr).trans (by rw [e3, if_neg (by simp [z0])])
  · have h1 : ¬ w < 0 := h1
    refine ⟨-2, S, hS, fun f g I L hw hc => ⟨I, L, ?_, hc⟩, fun I L hr => ⟨I, L, ?_, hr⟩⟩
    · exact (ec hc).trans (by rw [if_neg h1, if_neg h3])
    · exact (er hr).trans (by rw [e3, if_neg (by simp [z0])])
  by_cases hq : (sH S).length = 6
  · refine ⟨-4, S, hS, fun f g I L hw hc => ⟨I, L, ?_, hc⟩, fun I L hr => ⟨I, L, ?_, hr⟩⟩
    · refine (ec hc).trans ?_
      have h40 := hc.2.2.2.2.2.1.1
      simp (disch := omega) only [n_le, n_lt, n_eq, n_eq0, n_0lt, n_le0, n_lt0, n_0le, n_gvp, n_gx, n_add, n_mul, decide_eq_true_eq, Option.bind_some, if_false, if_true, not_false_eq_true, not_true_eq_false, h40, ht]
      rw [if_neg (by omega)]
    · refine (er hr).trans ?_
      have h29 := hr.2.2.2.2.2.1.1
      rw [e3, if_pos z1, h29, if_neg (by rw [n_eq (by omega) (by omega)]; omega)]
  · refine ⟨nI ((sH S).length + 1), setH S (sH S ++ [(d, k, t)]), ⟨hS.1, hS.2.1, hS.2.2.1, hS.2.2.2.1, hS.2.2.2.2.1, ?_, ?_⟩, fun f g I L hw hc => ?_, fun I L hr => ?_⟩
    · show (sH S ++ [(d, k, t)]).length ≤ 6
      simp
      omega
    · show ∀ h ∈ sH S ++ [(d, k, t)], h.1 < 4 ∧ h.2.1 < 5 ∧ h.2.2 ≤ 12
      intro h hh
      rcases List.mem_append.mp hh with q | q
      · exact hS.2.2.2.2.2.2 h q
      · have := List.mem_singleton.mp q
        subst this
        exact ⟨hd, by show k < 5; omega, ht⟩
    · show ∃ I' L', r_X7_hear f g I L (nI d) (nI k) (nI t) = _ ∧ _
      obtain ⟨c1, c2, c3, c4, c5, c6, c7⟩ := id hc
      have h40 := c6.1
      have hf := gfe_or hw.f
      have a1 : gu2 I 41 (sH S).length (nI d) 40 3 = nI (sH S).length := by rw [gu2_other (by decide), h40]
      have a2 : gu2 (gu2 I 41 (sH S).length (nI d)) 42 (sH S).length (nI k) 40 3 = nI (sH S).length := by rw [gu2_other (by decide), a1]
      have a3 : gu2 (gu2 (gu2 I 41 (sH S).length (nI d)) 42 (sH S).length (nI k)) 43 (sH S).length (nI t) 40 3 = nI (sH S).length := by rw [gu2_other (by decide), a2]
      have kI : ∀ a, a ≠ 40 → a ≠ 41 → a ≠ 42 → a ≠ 43 → gu2 (gu2 (gu2 (gu2 I 41 (sH S).length (nI d)) 42 (sH S).length (nI k)) 43 (sH S).length (nI t)) 40 3 (nI ((sH S).length + 1)) a = I a := fun a b0 b1 b2 b3 => by rw [gu2_other b0, gu2_other b3, gu2_other b2, gu2_other b1]
      refine ⟨gu2 (gu2 (gu2 (gu2 I 41 (sH S).length (nI d)) 42 (sH S).length (nI k)) 43 (sH S).length (nI t)) 40 3 (nI ((sH S).length + 1)), L, ?_, cTxt_kept (by rw [kI 2 (by decide) (by decide) (by decide) (by decide)]) (kI 3 (by decide) (by decide) (by decide) (by decide)) c1, cFen_kept (fun a q1 q2 => kI a (by omega) (by omega) (by omega) (by omega)) c2, cMom_kept (kI 18 (by decide) (by decide) (by decide) (by decide)) rfl c3, cActs_kept (kI 20 (by decide) (by decide) (by decide) (by decide)) (fun a q1 q2 => ⟨kI a (by omega) (by omega) (by omega) (by omega), rfl⟩) c4, cKept_kept (fun a q1 q2 => ⟨kI a (by omega) (by omega) (by omega) (by omega), rfl⟩) c5, ⟨?_, fun j h hj => ?_⟩, c7⟩
      · refine (ec hc).trans ?_
        have h6 : (sH S).length < 6 := by omega
        have h6' : ¬ 6 ≤ (sH S).length := by omega
        unfold r_X2_add r_X2_add_28
        simp (disch := omega) only [n_le, n_lt, n_eq, n_eq0, n_0lt, n_le0, n_lt0, n_0le, n_gvp, n_gx, n_add, n_mul, decide_eq_true_eq, Option.bind_some, if_false, if_true, not_false_eq_true, not_true_eq_false, h40, ht, h6, h6', a1, a2, a3, g2a]
      · rw [g2a]
        show _ = nI (sH S ++ [(d, k, t)]).length
        simp
      · have hj : (sH S ++ [(d, k, t)])[j]? = some h := hj
        rcases get_snoc hj with ⟨rfl, rfl⟩ | ⟨q, hj⟩
        · refine ⟨?_, ?_, ?_⟩
          · rw [gu2_other (by decide), gu2_other (by decide), gu2_other (by decide), g2a]
          · rw [gu2_other (by decide), gu2_other (by decide), g2a]
          · rw [gu2_other (by decide), g2a]
        · have := c6.2 j h hj
          refine ⟨?_, ?_, ?_⟩
          · rw [gu2_other (by decide), gu2_other (by decide), gu2_other (by decide), g2n (by omega), this.1]
          · rw [gu2_other (by decide), gu2_other (by decide), g2n (by omega), gu2_other (by decide), this.2.1]
          · rw [gu2_other (by decide), g2n (by omega), gu2_other (by decide), gu2_other (by decide), this.2.2]
    · show ∃ I' L', r_X8_hear I L (nI d) (nI k) (nI t) = _ ∧ _
      obtain ⟨r1, r2, r3, r4, r5, r6, r7⟩ := id hr
      have h29 := r6.1
      have a1 : gu2 I 71 (sH S).length (nI d) 57 29 = nI (sH S).length := by rw [gu2_other (by decide), h29]
      have a2 : gu2 (gu2 I 71 (sH S).length (nI d)) 72 (sH S).length (nI k) 57 29 = nI (sH S).length := by rw [gu2_other (by decide), a1]
      have a3 : gu2 (gu2 (gu2 I 71 (sH S).length (nI d)) 72 (sH S).length (nI k)) 73 (sH S).length (nI t) 57 29 = nI (sH S).length := by rw [gu2_other (by decide), a2]
      have kI : ∀ a, a ≠ 57 → a ≠ 71 → a ≠ 72 → a ≠ 73 → gu2 (gu2 (gu2 (gu2 I 71 (sH S).length (nI d)) 72 (sH S).length (nI k)) 73 (sH S).length (nI t)) 57 29 (nI ((sH S).length + 1)) a = I a := fun a b0 b1 b2 b3 => by rw [gu2_other b0, gu2_other b3, gu2_other b2, gu2_other b1]
      have k57 : ∀ j, j ≠ 29 → gu2 (gu2 (gu2 (gu2 I 71 (sH S).length (nI d)) 72 (sH S).length (nI k)) 73 (sH S).length (nI t)) 57 29 (nI ((sH S).length + 1)) 57 j = I 57 j := fun j hj => by rw [g2n hj, gu2_other (by decide), gu2_other (by decide), gu2_other (by decide)]
      refine ⟨gu2 (gu2 (gu2 (gu2 I 71 (sH S).length (nI d)) 72 (sH S).length (nI k)) 73 (sH S).length (nI t)) 57 29 (nI ((sH S).length + 1)), L, ?_, rTxt_kept (k57 20 (by decide)) (kI 68 (by decide) (by decide) (by decide) (by decide)) r1, rFen_kept (fun j hj => k57 j (by omega)) (fun a q1 q2 => kI a (by omega) (by omega) (by omega) (by omega)) r2, rMom_kept (kI 63 (by decide) (by decide) (by decide) (by decide)) r3, rActs_kept (k57 25 (by decide)) (k57 26 (by decide)) (kI 70 (by decide) (by decide) (by decide) (by decide)) r4, rKept_kept (kI 74 (by decide) (by decide) (by decide) (by decide)) (kI 75 (by decide) (by decide) (by decide) (by decide)) r5, ⟨?_, fun j h hj => ?_⟩, r7⟩
      · refine (er hr).trans ?_
        have h6 : (sH S).length < 6 := by omega
        rw [e3, if_pos z1]
        simp (disch := omega) only [n_le, n_lt, n_eq, n_eq0, n_0lt, n_le0, n_lt0, n_0le, n_gvp, n_gx, n_add, n_mul, decide_eq_true_eq, Option.bind_some, if_false, if_true, not_false_eq_true, not_true_eq_false, h29, hq, h6, a1, a2, a3, g2a]
      · rw [g2a]
        show _ = nI (sH S ++ [(d, k, t)]).length
        simp
      · have hj : (sH S ++ [(d, k, t)])[j]? = some h := hj
        rcases get_snoc hj with ⟨rfl, rfl⟩ | ⟨q, hj⟩
        · refine ⟨?_, ?_, ?_⟩
          · rw [gu2_other (by decide), gu2_other (by decide), gu2_other (by decide), g2a]
          · rw [gu2_other (by decide), gu2_other (by decide), g2a]
          · rw [gu2_other (by decide), g2a]
        · have := r6.2 j h hj
          refine ⟨?_, ?_, ?_⟩
          · rw [gu2_other (by decide), gu2_other (by decide), gu2_other (by decide), g2n (by omega), this.1]
          · rw [gu2_other (by decide), gu2_other (by decide), g2n (by omega), gu2_other (by decide), this.2.1]
          · rw [gu2_other (by decide), g2n (by omega), gu2_other (by decide), gu2_other (by decide), this.2.2]
