/-! FEN: the text becomes the fen -/
theorem setNote_v {n : Nat → Nat} {g t : Nat} (h : ∀ j, j < 5 → n j < 12) (hg : g < 5) (ht : t < 12) : (nI (pk16 n) &&& (gshl (nI 15) (nI 4 * nI g) ^^^ (-1 : Int32))) ||| gshl (nI t) (nI 4 * nI g) = nI (pk16 (fun j => if j = g then t else n j)) := by
  obtain ⟨-, lt⟩ := pk16_at h hg
  have hp : (16 : Nat) ^ g ≤ 65536 := by
    rcases (by omega : g = 0 ∨ g = 1 ∨ g = 2 ∨ g = 3 ∨ g = 4) with rfl | rfl | rfl | rfl | rfl <;> decide
  have e4 : (2 : Nat) ^ (4 * g) = 16 ^ g := by rw [Nat.pow_mul]
  have hT : t * 16 ^ g < 1048576 := Nat.lt_of_le_of_lt (Nat.mul_le_mul (show t ≤ 11 by omega) hp) (by decide)
  rw [nM_all g hg, n_mul, n_shl (by omega) (by rw [e4]; omega), n_and, n_or, e4]
  congr 1
  apply pk16_of
  · exact Nat.or_lt_two_pow (n := 20) (Nat.lt_of_le_of_lt Nat.and_le_left lt) hT
  · intro j hj
    rw [dig_or, dig_and, nM_dig g hg j hj, t_dig t ht g hg j hj]
    have hd := (pk16_at h hj).1
    rw [show (2 : Nat) ^ (4 * j) = 16 ^ j by rw [Nat.pow_mul]] at hd
    rw [hd]
    have h12 := h j hj
    by_cases q : j = g
    · rw [if_pos q, if_pos q, if_pos q]
      simp
    · rw [if_neg q, if_neg q, if_neg q, show (15 : Nat) = 2 ^ 4 - 1 from rfl, Nat.and_two_pow_sub_one_eq_mod]
      simp
      omega
def V0m (F : TFen) (nt : Nat → Nat) (fr : Nat) : TMom := ((fun j => if j < fG F then nt j else 0), (fun _ => 0), (0, 0, 0, fr), [])
theorem V0m_ok {F : TFen} {nt : Nat → Nat} {fr : Nat} (ok : okD F nt) (hf : fr ≤ 1) : okM F (V0m F nt fr) := by
  refine ⟨fun j _ => ?_, fun j _ => Nat.zero_le _, Nat.pow_pos (by decide), Nat.pow_pos (by decide), Nat.pow_pos (by decide), hf, fun t h => (by cases h), Nat.zero_le _⟩
  show (if j < fG F then nt j else 0) < 12
  split
  · exact ok.2 j (by assumption)
  · omega
theorem begin_c {I : gII} {L : gLL} {g fr : Nat} {F : TFen} {nt : Nat → Nat} (hg : gfe g = true) (hc : cDr I g F nt) (ok : okD F nt) (h4 : I g 4 = nI fr) : ∃ I', r_X4_begin I L 18 g = some (0, I', gu2 L 18 6 (lN 0)) ∧ cMom I' (gu2 L 18 6 (lN 0)) 18 (V0m F nt fr) ∧ ∀ a, a ≠ 18 → I' a = I a := by
  have hgg := gfe_or hg
  have hG := ok.1.1
  have h := gloopE (fun m k (s : gII) => r_X4_begin_5 18 g m (nI k) s L) (fun k s => s 18 0 = nI (pk16 (fun j => if j < k then nt j else 0)) ∧ ∀ a, a ≠ 18 → s a = I a) (fun z => ∃ I', z = (0, I', gu2 L 18 6 (lN 0)) ∧ cMom I' (gu2 L 18 6 (lN 0)) 18 (V0m F nt fr) ∧ ∀ a, a ≠ 18 → I' a = I a) (n := fG F)
    (fun m k s hk hp => by
      have hnt := ok.2 k hk
      have e0 : s g 0 = nI (fG F) := by rw [hp.2 g (by omega)]; exact hc.1.1
      have e1 : s (g + 1) k = nI (nt k) := by rw [hp.2 (g + 1) (by omega)]; exact hc.2 k hk
      refine Or.inl ⟨i_X4_setNote s L 18 (nI k) (nI (nt k)), ?_, ?_, fun a ha => ?_⟩
      · show r_X4_begin_5 18 g (m + 1) (nI k) s L = r_X4_begin_5 18 g m (nI (k + 1)) _ L
        rw [r_X4_begin_5, e0, if_neg (show ¬ nI (fG F) ≤ nI k by simp (disch := omega) only [n_le, n_lt, n_eq, n_eq0, n_0lt, n_le0, n_lt0, n_0le, n_gvp, n_gx, n_add, n_mul, decide_eq_true_eq, Option.bind_some, if_false, if_true, not_false_eq_true, not_true_eq_false]; omega), if_pos (show gvp (nI k) 5 = true by rw [n_gvp (by omega)]; simp; omega), n_gx (by omega), e1, n_add]
      · unfold i_X4_setNote
        rw [g2a, hp.1, setNote_v (fun j _ => by
          show (if j < k then nt j else 0) < 12
          split
          · exact ok.2 j (by omega)
          · omega) (by omega) hnt]
        congr 2
        funext j
        by_cases q : j = k
        · rw [if_pos q, if_pos (by omega), q]
        · rw [if_neg q]
          by_cases w : j < k
          · rw [if_pos w, if_pos (by omega)]
          · rw [if_neg w, if_neg (by omega)]
      · unfold i_X4_setNote
        rw [gu2_other ha]
        exact hp.2 a ha)
    (fun m s hp => by
      have e0 : s g 0 = nI (fG F) := by rw [hp.2 g (by omega)]; exact hc.1.1
      have e4 : s g 4 = nI fr := by rw [hp.2 g (by omega)]; exact h4
      refine ⟨_, ?_, gu2 (gu2 (gu2 (gu2 (gu2 (gu2 s 18 1 (nI 0)) 18 2 (nI 0)) 18 3 (nI 0)) 18 4 (nI 0)) 18 5 (nI fr)) 18 7 (nI 0), rfl, ⟨?_, ?_, ?_, ?_, ?_, ?_, ?_, 0, g2a, by decide, fun j hj => absurd hj (Nat.not_lt_zero _)⟩, fun a ha => by rw [gu2_other ha, gu2_other ha, gu2_other ha, gu2_other ha, gu2_other ha, gu2_other ha]; exact hp.2 a ha⟩
      · show r_X4_begin_5 18 g (m + 1) (nI (fG F)) s L = _
        have e4' : gu2 (gu2 (gu2 (gu2 s 18 1 (nI 0)) 18 2 (nI 0)) 18 3 (nI 0)) 18 4 (nI 0) g 4 = nI fr := by simp (disch := omega) only [g2a, g2o, g2n, e4]
        rw [r_X4_begin_5, e0, if_pos (show nI (fG F) ≤ nI (fG F) by simp (disch := omega) only [n_le, n_lt, n_eq, n_eq0, n_0lt, n_le0, n_lt0, n_0le, n_gvp, n_gx, n_add, n_mul, decide_eq_true_eq, Option.bind_some, if_false, if_true, not_false_eq_true, not_true_eq_false]; omega), e4']
      · simp (disch := omega) only [g2a, g2o, g2n]
        exact hp.1
      · simp (disch := omega) only [g2a, g2o, g2n]
        rfl
      · simp (disch := omega) only [g2a, g2o, g2n]
        rfl
      · simp (disch := omega) only [g2a, g2o, g2n]
        rfl
      · simp (disch := omega) only [g2a, g2o, g2n]
        rfl
      · simp (disch := omega) only [g2a, g2o, g2n]
        rfl
      · simp (disch := omega) only [g2a, g2o, g2n]
        rfl) (d := fG F) (j := 0) (N := 100) (s := gu2 I 18 0 (nI 0)) (by omega) (by omega) ⟨by rw [g2a]; rfl, fun a ha => gu2_other ha⟩
  obtain ⟨z, e, I', rfl, h1, h2⟩ := h
  exact ⟨I', e, h1, h2⟩
def fenS (S : TSt) (F : TFen) (V : TMom) : TSt := (sT S, F, V, [], (fun _ => none), sH S, sD S)
theorem fen11_c {f g fr : Nat} {I J : gII} {L : gLL} {S : TSt} {F : TFen} {nt : Nat → Nat} (hw : gfw f g) (hc : cSt f I L S) (hJ : ∀ a, ¬ (g ≤ a ∧ a ≤ g + 6) → J a = I a) (hD : cDr J g F nt) (ok : okD F nt) (h4 : J g 4 = nI fr) : ∃ I' L', r_X7_fen_11 f g J L = some (nI (1000 * fG F + 100 * fL F + 10 * fB F + fV F), I', L') ∧ cSt g I' L' (fenS S F (V0m F nt fr)) := by
  have hgg := gfe_or hw.g
  obtain ⟨J1, e1, m1, k1⟩ := begin_c (L := L) hw.g hD ok h4
  obtain ⟨c1, c2, c3, c4, c5, c6, c7⟩ := hc
  have kI : ∀ a, a ≠ 18 → a ≠ 20 → a ≠ 39 → gu2 (gu2 (i_X0_forgetAll J1 (gu2 L 18 6 (lN 0))) 39 0 (nI 0)) 39 1 (nI 0) a = J a := fun a a1 a2 a3 => by
    rw [gu2_other a3, gu2_other a3, wi_X0_forgetAll a2]
    exact k1 a a1
  have kF : cFen (gu2 (gu2 (i_X0_forgetAll J1 (gu2 L 18 6 (lN 0))) 39 0 (nI 0)) 39 1 (nI 0)) g F := cFen_kept (fun a q1 q2 => kI a (by omega) (by omega) (by omega)) hD.1
  refine ⟨gu2 (gu2 (i_X0_forgetAll J1 (gu2 L 18 6 (lN 0))) 39 0 (nI 0)) 39 1 (nI 0), gu2 L 18 6 (lN 0), ?_, cTxt_kept (by rw [kI 2 (by decide) (by decide) (by decide), hJ 2 (by omega)]) ((kI 3 (by decide) (by decide) (by decide)).trans (hJ 3 (by omega))) c1, kF, cMom_kept (by rw [gu2_other (by decide), gu2_other (by decide)]; exact wi_X0_forgetAll (by decide)) rfl m1, ⟨Nat.zero_le _, ?_, 0, by omega, ?_, fun j V hV => by simp [fenS, sA] at hV⟩, fun s hs => ⟨?_, fun W hW => by cases hW⟩, cHear_kept (fun a q1 q2 => (kI a (by omega) (by omega) (by omega)).trans (hJ a (by omega))) c6, by rw [gu2_other (by decide)]; exact c7⟩
  · unfold r_X7_fen_11
    rw [e1, Option.bind_some]
    dsimp only
    rw [show (100 : Nat) = 97 + 1 + 1 + 1 from rfl, r_X7_fen_31, if_neg (by decide), if_pos (by decide), n_gx (by omega), n_add, r_X7_fen_31, if_neg (by decide), if_pos (by decide), n_gx (by omega), n_add, r_X7_fen_31, if_pos (by decide)]
    show some ((nI 1000 * gu2 (gu2 (i_X0_forgetAll J1 (gu2 L 18 6 (lN 0))) 39 0 (nI 0)) 39 1 (nI 0) g 0 + nI 100 * gu2 (gu2 (i_X0_forgetAll J1 (gu2 L 18 6 (lN 0))) 39 0 (nI 0)) 39 1 (nI 0) g 1 + nI 10 * gu2 (gu2 (i_X0_forgetAll J1 (gu2 L 18 6 (lN 0))) 39 0 (nI 0)) 39 1 (nI 0) g 2 + gu2 (gu2 (i_X0_forgetAll J1 (gu2 L 18 6 (lN 0))) 39 0 (nI 0)) 39 1 (nI 0) g 3), _, _) = _
    rw [kF.1, kF.2.1, kF.2.2.1, kF.2.2.2.1]
    simp only [n_mul, n_add]
  · rw [gu2_other (by decide), gu2_other (by decide)]
    unfold i_X0_forgetAll
    rw [g2a]
    rfl
  · rw [gu2_other (by decide), gu2_other (by decide)]
    unfold i_X0_forgetAll
    rw [g2n (by decide), g2a]
  · show _ = nI 0
    rcases (by omega : s = 0 ∨ s = 1) with rfl | rfl
    · rw [g2n (by decide), g2a]
    · rw [g2a]
theorem fen24_r {I J : gII} {L : gLL} {S : TSt} {F : TFen} {nt : Nat → Nat} {fr : Nat} (hr : rSt I L S) (hJ : rPs I J) (hD : rDr J F nt) (ok : okD F nt) (h18 : J 57 18 = nI fr) : ∃ I', r_X8_fen_24 100 (nI 0) (gu2 (gu2 (gu2 (gu2 J 57 0 (nI (fG F))) 57 1 (nI (fL F))) 57 2 (nI (fB F))) 57 3 (nI (fV F))) L = some (nI (1000 * fG F + 100 * fL F + 10 * fB F + fV F), I', L) ∧ rSt I' L (fenS S F (V0m F nt fr)) := by
  have hG := ok.1.1
  have hL := ok.1.2.1
  have hB := ok.1.2.2.1
  have hV := ok.1.2.2.2.1
  obtain ⟨⟨d0, d1, d2, d3⟩, da, dl, db, dv⟩ := hD
  generalize hJ0 : gu2 (gu2 (gu2 (gu2 J 57 0 (nI (fG F))) 57 1 (nI (fL F))) 57 2 (nI (fB F))) 57 3 (nI (fV F)) = J0
  have z0' : J0 57 0 = nI (fG F) := by rw [← hJ0]; simp (disch := omega) only [g2a, g2o, g2n]
  have z1' : J0 57 1 = nI (fL F) := by rw [← hJ0]; simp (disch := omega) only [g2a, g2o, g2n]
  have z2' : J0 57 2 = nI (fB F) := by rw [← hJ0]; simp (disch := omega) only [g2a, g2o, g2n]
  have z3' : J0 57 3 = nI (fV F) := by rw [← hJ0]; simp (disch := omega) only [g2a, g2o, g2n]
  have kJ0 : ∀ a j, (a ≠ 57 ∨ 3 < j) → J0 a j = J a j := fun a j q => by
    rw [← hJ0]
    by_cases e : a = 57
    · subst e
      simp (disch := omega) only [g2a, g2o, g2n]
    · simp (disch := omega) only [g2a, g2o, g2n]
  -- the twenty-seven numbers are 0
  obtain ⟨m1, s1, e1, p1, q1⟩ := gloop (fun m j (s : gII) => r_X8_fen_24 m (nI j) s L) (fun j s => (∀ i, i < j → s 63 i = nI 0) ∧ ∀ a, a ≠ 63 → s a = J0 a) (n := 27)
    (fun m j s hj hp => ⟨gu2 s 63 j (nI 0), by
      show r_X8_fen_24 (m + 1) (nI j) s L = r_X8_fen_24 m (nI (j + 1)) _ L
      rw [r_X8_fen_24, if_neg (show ¬ nI 27 ≤ nI j by simp (disch := omega) only [n_le, n_lt, n_eq, n_eq0, n_0lt, n_le0, n_lt0, n_0le, n_gvp, n_gx, n_add, n_mul, decide_eq_true_eq, Option.bind_some, if_false, if_true, not_false_eq_true, not_true_eq_false]; omega), if_pos (show gvp (nI j) 54 = true by rw [n_gvp (by omega)]; simp; omega), n_gx (by omega), n_add], fun i hi => by
        by_cases w : i = j
        · rw [w, g2a]
        · rw [g2n w]
          exact hp.1 i (by omega), fun a ha => (gu2_other ha).trans (hp.2 a ha)⟩) (d := 27) (j := 0) (N := 100) (s := J0) (by omega) (by omega) ⟨fun i hi => by omega, fun a _ => rfl⟩
  have e1' : r_X8_fen_24 100 (nI 0) J0 L = r_X8_fen_42 100 (nI 0) (gu2 s1 63 13 (nI fr)) L := by
    refine e1.trans ?_
    show r_X8_fen_24 (m1 + 1) (nI 27) s1 L = _
    rw [r_X8_fen_24, if_pos (by decide), q1 57 (by decide), kJ0 57 18 (by omega), h18, n_gx (by omega)]
  rw [e1']
  generalize hs2 : gu2 s1 63 13 (nI fr) = s2
  have k2 : ∀ a, a ≠ 63 → s2 a = J0 a := fun a ha => by rw [← hs2, gu2_other ha]; exact q1 a ha
  have v2 : ∀ i, i < 27 → s2 63 i = if i = 13 then nI fr else nI 0 := fun i hi => by
    rw [← hs2, gu2_self]
    by_cases w : i = 13
    · rw [if_pos w, if_pos w]
    · rw [if_neg w, if_neg w]
      exact p1 i hi
  -- gates
  obtain ⟨m3, s3, e3, p3a, p3b, p3c⟩ := gloop (fun m j (s : gII) => r_X8_fen_42 m (nI j) s L) (fun j s => (∀ i, i < j → s 63 i = nI (nt i) ∧ s 58 i = nI (fk F i)) ∧ (∀ i, j ≤ i → s 63 i = s2 63 i) ∧ ∀ a, a ≠ 63 → a ≠ 58 → s a = s2 a) (n := fG F)
    (fun m j s hj hp => by
      have g0 : s 57 0 = nI (fG F) := by rw [hp.2.2 57 (by decide) (by decide), k2 57 (by decide)]; exact z0'
      have g1 : s 64 (2 * j) = nI (nt j) := by rw [hp.2.2 64 (by decide) (by decide), k2 64 (by decide), kJ0 64 _ (by omega)]; exact (da j hj).1
      have g2 : gu2 s 63 j (nI (nt j)) 64 (2 * j + 1) = nI (fk F j) := by rw [g2o (by decide), hp.2.2 64 (by decide) (by decide), k2 64 (by decide), kJ0 64 _ (by omega)]; exact (da j hj).2
      refine ⟨gu2 (gu2 s 63 j (nI (nt j))) 58 j (nI (fk F j)), ?_, fun i hi => ?_, fun i hi => ?_, fun a a1 a2 => by rw [gu2_other a2, gu2_other a1]; exact hp.2.2 a a1 a2⟩
      · show r_X8_fen_42 (m + 1) (nI j) s L = r_X8_fen_42 m (nI (j + 1)) _ L
        rw [r_X8_fen_42, g0, if_neg (show ¬ nI (fG F) ≤ nI j by simp (disch := omega) only [n_le, n_lt, n_eq, n_eq0, n_0lt, n_le0, n_lt0, n_0le, n_gvp, n_gx, n_add, n_mul, decide_eq_true_eq, Option.bind_some, if_false, if_true, not_false_eq_true, not_true_eq_false]; omega), n_mul, n_add, if_pos (show gvp (nI (2 * j)) 10 = true by rw [n_gvp (by omega)]; simp; omega), if_pos (show gvp (nI j) 54 = true by rw [n_gvp (by omega)]; simp; omega), if_pos (show gvp (nI (2 * j + 1)) 10 = true by rw [n_gvp (by omega)]; simp; omega), if_pos (show gvp (nI j) 5 = true by rw [n_gvp (by omega)]; simp; omega), n_gx (by omega), n_gx (by omega), n_gx (by omega), g1, g2, n_add]
      · by_cases w : i = j
        · subst w
          rw [g2o (by decide), g2a, g2a]
          exact ⟨rfl, rfl⟩
        · rw [g2o (by decide), g2n w, g2n w, g2o (by decide)]
          exact hp.1 i (by omega)
      · rw [g2o (by decide), g2n (by omega)]
        exact hp.2.1 i (by omega)) (d := fG F) (j := 0) (N := 100) (s := s2) (by omega) (by omega) ⟨fun i hi => by omega, fun i _ => rfl, fun a _ _ => rfl⟩
  have h57_3 : s3 57 = J0 57 := by rw [p3c 57 (by decide) (by decide), k2 57 (by decide)]
  have e3' : r_X8_fen_42 100 (nI 0) s2 L = r_X8_fen_72 100 (nI 0) s3 L := by
    refine e3.trans ?_
    show r_X8_fen_42 (m3 + 1) (nI (fG F)) s3 L = _
    rw [r_X8_fen_42, h57_3, z0', if_pos (show nI (fG F) ≤ nI (fG F) by simp (disch := omega) only [n_le, n_lt, n_eq, n_eq0, n_0lt, n_le0, n_lt0, n_0le, n_gvp, n_gx, n_add, n_mul, decide_eq_true_eq, Option.bind_some, if_false, if_true, not_false_eq_true, not_true_eq_false]; omega)]
  rw [e3']
  -- lanes
  obtain ⟨m4, s4, e4, p4, q4⟩ := gloop (fun m j (s : gII) => r_X8_fen_72 m (nI j) s L) (fun j s => (∀ i, i < j → s 59 i = s3 65 i) ∧ ∀ a, a ≠ 59 → s a = s3 a) (n := 9)
    (fun m j s hj hp => ⟨gu2 s 59 j (s3 65 j), by
      show r_X8_fen_72 (m + 1) (nI j) s L = r_X8_fen_72 m (nI (j + 1)) _ L
      have h9 : gvp (nI j) 9 = true := by
        rw [n_gvp (by omega)]
        simp
        omega
      rw [r_X8_fen_72, if_neg (show ¬ nI 9 ≤ nI j by simp (disch := omega) only [n_le, n_lt, n_eq, n_eq0, n_0lt, n_le0, n_lt0, n_0le, n_gvp, n_gx, n_add, n_mul, decide_eq_true_eq, Option.bind_some, if_false, if_true, not_false_eq_true, not_true_eq_false]; omega), if_pos h9, if_pos h9, n_gx (by omega), n_add, hp.2 65 (by decide)], fun i hi => by
        by_cases w : i = j
        · rw [w, g2a]
        · rw [g2n w]
          exact hp.1 i (by omega), fun a ha => (gu2_other ha).trans (hp.2 a ha)⟩) (d := 9) (j := 0) (N := 100) (s := s3) (by omega) (by omega) ⟨fun i hi => by omega, fun a _ => rfl⟩
  have e4' : r_X8_fen_72 100 (nI 0) s3 L = r_X8_fen_87 100 (nI 0) s4 L := by
    refine e4.trans ?_
    show r_X8_fen_72 (m4 + 1) (nI 9) s4 L = _
    rw [r_X8_fen_72, if_pos (by decide)]
  rw [e4']
  have h57_4 : s4 57 = J0 57 := (q4 57 (by decide)).trans h57_3
  have k66 : ∀ j, s4 66 j = J 66 j := fun j => by rw [q4 66 (by decide), p3c 66 (by decide) (by decide), k2 66 (by decide), kJ0 66 j (by omega)]
  -- beasts
  obtain ⟨m5, s5, e5, p5, q5⟩ := gloop (fun m j (s : gII) => r_X8_fen_87 m (nI j) s L) (fun j s => (∀ i, i < j → s 60 i = nI (fw F i) ∧ s 61 i = nI (fb F i)) ∧ ∀ a, a ≠ 60 → a ≠ 61 → s a = s4 a) (n := fB F)
    (fun m j s hj hp => by
      have g0 : s 57 2 = nI (fB F) := by rw [hp.2 57 (by decide) (by decide), h57_4]; exact z2'
      have g1 : s 66 (2 * j) = nI (fw F j) := by rw [hp.2 66 (by decide) (by decide), k66]; exact (db j hj).1
      have g2 : gu2 s 60 j (nI (fw F j)) 66 (2 * j + 1) = nI (fb F j) := by rw [g2o (by decide), hp.2 66 (by decide) (by decide), k66]; exact (db j hj).2
      have h5 : gvp (nI j) 5 = true := by
        rw [n_gvp (by omega)]
        simp
        omega
      refine ⟨gu2 (gu2 s 60 j (nI (fw F j))) 61 j (nI (fb F j)), ?_, fun i hi => ?_, fun a a1 a2 => by rw [gu2_other a2, gu2_other a1]; exact hp.2 a a1 a2⟩
      · show r_X8_fen_87 (m + 1) (nI j) s L = r_X8_fen_87 m (nI (j + 1)) _ L
        rw [r_X8_fen_87, g0, if_neg (show ¬ nI (fB F) ≤ nI j by simp (disch := omega) only [n_le, n_lt, n_eq, n_eq0, n_0lt, n_le0, n_lt0, n_0le, n_gvp, n_gx, n_add, n_mul, decide_eq_true_eq, Option.bind_some, if_false, if_true, not_false_eq_true, not_true_eq_false]; omega), n_mul, n_add, if_pos (show gvp (nI (2 * j)) 10 = true by rw [n_gvp (by omega)]; simp; omega), if_pos h5, if_pos (show gvp (nI (2 * j + 1)) 10 = true by rw [n_gvp (by omega)]; simp; omega), if_pos h5, n_gx (by omega), n_gx (by omega), n_gx (by omega), g1, g2, n_add]
      · by_cases w : i = j
        · subst w
          rw [g2o (by decide), g2a, g2a]
          exact ⟨rfl, rfl⟩
        · rw [g2o (by decide), g2n w, g2n w, g2o (by decide)]
          exact hp.1 i (by omega)) (d := fB F) (j := 0) (N := 100) (s := s4) (by omega) (by omega) ⟨fun i hi => by omega, fun a _ _ => rfl⟩
  have h57_5 : s5 57 = J0 57 := (q5 57 (by decide) (by decide)).trans h57_4
  have e5' : r_X8_fen_87 100 (nI 0) s4 L = r_X8_fen_117 100 (nI 0) s5 L := by
    refine e5.trans ?_
    show r_X8_fen_87 (m5 + 1) (nI (fB F)) s5 L = _
    rw [r_X8_fen_87, h57_5, z2', if_pos (show nI (fB F) ≤ nI (fB F) by simp (disch := omega) only [n_le, n_lt, n_eq, n_eq0, n_0lt, n_le0, n_lt0, n_0le, n_gvp, n_gx, n_add, n_mul, decide_eq_true_eq, Option.bind_some, if_false, if_true, not_false_eq_true, not_true_eq_false]; omega)]
  rw [e5']
  -- verses
  obtain ⟨m6, s6, e6, p6, q6⟩ := gloop (fun m j (s : gII) => r_X8_fen_117 m (nI j) s L) (fun j s => (∀ i, i < j → s 62 i = s5 67 i) ∧ ∀ a, a ≠ 62 → s a = s5 a) (n := 8)
    (fun m j s hj hp => ⟨gu2 s 62 j (s5 67 j), by
      show r_X8_fen_117 (m + 1) (nI j) s L = r_X8_fen_117 m (nI (j + 1)) _ L
      have h9 : gvp (nI j) 8 = true := by
        rw [n_gvp (by omega)]
        simp
        omega
      rw [r_X8_fen_117, if_neg (show ¬ nI 8 ≤ nI j by simp (disch := omega) only [n_le, n_lt, n_eq, n_eq0, n_0lt, n_le0, n_lt0, n_0le, n_gvp, n_gx, n_add, n_mul, decide_eq_true_eq, Option.bind_some, if_false, if_true, not_false_eq_true, not_true_eq_false]; omega), if_pos h9, if_pos h9, n_gx (by omega), n_add, hp.2 67 (by decide)], fun i hi => by
        by_cases w : i = j
        · rw [w, g2a]
        · rw [g2n w]
          exact hp.1 i (by omega), fun a ha => (gu2_other ha).trans (hp.2 a ha)⟩) (d := 8) (j := 0) (N := 100) (s := s5) (by omega) (by omega) ⟨fun i hi => by omega, fun a _ => rfl⟩
  have h57_6 : s6 57 = J0 57 := (q6 57 (by decide)).trans h57_5
  have far : ∀ a, ¬ (57 ≤ a ∧ a ≤ 67) → s6 a = I a := fun a ha => by
    rw [q6 a (by omega), q5 a (by omega) (by omega), q4 a (by omega), p3c a (by omega) (by omega), k2 a (by omega)]
    funext j
    rw [kJ0 a j (by omega), hJ.1 a (by omega) (by omega)]
  generalize hE : gu2 (gu2 (gu2 s6 57 25 (nI 0)) 74 0 (nI 0)) 74 1 (nI 0) = sE
  have x57 : ∀ j, j ≠ 25 → sE 57 j = J0 57 j := fun j hj => by rw [← hE, g2o (by decide), g2o (by decide), g2n hj, h57_6]
  have xa : ∀ a, a ≠ 57 → a ≠ 74 → sE a = s6 a := fun a a1 a2 => by rw [← hE, gu2_other a2, gu2_other a2, gu2_other a1]
  have s63 : sE 63 = s3 63 := by rw [xa 63 (by decide) (by decide), q6 63 (by decide), q5 63 (by decide) (by decide), q4 63 (by decide)]
  refine ⟨sE, ?_, ?_⟩
  · refine e6.trans ?_
    show r_X8_fen_117 (m6 + 1) (nI 8) s6 L = _
    rw [r_X8_fen_117, if_pos (by decide), n_gx (by omega), n_gx (by omega), hE, x57 0 (by decide), x57 1 (by decide), x57 2 (by decide), x57 3 (by decide), z0', z1', z2', z3']
    simp only [n_mul, n_add]
  · obtain ⟨r1, r2, r3, r4, r5, r6, r7⟩ := hr
    have f57 : ∀ j, ¬ (14 ≤ j ∧ j ≤ 18) → j ≠ 21 → j ≠ 22 → 3 < j → j ≠ 25 → sE 57 j = I 57 j := fun j j1 j2 j3 j4 j5 => by rw [x57 j j5, kJ0 57 j (by omega), hJ.2 j j1 j2 j3]
    refine ⟨rTxt_kept (f57 20 (by omega) (by omega) (by omega) (by omega) (by omega)) (by rw [xa 68 (by decide) (by decide)]; exact far 68 (by omega)) r1, ⟨(x57 0 (by decide)).trans z0', (x57 1 (by decide)).trans z1', (x57 2 (by decide)).trans z2', (x57 3 (by decide)).trans z3', fun j hj => ?_, fun j hj => ?_, fun j hj => ?_, fun j hj => ?_, fun j hj => ?_⟩, ⟨fun j hj => ?_, fun j hj => ?_, ?_, ?_, ?_, ?_, ?_, fun j hj => absurd hj (Nat.not_lt_zero _)⟩, ?_, fun s hs => ⟨?_, fun W hW => by cases hW⟩, rHear_kept (f57 29 (by omega) (by omega) (by omega) (by omega) (by omega)) (fun a q1 q2 => by rw [xa a (by omega) (by omega)]; exact far a (by omega)) r6, r7⟩
    · rw [xa 58 (by decide) (by decide), q6 58 (by decide), q5 58 (by decide) (by decide), q4 58 (by decide)]
      exact (p3a j hj).2
    · have hj : j < 3 * fL F := hj
      rw [xa 59 (by decide) (by decide), q6 59 (by decide), q5 59 (by decide) (by decide), p4 j (by omega), p3c 65 (by decide) (by decide), k2 65 (by decide), kJ0 65 j (by omega)]
      exact dl j hj
    · rw [xa 60 (by decide) (by decide), q6 60 (by decide)]
      exact (p5 j hj).1
    · rw [xa 61 (by decide) (by decide), q6 61 (by decide)]
      exact (p5 j hj).2
    · have hj : j < 4 * fV F := hj
      rw [xa 62 (by decide) (by decide), p6 j (by omega), q5 67 (by decide) (by decide), q4 67 (by decide), p3c 67 (by decide) (by decide), k2 67 (by decide), kJ0 67 j (by omega)]
      exact dv j hj
    · show _ = nI (if j < fG F then nt j else 0)
      rw [s63, Nat.zero_add]
      by_cases w : j < fG F
      · rw [if_pos w]
        exact (p3a j w).1
      · rw [if_neg w, p3b j (by omega), v2 j (by omega), if_neg (by omega)]
    · show _ = nI 0
      rw [s63, p3b _ (by omega), v2 _ (by omega), if_neg (by omega)]
    · show _ = nI 0
      rw [s63, p3b _ (by omega), v2 _ (by omega), if_neg (by omega)]
    · show _ = nI 0
      rw [s63, p3b _ (by omega), v2 _ (by omega), if_neg (by omega)]
    · show _ = nI 0
      rw [s63, p3b _ (by omega), v2 _ (by omega), if_neg (by omega)]
    · show _ = nI fr
      rw [s63, p3b _ (by omega), v2 _ (by omega), if_pos (by omega)]
    · show _ = nI 0
      rw [s63, p3b _ (by omega), v2 _ (by omega), if_neg (by omega)]
    · obtain ⟨hl, h25, q, hq, h26, hA⟩ := r4
      refine ⟨Nat.zero_le _, ?_, q, hq, ?_, fun j V hV => by simp [fenS, sA] at hV⟩
      · rw [← hE, g2o (by decide), g2o (by decide), g2a]
        rfl
      · rw [f57 26 (by omega) (by omega) (by omega) (by omega) (by omega)]
        exact h26
    · show _ = nI 0
      rw [← hE]
      rcases (by omega : s = 0 ∨ s = 1) with rfl | rfl
      · rw [g2n (by decide), g2a]
      · rw [g2a]
theorem c_fen : gFenCase sInv := by
  intro f g I L hw hI
  obtain ⟨S, hS, hc, hr⟩ := hI
  obtain ⟨J, e, fC⟩ := read_c (L := L) hw.g hS.1.1 hS.1.2 hc.1.2
  have kJ : ∀ a, ¬ (g ≤ a ∧ a ≤ g + 6) → J a = I a := fun a ha => (w_X1_read (z := ((prs (sT S)).1, J, L)) (by omega) e).1
  have hgg := gfe_or hw.g
  have hrJ : rSt J L S := rSt_far hS (fun a ha => ⟨kJ a (by omega), rfl⟩) hr
  rw [← hc.1.1] at e
  by_cases q : (prs (sT S)).1 = -9
  · right
    obtain ⟨ok, hD, h4, h1⟩ := fC q
    obtain ⟨I2, L2, e2, c2⟩ := fen11_c (L := L) hw hc kJ hD ok h4
    have w2 : ∀ a, 57 ≤ a → I2 a = J a ∧ L2 a = L a := fun a ha => w_X7_fen_11 (by omega) e2
    have hr2 : rSt I2 L2 S := rSt_far hS w2 hrJ
    obtain ⟨J3, e3, r3, f3⟩ := readText_r (L := L2) hS.1.1 hS.1.2 hr2.1
    obtain ⟨hD3, h18⟩ := f3 q
    obtain ⟨I4, e4, r4⟩ := fen24_r (L := L2) hr2 r3 hD3 ok h18
    have e5 : r_X8_fen I2 L2 = some (nI (1000 * fG (prs (sT S)).2.1 + 100 * fL (prs (sT S)).2.1 + 10 * fB (prs (sT S)).2.1 + fV (prs (sT S)).2.1), I4, L2) := by
      unfold r_X8_fen
      rw [e3, Option.bind_some]
      dsimp only
      rw [if_pos q]
      have b0 := hD3.1.1
      have b1 : gu2 J3 57 0 (J3 57 14) 57 15 = nI (fL (prs (sT S)).2.1) := by rw [g2n (by decide)]; exact hD3.1.2.1
      have b2 : gu2 (gu2 J3 57 0 (J3 57 14)) 57 1 (gu2 J3 57 0 (J3 57 14) 57 15) 57 16 = nI (fB (prs (sT S)).2.1) := by rw [g2n (by decide), g2n (by decide)]; exact hD3.1.2.2.1
      have b3 : gu2 (gu2 (gu2 J3 57 0 (J3 57 14)) 57 1 (gu2 J3 57 0 (J3 57 14) 57 15)) 57 2 (gu2 (gu2 J3 57 0 (J3 57 14)) 57 1 (gu2 J3 57 0 (J3 57 14) 57 15) 57 16) 57 17 = nI (fV (prs (sT S)).2.1) := by rw [g2n (by decide), g2n (by decide), g2n (by decide)]; exact hD3.1.2.2.2
      rw [b3, b2, b1, b0]
      exact e4
    refine ⟨_, _, _, e, q, e2, e5, rfl, fenS S (prs (sT S)).2.1 (V0m (prs (sT S)).2.1 (prs (sT S)).2.2 ((sT S).getD 1 0 - 48)), ⟨hS.1, ok.1, V0m_ok ok h1, (fun W hW => by cases hW), (fun s W hW => by cases hW), hS.2.2.2.2.2⟩, ?_, r4⟩
    have w5 : ∀ a, a < 57 → I4 a = I2 a ∧ L2 a = L2 a := fun a ha => w_X8_fen (by omega) e5
    refine cSt_kept (fun a ha => w5 a ?_) c2
    have hw' : gfw g f := by
      rcases hw with ⟨rfl, rfl⟩ | ⟨rfl, rfl⟩
      · exact Or.inr ⟨rfl, rfl⟩
      · exact Or.inl ⟨rfl, rfl⟩
    exact (cHold_lt hw' ha).1
  · left
    obtain ⟨J3, e3, r3, -⟩ := readText_r (L := L) hS.1.1 hS.1.2 hrJ.1
    have e5 : r_X8_fen J L = some (-3, J3, L) := by
      unfold r_X8_fen
      rw [e3, Option.bind_some]
      dsimp only
      rw [if_neg q]
    have w5 : ∀ a, a < 57 → J3 a = J a ∧ L a = L a := fun a ha => w_X8_fen (by omega) e5
    refine ⟨_, _, e, q, e5, rfl, S, hS, ?_, rSt_same hS (rPs_same r3) hrJ⟩
    refine cSt_kept (fun a ha => ?_) hc
    have hl := cHold_lt hw ha
    exact ⟨(w5 a hl.1).1.trans (kJ a hl.2.2.2.2), rfl⟩
