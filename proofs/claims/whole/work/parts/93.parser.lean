/-! THE TEXT, the reference's other parts -/
theorem partB_r {I : gII} {L : gLL} {i : Nat} {xs : List Nat} {F : TFen} {nt : Nat → Nat} (h60 : xs.length ≤ 60) (hx : ∀ t ∈ xs, t < 256) (ht : rLet I xs) (h21 : I 57 21 = nI i) (h22 : I 57 22 = -9) (hin : i < xs.length) (hD : rDr I F nt) (hB : fB F < 5) : ∃ J, r_X8_readPart I L (nI 66) = some (0, J, L) ∧ partR xs I J (pB xs i F nt) := by
  obtain ⟨⟨d0, d1, d2, d3⟩, da, dl, db, dv⟩ := hD
  have e16 : ∀ {J : gII}, J 57 16 = nI (fB F) → gvp (nI 2 * J 57 16) 10 = true ∧ gx (nI 2 * J 57 16) = 2 * fB F ∧ gvp (nI 2 * J 57 16 + nI 1) 10 = true ∧ gx (nI 2 * J 57 16 + nI 1) = 2 * fB F + 1 := fun {J} h => by
    rw [h, n_mul, n_add]
    refine ⟨?_, n_gx (by omega), ?_, n_gx (by omega)⟩
    · rw [n_gvp (by omega)]
      simp
      omega
    · rw [n_gvp (by omega)]
      simp
      omega
  have r1 : rPr I (gu2 I 57 21 (nI (i + 1))) := rP_57 (by omega)
  have t1 := rP_let r1 ht
  have a16 : gu2 I 57 21 (nI (i + 1)) 57 16 = nI (fB F) := by simp (disch := omega) only [g2a, g2o, g2n, d2]
  have run : r_X8_readPart I L (nI 66) = (r_X8_figure (gu2 I 57 21 (nI (i + 1))) L (nI 1) (nI 9)).bind (fun z84 => (if gvp ((nI 2) * ((gu2 I 57 21 (nI (i + 1))) 57 16)) 10 = true then ((r_X8_figure (gu2 z84.2.1 66 (gx ((nI 2) * ((gu2 I 57 21 (nI (i + 1))) 57 16))) z84.1) z84.2.2 (nI 0) (nI 3)).bind (fun z86 => (if gvp (((nI 2) * ((gu2 z84.2.1 66 (gx ((nI 2) * ((gu2 I 57 21 (nI (i + 1))) 57 16))) z84.1) 57 16)) + (nI 1)) 10 = true then some (0, (gu2 (gu2 z86.2.1 66 (gx (((nI 2) * ((gu2 z84.2.1 66 (gx ((nI 2) * ((gu2 I 57 21 (nI (i + 1))) 57 16))) z84.1) 57 16)) + (nI 1))) z86.1) 57 16 (((gu2 z86.2.1 66 (gx (((nI 2) * ((gu2 z84.2.1 66 (gx ((nI 2) * ((gu2 I 57 21 (nI (i + 1))) 57 16))) z84.1) 57 16)) + (nI 1))) z86.1) 57 16) + (nI 1))), z86.2.2) else none))) else none)) := by
    unfold r_X8_readPart r_X8_readPart_43 r_X8_readPart_89
    rw [if_pos (show ¬ (nI 66 : Int32) = nI 71 by decide), if_pos (show ¬ (nI 66 : Int32) = nI 76 by decide), if_neg (fun h => h rfl), d2, if_neg (show ¬ nI 5 ≤ nI (fB F) by simp (disch := omega) only [n_le, n_lt, n_eq, n_eq0, n_0lt, n_le0, n_lt0, n_0le, n_gvp, n_gx, n_add, n_mul, decide_eq_true_eq, Option.bind_some, if_false, if_true, not_false_eq_true, not_true_eq_false]; omega), h21, n_add]
  rw [run]
  obtain ⟨x1, x2, -, -⟩ := e16 a16
  have tail : ∀ (J : gII) (v : Int32), J 57 16 = nI (fB F) → (if gvp ((nI 2) * ((gu2 I 57 21 (nI (i + 1))) 57 16)) 10 = true then ((r_X8_figure (gu2 J 66 (gx ((nI 2) * ((gu2 I 57 21 (nI (i + 1))) 57 16))) v) L (nI 0) (nI 3)).bind (fun z98 => (if gvp (((nI 2) * ((gu2 J 66 (gx ((nI 2) * ((gu2 I 57 21 (nI (i + 1))) 57 16))) v) 57 16)) + (nI 1)) 10 = true then some (0, (gu2 (gu2 z98.2.1 66 (gx (((nI 2) * ((gu2 J 66 (gx ((nI 2) * ((gu2 I 57 21 (nI (i + 1))) 57 16))) v) 57 16)) + (nI 1))) z98.1) 57 16 (((gu2 z98.2.1 66 (gx (((nI 2) * ((gu2 J 66 (gx ((nI 2) * ((gu2 I 57 21 (nI (i + 1))) 57 16))) v) 57 16)) + (nI 1))) z98.1) 57 16) + (nI 1))), z98.2.2) else none))) else none) = ((r_X8_figure (gu2 J 66 (2 * fB F) v) L (nI 0) (nI 3)).bind (fun z98 => some ((0 : Int32), (gu2 (gu2 z98.2.1 66 (2 * fB F + 1) z98.1) 57 16 (((gu2 z98.2.1 66 (2 * fB F + 1) z98.1) 57 16) + (nI 1))), z98.2.2))) := fun J v hJ => by
    have b16 : gu2 J 66 (2 * fB F) v 57 16 = nI (fB F) := by simp (disch := omega) only [g2a, g2o, g2n, hJ]
    obtain ⟨-, -, y1, y2⟩ := e16 b16
    rw [if_pos x1, x2]
    simp only [y1, y2, if_true]
  obtain ⟨ly, ln⟩ := fig_r (L := L) (lo := 1) (hi := 9) h60 hx t1 (show gu2 I 57 21 (nI (i + 1)) 57 21 = nI (i + 1) from g2a) (by simp (disch := omega) only [g2a, g2o, g2n, h22]) (show i + 1 ≤ xs.length by omega) (by omega) (by omega)
  unfold pB
  by_cases p1 : fOk xs 1 9 (i + 1)
  · rw [ly p1, Option.bind_some, if_pos p1]
    dsimp only
    rw [tail _ _ (by simp (disch := omega) only [g2a, g2o, g2n, d2])]
    generalize hJ1 : gu2 (gu2 (gu2 I 57 21 (nI (i + 1))) 57 21 (nI (i + 1 + 1))) 66 (2 * fB F) (nI (xs.getD (i + 1) 0 - 48)) = J1
    have r2 : rPr I J1 := by
      rw [← hJ1]
      exact rP_trans r1 (rP_trans (rP_57 (by omega)) (rP_ar (by omega)))
    have j21 : J1 57 21 = nI (i + 2) := by rw [← hJ1]; simp (disch := omega) only [g2a, g2o, g2n]
    have j22 : J1 57 22 = -9 := by rw [← hJ1]; simp (disch := omega) only [g2a, g2o, g2n, h22]
    obtain ⟨fy, fn⟩ := fig_r (L := L) (lo := 0) (hi := 3) h60 hx (rP_let r2 ht) j21 j22 (by have := p1.1; omega) (by omega) (by omega)
    by_cases p2 : fOk xs 0 3 (i + 2)
    · rw [fy p2, Option.bind_some, if_pos p2]
      dsimp only
      have e : gu2 (gu2 J1 57 21 (nI (i + 2 + 1))) 66 (2 * fB F + 1) (nI (xs.getD (i + 2) 0 - 48)) 57 16 = nI (fB F) := by
        rw [← hJ1]
        simp (disch := omega) only [g2a, g2o, g2n, d2]
      rw [e, n_add]
      refine ⟨_, rfl, rP_trans r2 (rP_trans (rP_57 (by omega)) (rP_trans (rP_ar (by omega)) (rP_57 (by omega)))), ?_, ?_, ⟨⟨?_, ?_, ?_, ?_⟩, ?_, ?_, ?_, ?_⟩⟩
      · simp (disch := omega) only [g2a, g2o, g2n]
      · simp (disch := omega) only [g2a, g2o, g2n, j22]
      · rw [← hJ1]
        simp (disch := omega) only [g2a, g2o, g2n]
        exact d0
      · rw [← hJ1]
        simp (disch := omega) only [g2a, g2o, g2n]
        exact d1
      · simp (disch := omega) only [g2a, g2o, g2n]
        rfl
      · rw [← hJ1]
        simp (disch := omega) only [g2a, g2o, g2n]
        exact d3
      · intro j hj
        rw [← hJ1]
        simp (disch := omega) only [g2a, g2o, g2n]
        exact da j hj
      · intro j hj
        rw [← hJ1]
        simp (disch := omega) only [g2a, g2o, g2n]
        exact dl j hj
      · intro j hj
        have hj : j < fB F + 1 := hj
        show _ = nI (if j = fB F then _ else fw F j) ∧ _ = nI (if j = fB F then _ else fb F j)
        rw [← hJ1]
        by_cases q : j = fB F
        · subst q
          rw [if_pos rfl, if_pos rfl]
          simp (disch := omega) only [g2a, g2o, g2n]
          exact ⟨trivial, trivial⟩
        · rw [if_neg q, if_neg q]
          simp (disch := omega) only [g2a, g2o, g2n]
          exact db j (by omega)
      · intro j hj
        rw [← hJ1]
        simp (disch := omega) only [g2a, g2o, g2n]
        exact dv j hj
    · rw [fn p2, Option.bind_some, if_neg p2]
      have := p1.1
      refine ⟨_, rfl, rP_trans r2 (rP_trans (rP_57 (by omega)) (rP_trans (rP_ar (by omega)) (rP_57 (by omega)))), by omega, ?_⟩
      dsimp only
      simp (disch := omega) only [g2a, g2o, g2n]
  · rw [ln p1, Option.bind_some, if_neg p1]
    dsimp only
    rw [tail _ _ (by simp (disch := omega) only [g2a, g2o, g2n, d2]), fig_f (q := i + 1) (by simp (disch := omega) only [g2a, g2o, g2n]) (by omega), Option.bind_some]
    refine ⟨_, rfl, rP_trans r1 (rP_trans (rP_57 (by omega)) (rP_trans (rP_ar (by omega)) (rP_trans (rP_ar (by omega)) (rP_57 (by omega))))), by omega, ?_⟩
    dsimp only
    simp (disch := omega) only [g2a, g2o, g2n]
/-- a LANE: one figure -/
theorem lane_1 {I J : gII} {L : gLL} {N k m : Nat} {v : Int32} (h15 : I 57 15 = nI N) (hN : N < 3) (hk : k < 3) (h : r_X8_figure I L (nI 0) (I 57 14 - nI 1) = some (v, J, L)) : r_X8_readPart_61 (m + 1) (nI k) I L = r_X8_readPart_61 m (nI (k + 1)) (gu2 J 65 (3 * N + k) v) L := by
  rw [r_X8_readPart_61, if_neg (show ¬ nI 3 ≤ nI k by simp (disch := omega) only [n_le, n_lt, n_eq, n_eq0, n_0lt, n_le0, n_lt0, n_0le, n_gvp, n_gx, n_add, n_mul, decide_eq_true_eq, Option.bind_some, if_false, if_true, not_false_eq_true, not_true_eq_false]; omega), h, Option.bind_some, h15, n_mul, n_add, if_pos (show gvp (nI (3 * N + k)) 9 = true by rw [n_gvp (by omega)]; simp; omega), n_gx (by omega), n_add]
theorem lane_f {L : gLL} {N p : Nat} (hN : N < 3) (hp : p < 100) : ∀ d k m (I : gII), k + d = 3 → I 57 15 = nI N → I 57 22 = nI p → ∃ J, r_X8_readPart_61 (m + d + 1) (nI k) I L = some (0, J, L) ∧ J 57 22 = nI p ∧ rPr I J := by
  intro d
  induction d with
  | zero =>
    intro k m I hk h15 h22
    have hk : k = 3 := hk
    subst hk
    refine ⟨gu2 I 57 15 (I 57 15 + nI 1), ?_, by simp (disch := omega) only [g2a, g2o, g2n, h22], rP_57 (by omega)⟩
    rw [show m + 0 + 1 = m + 1 from rfl, r_X8_readPart_61, if_pos (by decide)]
  | succ d ih =>
    intro k m I hk h15 h22
    have e := lane_1 (m := m + d + 1) (k := k) h15 hN (by omega) (fig_f (L := L) (lo := nI 0) (hi := I 57 14 - nI 1) h22 (by omega))
    obtain ⟨J, e2, j2, r2⟩ := ih (k + 1) m (gu2 I 65 (3 * N + k) (nI 0)) (by omega) (by simp (disch := omega) only [g2a, g2o, g2n, h15]) (by simp (disch := omega) only [g2a, g2o, g2n, h22])
    exact ⟨J, e.trans e2, j2, rP_trans (rP_ar (by omega)) r2⟩
theorem partL_r {I : gII} {L : gLL} {i : Nat} {xs : List Nat} {F : TFen} {nt : Nat → Nat} (h60 : xs.length ≤ 60) (hx : ∀ t ∈ xs, t < 256) (ht : rLet I xs) (h21 : I 57 21 = nI i) (h22 : I 57 22 = -9) (hin : i < xs.length) (hD : rDr I F nt) (hF : okF F) (hL : fL F < 3) (hG : 0 < fG F) : ∃ J, r_X8_readPart I L (nI 76) = some (0, J, L) ∧ partR xs I J (pL xs i F nt) := by
  have hG5 := hF.1
  obtain ⟨⟨d0, d1, d2, d3⟩, da, dl, db, dv⟩ := hD
  have run : r_X8_readPart I L (nI 76) = r_X8_readPart_61 100 (nI 0) (gu2 I 57 21 (nI (i + 1))) L := by
    unfold r_X8_readPart r_X8_readPart_43
    rw [if_pos (show ¬ (nI 76 : Int32) = nI 71 by decide), if_neg (fun h => h rfl), d1, d0, if_neg (show ¬ nI 3 ≤ nI (fL F) by simp (disch := omega) only [n_le, n_lt, n_eq, n_eq0, n_0lt, n_le0, n_lt0, n_0le, n_gvp, n_gx, n_add, n_mul, decide_eq_true_eq, Option.bind_some, if_false, if_true, not_false_eq_true, not_true_eq_false]; omega), if_neg (show ¬ nI (fG F) ≤ 0 by rw [n_le0 (by omega)]; omega), h21, n_add]
  rw [run]
  generalize hJ0 : gu2 I 57 21 (nI (i + 1)) = J0
  have r0 : rPr I J0 := by
    rw [← hJ0]
    exact rP_57 (by omega)
  have step : ∀ (J : gII) (k p m : Nat), rPr I J → J 57 14 = nI (fG F) → J 57 15 = nI (fL F) → J 57 21 = nI p → J 57 22 = -9 → k < 3 → p ≤ xs.length → (fOk xs 0 (fG F - 1) p → r_X8_readPart_61 (m + 1) (nI k) J L = r_X8_readPart_61 m (nI (k + 1)) (gu2 (gu2 J 57 21 (nI (p + 1))) 65 (3 * fL F + k) (nI (xs.getD p 0 - 48))) L) ∧ (¬ fOk xs 0 (fG F - 1) p → r_X8_readPart_61 (m + 1) (nI k) J L = r_X8_readPart_61 m (nI (k + 1)) (gu2 (gu2 J 57 22 (nI p)) 65 (3 * fL F + k) (nI 0)) L) := by
    intro J k p m rJ j14 j15 j21 j22 hk hp
    obtain ⟨fy, fn⟩ := fig_r (L := L) (lo := 0) (hi := fG F - 1) h60 hx (rP_let rJ ht) j21 j22 hp (by omega) (by omega)
    have e : J 57 14 - nI 1 = nI (fG F - 1) := by rw [j14, n_sub (by omega)]
    exact ⟨fun h => lane_1 j15 hL hk (by rw [e]; exact fy h), fun h => lane_1 j15 hL hk (by rw [e]; exact fn h)⟩
  have z14 : J0 57 14 = nI (fG F) := by rw [← hJ0]; simp (disch := omega) only [g2a, g2o, g2n, d0]
  have z15 : J0 57 15 = nI (fL F) := by rw [← hJ0]; simp (disch := omega) only [g2a, g2o, g2n, d1]
  have z21 : J0 57 21 = nI (i + 1) := by rw [← hJ0]; simp (disch := omega) only [g2a, g2o, g2n]
  have z22 : J0 57 22 = -9 := by rw [← hJ0]; simp (disch := omega) only [g2a, g2o, g2n, h22]
  obtain ⟨s1, n1⟩ := step J0 0 (i + 1) 99 r0 z14 z15 z21 z22 (by omega) (by omega)
  unfold pL
  by_cases p1 : fOk xs 0 (fG F - 1) (i + 1)
  rotate_left
  · rw [n1 p1, if_neg p1]
    obtain ⟨J, e, j, r⟩ := lane_f (L := L) (p := i + 1) hL (by omega) 2 1 96 (gu2 (gu2 J0 57 22 (nI (i + 1))) 65 (3 * fL F + 0) (nI 0)) (by omega) (by simp (disch := omega) only [g2a, g2o, g2n, z15]) (by simp (disch := omega) only [g2a, g2o, g2n])
    exact ⟨J, e, rP_trans r0 (rP_trans (rP_57 (by omega)) (rP_trans (rP_ar (by omega)) r)), by omega, j⟩
  rw [s1 p1, if_pos p1]
  generalize hJ1 : gu2 (gu2 J0 57 21 (nI (i + 1 + 1))) 65 (3 * fL F + 0) (nI (xs.getD (i + 1) 0 - 48)) = J1
  have r1 : rPr I J1 := by
    rw [← hJ1]
    exact rP_trans r0 (rP_trans (rP_57 (by omega)) (rP_ar (by omega)))
  have y14 : J1 57 14 = nI (fG F) := by rw [← hJ1]; simp (disch := omega) only [g2a, g2o, g2n, z14]
  have y15 : J1 57 15 = nI (fL F) := by rw [← hJ1]; simp (disch := omega) only [g2a, g2o, g2n, z15]
  have y21 : J1 57 21 = nI (i + 2) := by rw [← hJ1]; simp (disch := omega) only [g2a, g2o, g2n]
  have y22 : J1 57 22 = -9 := by rw [← hJ1]; simp (disch := omega) only [g2a, g2o, g2n, z22]
  have l1 := p1.1
  obtain ⟨s2, n2⟩ := step J1 1 (i + 2) 98 r1 y14 y15 y21 y22 (by omega) (by omega)
  by_cases p2 : fOk xs 0 (fG F - 1) (i + 2)
  rotate_left
  · rw [if_neg p2]
    obtain ⟨J, e, j, r⟩ := lane_f (L := L) (p := i + 2) hL (by omega) 1 2 96 (gu2 (gu2 J1 57 22 (nI (i + 2))) 65 (3 * fL F + 1) (nI 0)) (by omega) (by simp (disch := omega) only [g2a, g2o, g2n, y15]) (by simp (disch := omega) only [g2a, g2o, g2n])
    exact ⟨J, (n2 p2).trans e, rP_trans r1 (rP_trans (rP_57 (by omega)) (rP_trans (rP_ar (by omega)) r)), by omega, j⟩
  rw [if_pos p2]
  generalize hJ2 : gu2 (gu2 J1 57 21 (nI (i + 2 + 1))) 65 (3 * fL F + 1) (nI (xs.getD (i + 2) 0 - 48)) = J2 at s2
  have r2 : rPr I J2 := by
    rw [← hJ2]
    exact rP_trans r1 (rP_trans (rP_57 (by omega)) (rP_ar (by omega)))
  have w14 : J2 57 14 = nI (fG F) := by rw [← hJ2]; simp (disch := omega) only [g2a, g2o, g2n, y14]
  have w15 : J2 57 15 = nI (fL F) := by rw [← hJ2]; simp (disch := omega) only [g2a, g2o, g2n, y15]
  have w21 : J2 57 21 = nI (i + 3) := by rw [← hJ2]; simp (disch := omega) only [g2a, g2o, g2n]
  have w22 : J2 57 22 = -9 := by rw [← hJ2]; simp (disch := omega) only [g2a, g2o, g2n, y22]
  have l2 := p2.1
  obtain ⟨s3, n3⟩ := step J2 2 (i + 3) 97 r2 w14 w15 w21 w22 (by omega) (by omega)
  by_cases p3 : fOk xs 0 (fG F - 1) (i + 3)
  rotate_left
  · rw [if_neg p3]
    obtain ⟨J, e, j, r⟩ := lane_f (L := L) (p := i + 3) hL (by omega) 0 3 96 (gu2 (gu2 J2 57 22 (nI (i + 3))) 65 (3 * fL F + 2) (nI 0)) (by omega) (by simp (disch := omega) only [g2a, g2o, g2n, w15]) (by simp (disch := omega) only [g2a, g2o, g2n])
    exact ⟨J, ((s2 p2).trans (n3 p3)).trans e, rP_trans r2 (rP_trans (rP_57 (by omega)) (rP_trans (rP_ar (by omega)) r)), by omega, j⟩
  rw [if_pos p3]
  generalize hJ3 : gu2 (gu2 J2 57 21 (nI (i + 3 + 1))) 65 (3 * fL F + 2) (nI (xs.getD (i + 3) 0 - 48)) = J3 at s3
  have r3 : rPr I J3 := by
    rw [← hJ3]
    exact rP_trans r2 (rP_trans (rP_57 (by omega)) (rP_ar (by omega)))
  have v15 : J3 57 15 = nI (fL F) := by rw [← hJ3]; simp (disch := omega) only [g2a, g2o, g2n, w15]
  have oth : ∀ a j, (a ≠ 57 ∨ j ≠ 21) → a ≠ 65 → J3 a j = I a j := fun a j q w => by
    rw [← hJ3, ← hJ2, ← hJ1, ← hJ0]
    by_cases e : a = 57
    · subst e
      simp (disch := omega) only [g2a, g2o, g2n]
    · simp (disch := omega) only [g2a, g2o, g2n]
  refine ⟨gu2 J3 57 15 (nI (fL F + 1)), ?_, rP_trans r3 (rP_57 (by omega)), ?_, ?_, ⟨⟨?_, ?_, ?_, ?_⟩, ?_, ?_, ?_, ?_⟩⟩
  · refine (s2 p2).trans ((s3 p3).trans ?_)
    rw [show (97 : Nat) = 96 + 1 from rfl, r_X8_readPart_61, if_pos (by decide), v15, n_add]
  · rw [← hJ3]
    simp (disch := omega) only [g2a, g2o, g2n]
  · rw [← hJ3]
    simp (disch := omega) only [g2a, g2o, g2n, w22]
  · rw [g2n (by decide), oth 57 14 (by omega) (by omega)]
    exact d0
  · rw [g2a]
    rfl
  · rw [g2n (by decide), oth 57 16 (by omega) (by omega)]
    exact d2
  · rw [g2n (by decide), oth 57 17 (by omega) (by omega)]
    exact d3
  · intro j hj
    rw [g2o (by decide), g2o (by decide), oth 64 _ (by omega) (by omega), oth 64 _ (by omega) (by omega)]
    exact da j hj
  · intro j hj
    have hj : j < 3 * (fL F + 1) := hj
    show _ = nI (if j = 3 * fL F then _ else if j = 3 * fL F + 1 then _ else if j = 3 * fL F + 2 then _ else fl F j)
    rw [g2o (by decide), ← hJ3, ← hJ2, ← hJ1, ← hJ0]
    by_cases r0 : j = 3 * fL F
    · rw [if_pos r0, r0]
      simp (disch := omega) only [g2a, g2o, g2n, Nat.add_zero]
    · rw [if_neg r0]
      by_cases r1 : j = 3 * fL F + 1
      · rw [if_pos r1, r1]
        simp (disch := omega) only [g2a, g2o, g2n]
      · rw [if_neg r1]
        by_cases r2 : j = 3 * fL F + 2
        · rw [if_pos r2, r2]
          simp (disch := omega) only [g2a, g2o, g2n]
        · rw [if_neg r2]
          simp (disch := omega) only [g2a, g2o, g2n]
          exact dl j (by omega)
  · intro j hj
    rw [g2o (by decide), g2o (by decide), oth 66 _ (by omega) (by omega), oth 66 _ (by omega) (by omega)]
    exact db j hj
  · intro j hj
    rw [g2o (by decide), oth 67 _ (by omega) (by omega)]
    exact dv j hj
/-- a VERSE: one tone -/
theorem verse_1 {I J : gII} {L : gLL} {N k m : Nat} {v : Int32} (h17 : I 57 17 = nI N) (hN : N < 2) (hk : k < 4) (h : r_X8_letterTone I L (nI 1) = some (v, J, L)) : r_X8_readPart_148 (m + 1) (nI k) I L = r_X8_readPart_148 m (nI (k + 1)) (gu2 J 67 (4 * N + k) v) L := by
  rw [r_X8_readPart_148, if_neg (show ¬ nI 4 ≤ nI k by simp (disch := omega) only [n_le, n_lt, n_eq, n_eq0, n_0lt, n_le0, n_lt0, n_0le, n_gvp, n_gx, n_add, n_mul, decide_eq_true_eq, Option.bind_some, if_false, if_true, not_false_eq_true, not_true_eq_false]; omega), h, Option.bind_some, h17, n_mul, n_add, if_pos (show gvp (nI (4 * N + k)) 8 = true by rw [n_gvp (by omega)]; simp; omega), n_gx (by omega), n_add]
theorem verse_f {L : gLL} {N p : Nat} (hN : N < 2) (hp : p < 100) : ∀ d k m (I : gII), k + d = 4 → I 57 17 = nI N → I 57 22 = nI p → ∃ J, r_X8_readPart_148 (m + d + 1) (nI k) I L = some (0, J, L) ∧ J 57 22 = nI p ∧ rPr I J := by
  intro d
  induction d with
  | zero =>
    intro k m I hk h17 h22
    have hk : k = 4 := hk
    subst hk
    refine ⟨gu2 I 57 17 (I 57 17 + nI 1), ?_, by simp (disch := omega) only [g2a, g2o, g2n, h22], rP_57 (by omega)⟩
    rw [show m + 0 + 1 = m + 1 from rfl, r_X8_readPart_148, if_pos (by decide)]
  | succ d ih =>
    intro k m I hk h17 h22
    have e := verse_1 (m := m + d + 1) (k := k) h17 hN (by omega) (lt_f (L := L) (b := nI 1) h22 (by omega))
    obtain ⟨J, e2, j2, r2⟩ := ih (k + 1) m (gu2 I 67 (4 * N + k) (nI 0)) (by omega) (by simp (disch := omega) only [g2a, g2o, g2n, h17]) (by simp (disch := omega) only [g2a, g2o, g2n, h22])
    exact ⟨J, e.trans e2, j2, rP_trans (rP_ar (by omega)) r2⟩
theorem partV_r {I : gII} {L : gLL} {i : Nat} {xs : List Nat} {F : TFen} {nt : Nat → Nat} (h60 : xs.length ≤ 60) (hx : ∀ t ∈ xs, t < 256) (ht : rLet I xs) (h21 : I 57 21 = nI i) (h22 : I 57 22 = -9) (hin : i < xs.length) (hD : rDr I F nt) (hV : fV F < 2) : ∃ J, r_X8_readPart I L (nI 86) = some (0, J, L) ∧ partR xs I J (pV xs i F nt) := by
  obtain ⟨⟨d0, d1, d2, d3⟩, da, dl, db, dv⟩ := hD
  have run : r_X8_readPart I L (nI 86) = r_X8_readPart_148 100 (nI 0) (gu2 I 57 21 (nI (i + 1))) L := by
    unfold r_X8_readPart r_X8_readPart_43 r_X8_readPart_89 r_X8_readPart_133
    rw [if_pos (show ¬ (nI 86 : Int32) = nI 71 by decide), if_pos (show ¬ (nI 86 : Int32) = nI 76 by decide), if_pos (show ¬ (nI 86 : Int32) = nI 66 by decide), if_neg (fun h => h rfl), d3, if_neg (show ¬ nI 2 ≤ nI (fV F) by simp (disch := omega) only [n_le, n_lt, n_eq, n_eq0, n_0lt, n_le0, n_lt0, n_0le, n_gvp, n_gx, n_add, n_mul, decide_eq_true_eq, Option.bind_some, if_false, if_true, not_false_eq_true, not_true_eq_false]; omega), h21, n_add]
  rw [run]
  generalize hJ0 : gu2 I 57 21 (nI (i + 1)) = J0
  have r0 : rPr I J0 := by
    rw [← hJ0]
    exact rP_57 (by omega)
  have step : ∀ (J : gII) (k p m : Nat), rPr I J → J 57 17 = nI (fV F) → J 57 21 = nI p → J 57 22 = -9 → k < 4 → p ≤ xs.length → (tOk xs p → r_X8_readPart_148 (m + 1) (nI k) J L = r_X8_readPart_148 m (nI (k + 1)) (gu2 (gu2 J 57 21 (nI (p + 1))) 67 (4 * fV F + k) (nI (tnV (xs.getD p 0)))) L) ∧ (¬ tOk xs p → r_X8_readPart_148 (m + 1) (nI k) J L = r_X8_readPart_148 m (nI (k + 1)) (gu2 (gu2 J 57 22 (nI p)) 67 (4 * fV F + k) (nI 0)) L) := by
    intro J k p m rJ j17 j21 j22 hk hp
    obtain ⟨fy, fn⟩ := lt_t (L := L) h60 hx (rP_let rJ ht) j21 j22 hp
    exact ⟨fun h => verse_1 j17 hV hk (fy h), fun h => verse_1 j17 hV hk (fn h)⟩
  have z17 : J0 57 17 = nI (fV F) := by rw [← hJ0]; simp (disch := omega) only [g2a, g2o, g2n, d3]
  have z21 : J0 57 21 = nI (i + 1) := by rw [← hJ0]; simp (disch := omega) only [g2a, g2o, g2n]
  have z22 : J0 57 22 = -9 := by rw [← hJ0]; simp (disch := omega) only [g2a, g2o, g2n, h22]
  obtain ⟨s1, n1⟩ := step J0 0 (i + 1) 99 r0 z17 z21 z22 (by omega) (by omega)
  unfold pV
  by_cases p1 : tOk xs (i + 1)
  rotate_left
  · rw [n1 p1, if_neg p1]
    obtain ⟨J, e, j, r⟩ := verse_f (L := L) (p := i + 1) hV (by omega) 3 1 95 (gu2 (gu2 J0 57 22 (nI (i + 1))) 67 (4 * fV F + 0) (nI 0)) (by omega) (by simp (disch := omega) only [g2a, g2o, g2n, z17]) (by simp (disch := omega) only [g2a, g2o, g2n])
    exact ⟨J, e, rP_trans r0 (rP_trans (rP_57 (by omega)) (rP_trans (rP_ar (by omega)) r)), by omega, j⟩
  rw [s1 p1, if_pos p1]
  generalize hJ1 : gu2 (gu2 J0 57 21 (nI (i + 1 + 1))) 67 (4 * fV F + 0) (nI (tnV (xs.getD (i + 1) 0))) = J1
  have r1 : rPr I J1 := by
    rw [← hJ1]
    exact rP_trans r0 (rP_trans (rP_57 (by omega)) (rP_ar (by omega)))
  have y17 : J1 57 17 = nI (fV F) := by rw [← hJ1]; simp (disch := omega) only [g2a, g2o, g2n, z17]
  have y21 : J1 57 21 = nI (i + 2) := by rw [← hJ1]; simp (disch := omega) only [g2a, g2o, g2n]
  have y22 : J1 57 22 = -9 := by rw [← hJ1]; simp (disch := omega) only [g2a, g2o, g2n, z22]
  have l1 := p1.1
  obtain ⟨s2, n2⟩ := step J1 1 (i + 2) 98 r1 y17 y21 y22 (by omega) (by omega)
  by_cases p2 : tOk xs (i + 2)
  rotate_left
  · rw [if_neg p2]
    obtain ⟨J, e, j, r⟩ := verse_f (L := L) (p := i + 2) hV (by omega) 2 2 95 (gu2 (gu2 J1 57 22 (nI (i + 2))) 67 (4 * fV F + 1) (nI 0)) (by omega) (by simp (disch := omega) only [g2a, g2o, g2n, y17]) (by simp (disch := omega) only [g2a, g2o, g2n])
    exact ⟨J, (n2 p2).trans e, rP_trans r1 (rP_trans (rP_57 (by omega)) (rP_trans (rP_ar (by omega)) r)), by omega, j⟩
  rw [if_pos p2]
  generalize hJ2 : gu2 (gu2 J1 57 21 (nI (i + 2 + 1))) 67 (4 * fV F + 1) (nI (tnV (xs.getD (i + 2) 0))) = J2 at s2
  have r2 : rPr I J2 := by
    rw [← hJ2]
    exact rP_trans r1 (rP_trans (rP_57 (by omega)) (rP_ar (by omega)))
  have w17 : J2 57 17 = nI (fV F) := by rw [← hJ2]; simp (disch := omega) only [g2a, g2o, g2n, y17]
  have w21 : J2 57 21 = nI (i + 3) := by rw [← hJ2]; simp (disch := omega) only [g2a, g2o, g2n]
  have w22 : J2 57 22 = -9 := by rw [← hJ2]; simp (disch := omega) only [g2a, g2o, g2n, y22]
  have l2 := p2.1
  obtain ⟨s3, n3⟩ := step J2 2 (i + 3) 97 r2 w17 w21 w22 (by omega) (by omega)
  by_cases p3 : tOk xs (i + 3)
  rotate_left
  · rw [if_neg p3]
    obtain ⟨J, e, j, r⟩ := verse_f (L := L) (p := i + 3) hV (by omega) 1 3 95 (gu2 (gu2 J2 57 22 (nI (i + 3))) 67 (4 * fV F + 2) (nI 0)) (by omega) (by simp (disch := omega) only [g2a, g2o, g2n, w17]) (by simp (disch := omega) only [g2a, g2o, g2n])
    exact ⟨J, ((s2 p2).trans (n3 p3)).trans e, rP_trans r2 (rP_trans (rP_57 (by omega)) (rP_trans (rP_ar (by omega)) r)), by omega, j⟩
  rw [if_pos p3]
  generalize hJ3 : gu2 (gu2 J2 57 21 (nI (i + 3 + 1))) 67 (4 * fV F + 2) (nI (tnV (xs.getD (i + 3) 0))) = J3 at s3
  have r3 : rPr I J3 := by
    rw [← hJ3]
    exact rP_trans r2 (rP_trans (rP_57 (by omega)) (rP_ar (by omega)))
  have u17 : J3 57 17 = nI (fV F) := by rw [← hJ3]; simp (disch := omega) only [g2a, g2o, g2n, w17]
  have u21 : J3 57 21 = nI (i + 4) := by rw [← hJ3]; simp (disch := omega) only [g2a, g2o, g2n]
  have u22 : J3 57 22 = -9 := by rw [← hJ3]; simp (disch := omega) only [g2a, g2o, g2n, w22]
  have l3 := p3.1
  obtain ⟨s4, n4⟩ := step J3 3 (i + 4) 96 r3 u17 u21 u22 (by omega) (by omega)
  by_cases p4 : tOk xs (i + 4)
  rotate_left
  · rw [if_neg p4]
    obtain ⟨J, e, j, r⟩ := verse_f (L := L) (p := i + 4) hV (by omega) 0 4 95 (gu2 (gu2 J3 57 22 (nI (i + 4))) 67 (4 * fV F + 3) (nI 0)) (by omega) (by simp (disch := omega) only [g2a, g2o, g2n, u17]) (by simp (disch := omega) only [g2a, g2o, g2n])
    exact ⟨J, ((s2 p2).trans ((s3 p3).trans (n4 p4))).trans e, rP_trans r3 (rP_trans (rP_57 (by omega)) (rP_trans (rP_ar (by omega)) r)), by omega, j⟩
  rw [if_pos p4]
  generalize hJ4 : gu2 (gu2 J3 57 21 (nI (i + 4 + 1))) 67 (4 * fV F + 3) (nI (tnV (xs.getD (i + 4) 0))) = J4 at s4
  have r4 : rPr I J4 := by
    rw [← hJ4]
    exact rP_trans r3 (rP_trans (rP_57 (by omega)) (rP_ar (by omega)))
  have v17 : J4 57 17 = nI (fV F) := by rw [← hJ4]; simp (disch := omega) only [g2a, g2o, g2n, u17]
  have oth : ∀ a j, (a ≠ 57 ∨ j ≠ 21) → a ≠ 67 → J4 a j = I a j := fun a j q w => by
    rw [← hJ4, ← hJ3, ← hJ2, ← hJ1, ← hJ0]
    by_cases e : a = 57
    · subst e
      simp (disch := omega) only [g2a, g2o, g2n]
    · simp (disch := omega) only [g2a, g2o, g2n]
  refine ⟨gu2 J4 57 17 (nI (fV F + 1)), ?_, rP_trans r4 (rP_57 (by omega)), ?_, ?_, ⟨⟨?_, ?_, ?_, ?_⟩, ?_, ?_, ?_, ?_⟩⟩
  · refine (s2 p2).trans ((s3 p3).trans ((s4 p4).trans ?_))
    rw [show (96 : Nat) = 95 + 1 from rfl, r_X8_readPart_148, if_pos (by decide), v17, n_add]
  · rw [← hJ4]
    simp (disch := omega) only [g2a, g2o, g2n]
  · rw [← hJ4]
    simp (disch := omega) only [g2a, g2o, g2n, u22]
  · rw [g2n (by decide), oth 57 14 (by omega) (by omega)]
    exact d0
  · rw [g2n (by decide), oth 57 15 (by omega) (by omega)]
    exact d1
  · rw [g2n (by decide), oth 57 16 (by omega) (by omega)]
    exact d2
  · rw [g2a]
    rfl
  · intro j hj
    rw [g2o (by decide), g2o (by decide), oth 64 _ (by omega) (by omega), oth 64 _ (by omega) (by omega)]
    exact da j hj
  · intro j hj
    rw [g2o (by decide), oth 65 _ (by omega) (by omega)]
    exact dl j hj
  · intro j hj
    rw [g2o (by decide), g2o (by decide), oth 66 _ (by omega) (by omega), oth 66 _ (by omega) (by omega)]
    exact db j hj
  · intro j hj
    have hj : j < 4 * (fV F + 1) := hj
    show _ = nI (if j = 4 * fV F then _ else if j = 4 * fV F + 1 then _ else if j = 4 * fV F + 2 then _ else if j = 4 * fV F + 3 then _ else fv F j)
    rw [g2o (by decide), ← hJ4, ← hJ3, ← hJ2, ← hJ1, ← hJ0]
    by_cases r0 : j = 4 * fV F
    · rw [if_pos r0, r0]
      simp (disch := omega) only [g2a, g2o, g2n, Nat.add_zero]
    · rw [if_neg r0]
      by_cases r1 : j = 4 * fV F + 1
      · rw [if_pos r1, r1]
        simp (disch := omega) only [g2a, g2o, g2n]
      · rw [if_neg r1]
        by_cases r2 : j = 4 * fV F + 2
        · rw [if_pos r2, r2]
          simp (disch := omega) only [g2a, g2o, g2n]
        · rw [if_neg r2]
          by_cases r3 : j = 4 * fV F + 3
          · rw [if_pos r3, r3]
            simp (disch := omega) only [g2a, g2o, g2n]
          · rw [if_neg r3]
            simp (disch := omega) only [g2a, g2o, g2n]
            exact dv j (by omega)
theorem partN_r {I : gII} {L : gLL} {i x : Nat} {xs : List Nat} {F : TFen} {nt : Nat → Nat} (hx : x < 256) (h21 : I 57 21 = nI i) (hin : i < xs.length) (hD : rDr I F nt) (hF : okF F) (n1 : ¬ (x = 71 ∧ fG F < 5)) (n2 : ¬ (x = 76 ∧ fL F < 3 ∧ 0 < fG F)) (n3 : ¬ (x = 66 ∧ fB F < 5)) (n4 : ¬ (x = 86 ∧ fV F < 2)) : r_X8_readPart I L (nI x) = some (0, gu2 I 57 22 (nI i), L) := by
  have hG := hF.1
  have hL := hF.2.1
  have hB := hF.2.2.1
  have hV := hF.2.2.2.1
  obtain ⟨⟨d0, d1, d2, d3⟩, -⟩ := hD
  have e172 : r_X8_readPart_172 I L = some (0, gu2 I 57 22 (nI i), L) := by
    unfold r_X8_readPart_172
    rw [h21]
  have e133 : r_X8_readPart_133 (nI x) I L = some (0, gu2 I 57 22 (nI i), L) := by
    unfold r_X8_readPart_133
    rw [e172, d3]
    simp (disch := omega) only [n_le, n_lt, n_eq, n_eq0, n_0lt, n_le0, n_lt0, n_0le, n_gvp, n_gx, n_add, n_mul, decide_eq_true_eq, Option.bind_some, if_false, if_true, not_false_eq_true, not_true_eq_false]
    by_cases q : x = 86
    · rw [if_neg (fun h => h q), if_pos (by omega)]
    · rw [if_pos q]
  have e89 : r_X8_readPart_89 (nI x) I L = some (0, gu2 I 57 22 (nI i), L) := by
    unfold r_X8_readPart_89
    rw [e133]
    by_cases q : x = 66
    · rw [if_neg (show ¬ ¬ nI x = nI 66 from fun h => h (by rw [q])), d2, if_pos (show nI 5 ≤ nI (fB F) by simp (disch := omega) only [n_le, n_lt, n_eq, n_eq0, n_0lt, n_le0, n_lt0, n_0le, n_gvp, n_gx, n_add, n_mul, decide_eq_true_eq, Option.bind_some, if_false, if_true, not_false_eq_true, not_true_eq_false]; omega)]
    · rw [if_pos (show ¬ nI x = nI 66 by rw [n_eq (by omega) (by omega)]; exact q)]
  have e43 : r_X8_readPart_43 (nI x) I L = some (0, gu2 I 57 22 (nI i), L) := by
    unfold r_X8_readPart_43
    rw [e89]
    by_cases q : x = 76
    · rw [if_neg (show ¬ ¬ nI x = nI 76 from fun h => h (by rw [q])), d1, d0]
      by_cases w : 3 ≤ fL F
      · rw [if_pos (show nI 3 ≤ nI (fL F) by simp (disch := omega) only [n_le, n_lt, n_eq, n_eq0, n_0lt, n_le0, n_lt0, n_0le, n_gvp, n_gx, n_add, n_mul, decide_eq_true_eq, Option.bind_some, if_false, if_true, not_false_eq_true, not_true_eq_false]; omega)]
      · rw [if_neg (show ¬ nI 3 ≤ nI (fL F) by simp (disch := omega) only [n_le, n_lt, n_eq, n_eq0, n_0lt, n_le0, n_lt0, n_0le, n_gvp, n_gx, n_add, n_mul, decide_eq_true_eq, Option.bind_some, if_false, if_true, not_false_eq_true, not_true_eq_false]; omega), if_pos (show nI (fG F) ≤ 0 by rw [n_le0 (by omega)]; omega)]
    · rw [if_pos (show ¬ nI x = nI 76 by rw [n_eq (by omega) (by omega)]; exact q)]
  unfold r_X8_readPart
  rw [e43]
  by_cases q : x = 71
  · rw [if_neg (show ¬ ¬ nI x = nI 71 from fun h => h (by rw [q])), d0, if_pos (show nI 5 ≤ nI (fG F) by simp (disch := omega) only [n_le, n_lt, n_eq, n_eq0, n_0lt, n_le0, n_lt0, n_0le, n_gvp, n_gx, n_add, n_mul, decide_eq_true_eq, Option.bind_some, if_false, if_true, not_false_eq_true, not_true_eq_false]; omega)]
  · rw [if_pos (show ¬ nI x = nI 71 by rw [n_eq (by omega) (by omega)]; exact q)]
theorem pst_r {I : gII} {L : gLL} {i : Nat} {xs : List Nat} {F : TFen} {nt : Nat → Nat} (h60 : xs.length ≤ 60) (hx : ∀ t ∈ xs, t < 256) (ht : rLet I xs) (h21 : I 57 21 = nI i) (h22 : I 57 22 = -9) (hin : i < xs.length) (hD : rDr I F nt) (hF : okF F) : ∃ J, r_X8_readPart I L (nI (xs.getD i 0)) = some (0, J, L) ∧ partR xs I J (pst xs i F nt) := by
  unfold pst
  by_cases q1 : xs.getD i 0 = 71 ∧ fG F < 5
  · rw [if_pos q1, q1.1]
    exact partG_r h60 hx ht h21 h22 hin hD q1.2
  rw [if_neg q1]
  by_cases q2 : xs.getD i 0 = 76 ∧ fL F < 3 ∧ 0 < fG F
  · rw [if_pos q2, q2.1]
    exact partL_r h60 hx ht h21 h22 hin hD hF q2.2.1 q2.2.2
  rw [if_neg q2]
  by_cases q3 : xs.getD i 0 = 66 ∧ fB F < 5
  · rw [if_pos q3, q3.1]
    exact partB_r h60 hx ht h21 h22 hin hD q3.2
  rw [if_neg q3]
  by_cases q4 : xs.getD i 0 = 86 ∧ fV F < 2
  · rw [if_pos q4, q4.1]
    exact partV_r h60 hx ht h21 h22 hin hD q4.2
  rw [if_neg q4]
  exact ⟨_, partN_r (xlt hx hin) h21 hin hD hF q1 q2 q3 q4, rP_57 (by omega), by omega, g2a⟩
