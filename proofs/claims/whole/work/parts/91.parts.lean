/-! LANES and VERSES (class) -/
theorem partL_c {I : gII} {L : gLL} {g i : Nat} {xs : List Nat} {F : TFen} {nt : Nat → Nat} (hg : gfe g = true) (h60 : xs.length ≤ 60) (hx : ∀ t ∈ xs, t < 256) (ht : cLet I xs) (hi : 2 ≤ i) (hin : i < xs.length) (hD : cDr I g F nt) (ok : okD F nt) (h11 : I g 11 = nI 0) (hc : xs.getD i 0 = 76) (hL : fL F < 3) (hG0 : 0 < fG F) : partC g xs i I L (pL xs i F nt) := by
  have hgg := gfe_or hg
  have hG := ok.1.1
  obtain ⟨⟨d0, d1, d2, d3, dk, dl, dw, db, dv⟩, dn⟩ := hD
  have ms : f_X1_mayStart (gu2 (gu2 I g 11 (nI 76)) g 12 (nI 0)) L g (nI 76) = nI 1 := mayL (by simp (disch := omega) only [g2a, g2o, g2n, d0]) (by simp (disch := omega) only [g2a, g2o, g2n, d1]) hL hG0 hG
  have e0 : rdC g xs i I L = rdC g xs (i + 1) (gu2 (gu2 I g 11 (nI 76)) g 12 (nI 0)) L := startC h60 ht hin (by rw [hc]; exact tk_st hi (by omega) h11 (by omega) ms)
  have t1 : cLet (gu2 (gu2 I g 11 (nI 76)) g 12 (nI 0)) xs := fun j hj => by
    simp (disch := omega) only [g2a, g2o, g2n, ht j hj]
  generalize hI1 : gu2 (gu2 I g 11 (nI 76)) g 12 (nI 0) = I1 at e0 t1
  have a0 : I1 g 0 = nI (fG F) := by rw [← hI1]; simp (disch := omega) only [g2a, g2o, g2n, d0]
  have a1 : I1 g 1 = nI (fL F) := by rw [← hI1]; simp (disch := omega) only [g2a, g2o, g2n, d1]
  have a11 : I1 g 11 = nI 76 := by rw [← hI1]; simp (disch := omega) only [g2a, g2o, g2n]
  have a12 : I1 g 12 = nI 0 := by rw [← hI1]; simp (disch := omega) only [g2a, g2o, g2n]
  have k1 : ∀ a j, (a ≠ g ∨ (j ≠ 11 ∧ j ≠ 12)) → I1 a j = I a j := fun a j q => by
    rw [← hI1]
    by_cases w : a = g
    · subst w
      simp (disch := omega) only [g2a, g2o, g2n]
    · simp (disch := omega) only [g2a, g2o, g2n]
  rcases itemC (L := L) h60 t1 (show i + 1 ≤ xs.length by omega) (by omega) a11 (by decide) (by decide) (fun x => 48 + 0 ≤ x ∧ x ≤ 48 + (fG F - 1)) (gu2 (gu2 I1 (g + 3) (fL F * 3 + 0) (nI (xs.getD (i + 1) 0 - 48))) g 12 (nI 1))
    (fun q w => tk_go (by omega) (by omega) a11 (by decide) (by decide) (by omega) (go_76 a11 (by omega) (by rw [tl_ok a0 hG a1 hL a12 (by omega) (xlt hx q) (by omega), if_neg (by decide)])))
    (fun q w => ⟨_, tk_go (by omega) (by omega) a11 (by decide) (by decide) (by omega) (go_76 a11 (by omega) (by rw [tl_no a0 hG a1 hL a12 (by omega) (xlt hx q) (by omega)]))⟩) with ⟨q1, w1, e1⟩ | ⟨f1, J, e1⟩
  rotate_left
  · have p1 : ¬ fOk xs 0 (fG F - 1) (i + 1) := f1
    unfold pL
    rw [if_neg p1]
    exact ⟨by omega, J, e0.trans e1⟩
  have p1 : fOk xs 0 (fG F - 1) (i + 1) := ⟨q1, w1⟩
  generalize hI2 : gu2 (gu2 I1 (g + 3) (fL F * 3 + 0) (nI (xs.getD (i + 1) 0 - 48))) g 12 (nI 1) = I2 at e1
  have b0 : I2 g 0 = nI (fG F) := by rw [← hI2]; simp (disch := omega) only [g2a, g2o, g2n, a0]
  have b1 : I2 g 1 = nI (fL F) := by rw [← hI2]; simp (disch := omega) only [g2a, g2o, g2n, a1]
  have b11 : I2 g 11 = nI 76 := by rw [← hI2]; simp (disch := omega) only [g2a, g2o, g2n, a11]
  have b12 : I2 g 12 = nI 1 := by rw [← hI2]; simp (disch := omega) only [g2a, g2o, g2n]
  have t2 : cLet I2 xs := fun j hj => by rw [← hI2]; simp (disch := omega) only [g2a, g2o, g2n, t1 j hj]
  rcases itemC (L := L) h60 t2 (show i + 1 + 1 ≤ xs.length by omega) (by omega) b11 (by decide) (by decide) (fun x => 48 + 0 ≤ x ∧ x ≤ 48 + (fG F - 1)) (gu2 (gu2 I2 (g + 3) (fL F * 3 + 1) (nI (xs.getD (i + 1 + 1) 0 - 48))) g 12 (nI 2))
    (fun q w => tk_go (by omega) (by omega) b11 (by decide) (by decide) (by omega) (go_76 b11 (by omega) (by rw [tl_ok b0 hG b1 hL b12 (by omega) (xlt hx q) (by omega), if_neg (by decide)])))
    (fun q w => ⟨_, tk_go (by omega) (by omega) b11 (by decide) (by decide) (by omega) (go_76 b11 (by omega) (by rw [tl_no b0 hG b1 hL b12 (by omega) (xlt hx q) (by omega)]))⟩) with ⟨q2, w2, e2⟩ | ⟨f2, J, e2⟩
  rotate_left
  · have p2 : ¬ fOk xs 0 (fG F - 1) (i + 2) := f2
    unfold pL
    rw [if_pos p1, if_neg p2]
    exact ⟨by omega, J, e0.trans (e1.trans e2)⟩
  have p2 : fOk xs 0 (fG F - 1) (i + 2) := ⟨q2, w2⟩
  generalize hI3 : gu2 (gu2 I2 (g + 3) (fL F * 3 + 1) (nI (xs.getD (i + 1 + 1) 0 - 48))) g 12 (nI 2) = I3 at e2
  have c0 : I3 g 0 = nI (fG F) := by rw [← hI3]; simp (disch := omega) only [g2a, g2o, g2n, b0]
  have c1 : I3 g 1 = nI (fL F) := by rw [← hI3]; simp (disch := omega) only [g2a, g2o, g2n, b1]
  have c11 : I3 g 11 = nI 76 := by rw [← hI3]; simp (disch := omega) only [g2a, g2o, g2n, b11]
  have c12 : I3 g 12 = nI 2 := by rw [← hI3]; simp (disch := omega) only [g2a, g2o, g2n]
  have t3 : cLet I3 xs := fun j hj => by rw [← hI3]; simp (disch := omega) only [g2a, g2o, g2n, t2 j hj]
  rcases itemC (L := L) h60 t3 (show i + 1 + 1 + 1 ≤ xs.length by omega) (by omega) c11 (by decide) (by decide) (fun x => 48 + 0 ≤ x ∧ x ≤ 48 + (fG F - 1)) (gu2 (gu2 (gu2 (gu2 I3 (g + 3) (fL F * 3 + 2) (nI (xs.getD (i + 1 + 1 + 1) 0 - 48))) g 12 (nI 3)) g 1 (nI (fL F + 1))) g 11 (nI 0))
    (fun q w => tk_go (by omega) (by omega) c11 (by decide) (by decide) (by omega) (go_76 c11 (by omega) (by rw [tl_ok c0 hG c1 hL c12 (by omega) (xlt hx q) (by omega), if_pos rfl])))
    (fun q w => ⟨_, tk_go (by omega) (by omega) c11 (by decide) (by decide) (by omega) (go_76 c11 (by omega) (by rw [tl_no c0 hG c1 hL c12 (by omega) (xlt hx q) (by omega)]))⟩) with ⟨q3, w3, e3⟩ | ⟨f3, J, e3⟩
  rotate_left
  · have p3 : ¬ fOk xs 0 (fG F - 1) (i + 3) := f3
    unfold pL
    rw [if_pos p1, if_pos p2, if_neg p3]
    exact ⟨by omega, J, e0.trans (e1.trans (e2.trans e3))⟩
  have p3 : fOk xs 0 (fG F - 1) (i + 3) := ⟨q3, w3⟩
  unfold pL
  rw [if_pos p1, if_pos p2, if_pos p3]
  have w1' : 48 ≤ xs.getD (i + 1) 0 ∧ xs.getD (i + 1) 0 ≤ 48 + (fG F - 1) := w1
  have w2' : 48 ≤ xs.getD (i + 2) 0 ∧ xs.getD (i + 2) 0 ≤ 48 + (fG F - 1) := w2
  have w3' : 48 ≤ xs.getD (i + 3) 0 ∧ xs.getD (i + 3) 0 ≤ 48 + (fG F - 1) := w3
  have oth : ∀ a j, (a ≠ g ∨ (j ≠ 1 ∧ j ≠ 11 ∧ j ≠ 12)) → a ≠ g + 3 → gu2 (gu2 (gu2 (gu2 I3 (g + 3) (fL F * 3 + 2) (nI (xs.getD (i + 1 + 1 + 1) 0 - 48))) g 12 (nI 3)) g 1 (nI (fL F + 1))) g 11 (nI 0) a j = I a j := fun a j q w => by
    rw [← hI3, ← hI2]
    by_cases e : a = g
    · subst e
      simp (disch := omega) only [g2a, g2o, g2n]
      exact k1 a j (by omega)
    · simp (disch := omega) only [g2a, g2o, g2n]
      exact k1 a j (by omega)
  refine ⟨⟨by show i < i + 4; omega, by show i + 4 ≤ xs.length; omega⟩, addL_ok ok hL (by omega) (by omega) (by omega), _, e0.trans (e1.trans (e2.trans e3)), ⟨⟨?_, ?_, ?_, ?_, ?_, ?_, ?_, ?_, ?_⟩, ?_⟩, g2a, oth g 4 (by omega) (by omega), ?_⟩
  · exact (oth g 0 (by omega) (by omega)).trans d0
  · simp (disch := omega) only [g2a, g2o, g2n]
    rfl
  · exact (oth g 2 (by omega) (by omega)).trans d2
  · exact (oth g 3 (by omega) (by omega)).trans d3
  · exact fun j hj => (oth (g + 2) j (by omega) (by omega)).trans (dk j hj)
  · intro j hj
    have hj : j < 3 * (fL F + 1) := hj
    show _ = nI (if j = 3 * fL F then _ else if j = 3 * fL F + 1 then _ else if j = 3 * fL F + 2 then _ else fl F j)
    rw [← hI3, ← hI2]
    by_cases r0 : j = 3 * fL F
    · rw [if_pos r0, r0, show 3 * fL F = fL F * 3 + 0 by omega]
      simp (disch := omega) only [g2a, g2o, g2n]
    · rw [if_neg r0]
      by_cases r1 : j = 3 * fL F + 1
      · rw [if_pos r1, r1, show 3 * fL F + 1 = fL F * 3 + 1 by omega]
        simp (disch := omega) only [g2a, g2o, g2n]
      · rw [if_neg r1]
        by_cases r2 : j = 3 * fL F + 2
        · rw [if_pos r2, r2, show 3 * fL F + 2 = fL F * 3 + 2 by omega]
          simp (disch := omega) only [g2a, g2o, g2n]
        · rw [if_neg r2]
          simp (disch := omega) only [g2a, g2o, g2n]
          rw [k1 (g + 3) j (by omega)]
          exact dl j (by omega)
  · exact fun j hj => (oth (g + 4) j (by omega) (by omega)).trans (dw j hj)
  · exact fun j hj => (oth (g + 5) j (by omega) (by omega)).trans (db j hj)
  · exact fun j hj => (oth (g + 6) j (by omega) (by omega)).trans (dv j hj)
  · exact fun j hj => (oth (g + 1) j (by omega) (by omega)).trans (dn j hj)
  · intro a ha
    funext j
    exact oth a j (by omega) (by omega)
theorem partV_c {I : gII} {L : gLL} {g i : Nat} {xs : List Nat} {F : TFen} {nt : Nat → Nat} (hg : gfe g = true) (h60 : xs.length ≤ 60) (hx : ∀ t ∈ xs, t < 256) (ht : cLet I xs) (hi : 2 ≤ i) (hin : i < xs.length) (hD : cDr I g F nt) (ok : okD F nt) (h11 : I g 11 = nI 0) (hc : xs.getD i 0 = 86) (hV : fV F < 2) : partC g xs i I L (pV xs i F nt) := by
  have hgg := gfe_or hg
  obtain ⟨⟨d0, d1, d2, d3, dk, dl, dw, db, dv⟩, dn⟩ := hD
  have ms : f_X1_mayStart (gu2 (gu2 I g 11 (nI 86)) g 12 (nI 0)) L g (nI 86) = nI 1 := mayV (by simp (disch := omega) only [g2a, g2o, g2n, d3]) hV
  have e0 : rdC g xs i I L = rdC g xs (i + 1) (gu2 (gu2 I g 11 (nI 86)) g 12 (nI 0)) L := startC h60 ht hin (by rw [hc]; exact tk_st hi (by omega) h11 (by omega) ms)
  have t1 : cLet (gu2 (gu2 I g 11 (nI 86)) g 12 (nI 0)) xs := fun j hj => by
    simp (disch := omega) only [g2a, g2o, g2n, ht j hj]
  generalize hI1 : gu2 (gu2 I g 11 (nI 86)) g 12 (nI 0) = I1 at e0 t1
  have a1 : I1 g 3 = nI (fV F) := by rw [← hI1]; simp (disch := omega) only [g2a, g2o, g2n, d3]
  have a11 : I1 g 11 = nI 86 := by rw [← hI1]; simp (disch := omega) only [g2a, g2o, g2n]
  have a12 : I1 g 12 = nI 0 := by rw [← hI1]; simp (disch := omega) only [g2a, g2o, g2n]
  have k1 : ∀ a j, (a ≠ g ∨ (j ≠ 11 ∧ j ≠ 12)) → I1 a j = I a j := fun a j q => by
    rw [← hI1]
    by_cases w : a = g
    · subst w
      simp (disch := omega) only [g2a, g2o, g2n]
    · simp (disch := omega) only [g2a, g2o, g2n]
  rcases itemC (L := L) h60 t1 (show i + 1 ≤ xs.length by omega) (by omega) a11 (by decide) (by decide) (fun x => x = 45 ∨ (97 ≤ x ∧ x ≤ 108)) (gu2 (gu2 I1 (g + 6) (fV F * 4 + 0) (nI (tnV (xs.getD (i + 1) 0)))) g 12 (nI 1))
    (fun q w => tk_go (by omega) (by omega) a11 (by decide) (by decide) (by omega) (go_86 a11 (by omega) (by rw [tv_ok a1 hV a12 (by omega) (xlt hx q) w, if_neg (by decide)])))
    (fun q w => ⟨_, tk_go (by omega) (by omega) a11 (by decide) (by decide) (by omega) (go_86 a11 (by omega) (by rw [tv_no a1 hV a12 (by omega) (xlt hx q) w]))⟩) with ⟨q1, w1, e1⟩ | ⟨f1, J, e1⟩
  rotate_left
  · have p1 : ¬ tOk xs (i + 1) := f1
    unfold pV
    rw [if_neg p1]
    exact ⟨by omega, J, e0.trans e1⟩
  have p1 : tOk xs (i + 1) := ⟨q1, w1⟩
  generalize hI2 : gu2 (gu2 I1 (g + 6) (fV F * 4 + 0) (nI (tnV (xs.getD (i + 1) 0)))) g 12 (nI 1) = I2 at e1
  have b1 : I2 g 3 = nI (fV F) := by rw [← hI2]; simp (disch := omega) only [g2a, g2o, g2n, a1]
  have b11 : I2 g 11 = nI 86 := by rw [← hI2]; simp (disch := omega) only [g2a, g2o, g2n, a11]
  have b12 : I2 g 12 = nI 1 := by rw [← hI2]; simp (disch := omega) only [g2a, g2o, g2n]
  have t2 : cLet I2 xs := fun j hj => by rw [← hI2]; simp (disch := omega) only [g2a, g2o, g2n, t1 j hj]
  rcases itemC (L := L) h60 t2 (show i + 1 + 1 ≤ xs.length by omega) (by omega) b11 (by decide) (by decide) (fun x => x = 45 ∨ (97 ≤ x ∧ x ≤ 108)) (gu2 (gu2 I2 (g + 6) (fV F * 4 + 1) (nI (tnV (xs.getD (i + 1 + 1) 0)))) g 12 (nI 2))
    (fun q w => tk_go (by omega) (by omega) b11 (by decide) (by decide) (by omega) (go_86 b11 (by omega) (by rw [tv_ok b1 hV b12 (by omega) (xlt hx q) w, if_neg (by decide)])))
    (fun q w => ⟨_, tk_go (by omega) (by omega) b11 (by decide) (by decide) (by omega) (go_86 b11 (by omega) (by rw [tv_no b1 hV b12 (by omega) (xlt hx q) w]))⟩) with ⟨q2, w2, e2⟩ | ⟨f2, J, e2⟩
  rotate_left
  · have p2 : ¬ tOk xs (i + 2) := f2
    unfold pV
    rw [if_pos p1, if_neg p2]
    exact ⟨by omega, J, e0.trans (e1.trans e2)⟩
  have p2 : tOk xs (i + 2) := ⟨q2, w2⟩
  generalize hI3 : gu2 (gu2 I2 (g + 6) (fV F * 4 + 1) (nI (tnV (xs.getD (i + 1 + 1) 0)))) g 12 (nI 2) = I3 at e2
  have c1 : I3 g 3 = nI (fV F) := by rw [← hI3]; simp (disch := omega) only [g2a, g2o, g2n, b1]
  have c11 : I3 g 11 = nI 86 := by rw [← hI3]; simp (disch := omega) only [g2a, g2o, g2n, b11]
  have c12 : I3 g 12 = nI 2 := by rw [← hI3]; simp (disch := omega) only [g2a, g2o, g2n]
  have t3 : cLet I3 xs := fun j hj => by rw [← hI3]; simp (disch := omega) only [g2a, g2o, g2n, t2 j hj]
  rcases itemC (L := L) h60 t3 (show i + 1 + 1 + 1 ≤ xs.length by omega) (by omega) c11 (by decide) (by decide) (fun x => x = 45 ∨ (97 ≤ x ∧ x ≤ 108)) (gu2 (gu2 I3 (g + 6) (fV F * 4 + 2) (nI (tnV (xs.getD (i + 1 + 1 + 1) 0)))) g 12 (nI 3))
    (fun q w => tk_go (by omega) (by omega) c11 (by decide) (by decide) (by omega) (go_86 c11 (by omega) (by rw [tv_ok c1 hV c12 (by omega) (xlt hx q) w, if_neg (by decide)])))
    (fun q w => ⟨_, tk_go (by omega) (by omega) c11 (by decide) (by decide) (by omega) (go_86 c11 (by omega) (by rw [tv_no c1 hV c12 (by omega) (xlt hx q) w]))⟩) with ⟨q3, w3, e3⟩ | ⟨f3, J, e3⟩
  rotate_left
  · have p3 : ¬ tOk xs (i + 3) := f3
    unfold pV
    rw [if_pos p1, if_pos p2, if_neg p3]
    exact ⟨by omega, J, e0.trans (e1.trans (e2.trans e3))⟩
  have p3 : tOk xs (i + 3) := ⟨q3, w3⟩
  generalize hI4 : gu2 (gu2 I3 (g + 6) (fV F * 4 + 2) (nI (tnV (xs.getD (i + 1 + 1 + 1) 0)))) g 12 (nI 3) = I4 at e3
  have f1 : I4 g 3 = nI (fV F) := by rw [← hI4]; simp (disch := omega) only [g2a, g2o, g2n, c1]
  have f11 : I4 g 11 = nI 86 := by rw [← hI4]; simp (disch := omega) only [g2a, g2o, g2n, c11]
  have f12 : I4 g 12 = nI 3 := by rw [← hI4]; simp (disch := omega) only [g2a, g2o, g2n]
  have t4 : cLet I4 xs := fun j hj => by rw [← hI4]; simp (disch := omega) only [g2a, g2o, g2n, t3 j hj]
  rcases itemC (L := L) h60 t4 (show i + 1 + 1 + 1 + 1 ≤ xs.length by omega) (by omega) f11 (by decide) (by decide) (fun x => x = 45 ∨ (97 ≤ x ∧ x ≤ 108)) (gu2 (gu2 (gu2 (gu2 I4 (g + 6) (fV F * 4 + 3) (nI (tnV (xs.getD (i + 1 + 1 + 1 + 1) 0)))) g 12 (nI 4)) g 3 (nI (fV F + 1))) g 11 (nI 0))
    (fun q w => tk_go (by omega) (by omega) f11 (by decide) (by decide) (by omega) (go_86 f11 (by omega) (by rw [tv_ok f1 hV f12 (by omega) (xlt hx q) w, if_pos rfl])))
    (fun q w => ⟨_, tk_go (by omega) (by omega) f11 (by decide) (by decide) (by omega) (go_86 f11 (by omega) (by rw [tv_no f1 hV f12 (by omega) (xlt hx q) w]))⟩) with ⟨q4, w4, e4⟩ | ⟨f4, J, e4⟩
  rotate_left
  · have p4 : ¬ tOk xs (i + 4) := f4
    unfold pV
    rw [if_pos p1, if_pos p2, if_pos p3, if_neg p4]
    exact ⟨by omega, J, e0.trans (e1.trans (e2.trans (e3.trans e4)))⟩
  have p4 : tOk xs (i + 4) := ⟨q4, w4⟩
  unfold pV
  rw [if_pos p1, if_pos p2, if_pos p3, if_pos p4]
  have tl : ∀ {x : Nat}, (x = 45 ∨ (97 ≤ x ∧ x ≤ 108)) → tnV x ≤ 12 := fun {x} h => by
    unfold tnV
    split <;> omega
  have oth : ∀ a j, (a ≠ g ∨ (j ≠ 3 ∧ j ≠ 11 ∧ j ≠ 12)) → a ≠ g + 6 → gu2 (gu2 (gu2 (gu2 I4 (g + 6) (fV F * 4 + 3) (nI (tnV (xs.getD (i + 1 + 1 + 1 + 1) 0)))) g 12 (nI 4)) g 3 (nI (fV F + 1))) g 11 (nI 0) a j = I a j := fun a j q w => by
    rw [← hI4, ← hI3, ← hI2]
    by_cases e : a = g
    · subst e
      simp (disch := omega) only [g2a, g2o, g2n]
      exact k1 a j (by omega)
    · simp (disch := omega) only [g2a, g2o, g2n]
      exact k1 a j (by omega)
  refine ⟨⟨by show i < i + 5; omega, by show i + 5 ≤ xs.length; omega⟩, addV_ok ok hV (tl w1) (tl w2) (tl w3) (tl w4), _, e0.trans (e1.trans (e2.trans (e3.trans e4))), ⟨⟨?_, ?_, ?_, ?_, ?_, ?_, ?_, ?_, ?_⟩, ?_⟩, g2a, oth g 4 (by omega) (by omega), ?_⟩
  · exact (oth g 0 (by omega) (by omega)).trans d0
  · exact (oth g 1 (by omega) (by omega)).trans d1
  · exact (oth g 2 (by omega) (by omega)).trans d2
  · simp (disch := omega) only [g2a, g2o, g2n]
    rfl
  · exact fun j hj => (oth (g + 2) j (by omega) (by omega)).trans (dk j hj)
  · exact fun j hj => (oth (g + 3) j (by omega) (by omega)).trans (dl j hj)
  · exact fun j hj => (oth (g + 4) j (by omega) (by omega)).trans (dw j hj)
  · exact fun j hj => (oth (g + 5) j (by omega) (by omega)).trans (db j hj)
  · intro j hj
    have hj : j < 4 * (fV F + 1) := hj
    show _ = nI (if j = 4 * fV F then _ else if j = 4 * fV F + 1 then _ else if j = 4 * fV F + 2 then _ else if j = 4 * fV F + 3 then _ else fv F j)
    rw [← hI4, ← hI3, ← hI2]
    by_cases r0 : j = 4 * fV F
    · rw [if_pos r0, r0, show 4 * fV F = fV F * 4 + 0 by omega]
      simp (disch := omega) only [g2a, g2o, g2n]
    · rw [if_neg r0]
      by_cases r1 : j = 4 * fV F + 1
      · rw [if_pos r1, r1, show 4 * fV F + 1 = fV F * 4 + 1 by omega]
        simp (disch := omega) only [g2a, g2o, g2n]
      · rw [if_neg r1]
        by_cases r2 : j = 4 * fV F + 2
        · rw [if_pos r2, r2, show 4 * fV F + 2 = fV F * 4 + 2 by omega]
          simp (disch := omega) only [g2a, g2o, g2n]
        · rw [if_neg r2]
          by_cases r3 : j = 4 * fV F + 3
          · rw [if_pos r3, r3, show 4 * fV F + 3 = fV F * 4 + 3 by omega]
            simp (disch := omega) only [g2a, g2o, g2n]
          · rw [if_neg r3]
            simp (disch := omega) only [g2a, g2o, g2n]
            rw [k1 (g + 6) j (by omega)]
            exact dv j (by omega)
  · exact fun j hj => (oth (g + 1) j (by omega) (by omega)).trans (dn j hj)
  · intro a ha
    funext j
    exact oth a j (by omega) (by omega)
theorem mayNo {I : gII} {L : gLL} {g x : Nat} {F : TFen} (hx : x < 256) (d0 : I g 0 = nI (fG F)) (d1 : I g 1 = nI (fL F)) (d2 : I g 2 = nI (fB F)) (d3 : I g 3 = nI (fV F)) (hF : okF F) (n1 : ¬ (x = 71 ∧ fG F < 5)) (n2 : ¬ (x = 76 ∧ fL F < 3 ∧ 0 < fG F)) (n3 : ¬ (x = 66 ∧ fB F < 5)) (n4 : ¬ (x = 86 ∧ fV F < 2)) : f_X1_mayStart I L g (nI x) = nI 0 := by
  have hG := hF.1
  have hL := hF.2.1
  have hB := hF.2.2.1
  have hV := hF.2.2.2.1
  unfold f_X1_mayStart
  rw [d0, d1, d2, d3]
  simp (disch := omega) only [n_le, n_lt, n_eq, n_eq0, n_0lt, n_le0, n_lt0, n_0le, n_gvp, n_gx, n_add, n_mul, decide_eq_true_eq, Option.bind_some, if_false, if_true, not_false_eq_true, not_true_eq_false]
  by_cases q66 : x = 66
  · rw [if_pos q66, if_neg (show ¬ false = true by decide), if_pos q66, if_pos (by omega)]
  · rw [if_neg q66]
    by_cases q71 : x = 71
    · rw [if_pos q71, if_pos rfl, if_pos (by omega)]
    · rw [if_neg q71, if_neg (show ¬ false = true by decide), if_neg q66]
      by_cases q76 : x = 76
      · rw [if_pos q76]
        by_cases w : 3 ≤ fL F
        · rw [if_pos w]
        · rw [if_neg w, if_pos (by omega)]
      · rw [if_neg q76]
        by_cases q86 : x = 86
        · rw [if_pos q86, if_pos (by omega)]
        · rw [if_neg q86]
theorem pst_c {I : gII} {L : gLL} {g i : Nat} {xs : List Nat} {F : TFen} {nt : Nat → Nat} (hg : gfe g = true) (h60 : xs.length ≤ 60) (hx : ∀ t ∈ xs, t < 256) (ht : cLet I xs) (hi : 2 ≤ i) (hin : i < xs.length) (hD : cDr I g F nt) (ok : okD F nt) (h11 : I g 11 = nI 0) : partC g xs i I L (pst xs i F nt) := by
  unfold pst
  by_cases q1 : xs.getD i 0 = 71 ∧ fG F < 5
  · rw [if_pos q1]
    exact partG_c hg h60 hx ht hi hin hD ok h11 q1.1 q1.2
  rw [if_neg q1]
  by_cases q2 : xs.getD i 0 = 76 ∧ fL F < 3 ∧ 0 < fG F
  · rw [if_pos q2]
    exact partL_c hg h60 hx ht hi hin hD ok h11 q2.1 q2.2.1 q2.2.2
  rw [if_neg q2]
  by_cases q3 : xs.getD i 0 = 66 ∧ fB F < 5
  · rw [if_pos q3]
    exact partB_c hg h60 hx ht hi hin hD ok h11 q3.1 q3.2
  rw [if_neg q3]
  by_cases q4 : xs.getD i 0 = 86 ∧ fV F < 2
  · rw [if_pos q4]
    exact partV_c hg h60 hx ht hi hin hD ok h11 q4.1 q4.2
  rw [if_neg q4]
  have hgg := gfe_or hg
  have hxx := xlt hx hin
  obtain ⟨d0, d1, d2, d3, -⟩ := hD.1
  refine ⟨by omega, gu2 (gu2 I g 11 (nI (xs.getD i 0))) g 12 (nI 0), ?_⟩
  have e : 100 - i = (100 - (i + 1)) + 1 := by omega
  unfold rdC
  rw [e]
  refine rd_no h60 ht hin (tk_st hi (by omega) h11 (by omega) ?_)
  exact mayNo hxx (by simp (disch := omega) only [g2a, g2o, g2n, d0]) (by simp (disch := omega) only [g2a, g2o, g2n, d1]) (by simp (disch := omega) only [g2a, g2o, g2n, d2]) (by simp (disch := omega) only [g2a, g2o, g2n, d3]) ok.1 q1 q2 q3 q4
theorem psr_c {L : gLL} {g : Nat} {xs : List Nat} (hg : gfe g = true) (h60 : xs.length ≤ 60) (hx : ∀ t ∈ xs, t < 256) : ∀ k i F nt (I : gII), xs.length < i + k → i ≤ xs.length → 2 ≤ i → cLet I xs → cDr I g F nt → okD F nt → I g 11 = nI 0 → ∃ J, rdC g xs i I L = some ((psr xs k i F nt).1, J, L) ∧ ((psr xs k i F nt).1 = -9 → okD (psr xs k i F nt).2.1 (psr xs k i F nt).2.2 ∧ cDr J g (psr xs k i F nt).2.1 (psr xs k i F nt).2.2 ∧ J g 4 = I g 4) := by
  have hgg := gfe_or hg
  intro k
  induction k with
  | zero =>
    intro i F nt I h1 h2
    omega
  | succ k ih =>
    intro i F nt I h1 h2 h3 ht hD ok h11
    rw [psr]
    by_cases q : i = xs.length
    · rw [if_pos q]
      subst q
      refine ⟨I, ?_, fun _ => ⟨ok, hD, rfl⟩⟩
      have e : 100 - xs.length = (99 - xs.length) + 1 := by omega
      unfold rdC
      rw [e, rd_end h60 h11 (by decide), if_neg (by omega), if_pos rfl]
    · rw [if_neg q]
      have st := pst_c (L := L) hg h60 hx ht h3 (by omega) hD ok h11
      cases hp : pst xs i F nt with
      | inl p =>
        rw [hp] at st
        obtain ⟨hle, J, e⟩ := st
        refine ⟨J, e, fun h => ?_⟩
        exact absurd h (m9 (by omega))
      | inr w =>
        rw [hp] at st
        obtain ⟨⟨s1, s2⟩, s3, J, e, s4, s5, s6, s7⟩ := st
        obtain ⟨J2, e2, f2⟩ := ih w.1 w.2.1 w.2.2 J (by omega) s2 (by omega) (fun j hj => by rw [s7 3 (by omega)]; exact ht j hj) s4 s3 s5
        refine ⟨J2, e.trans e2, fun h => ?_⟩
        obtain ⟨f3, f4, f5⟩ := f2 h
        exact ⟨f3, f4, f5.trans s6⟩
