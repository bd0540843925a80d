/-! THE TEXT READ, by both -/
theorem pst_ok {i : Nat} {xs : List Nat} {F : TFen} {nt : Nat → Nat} {q : Nat × TFen × (Nat → Nat)} (ok : okD F nt) (h : pst xs i F nt = .inr q) : okD q.2.1 q.2.2 ∧ i < q.1 ∧ q.1 ≤ xs.length := by
  have hG5 := ok.1.1
  have tl : ∀ {x : Nat}, (x = 45 ∨ (97 ≤ x ∧ x ≤ 108)) → tnV x ≤ 12 := fun {x} h => by
    unfold tnV
    split <;> omega
  unfold pst at h
  by_cases q1 : xs.getD i 0 = 71 ∧ fG F < 5
  · rw [if_pos q1] at h
    unfold pG at h
    by_cases p1 : nOk xs (i + 1)
    · rw [if_pos p1] at h
      by_cases p2 : fOk xs 0 3 (i + 2)
      · rw [if_pos p2] at h
        cases h
        have a1 := p1.2
        have a2 := p2.2
        have a3 := p2.1
        exact ⟨addG_ok ok q1.2 (by omega) (by omega), by show i < i + 3; omega, by show i + 3 ≤ xs.length; omega⟩
      · rw [if_neg p2] at h
        cases h
    · rw [if_neg p1] at h
      cases h
  rw [if_neg q1] at h
  by_cases q2 : xs.getD i 0 = 76 ∧ fL F < 3 ∧ 0 < fG F
  · rw [if_pos q2] at h
    unfold pL at h
    by_cases p1 : fOk xs 0 (fG F - 1) (i + 1)
    · rw [if_pos p1] at h
      by_cases p2 : fOk xs 0 (fG F - 1) (i + 2)
      · rw [if_pos p2] at h
        by_cases p3 : fOk xs 0 (fG F - 1) (i + 3)
        · rw [if_pos p3] at h
          cases h
          have a1 := p1.2
          have a2 := p2.2
          have a3 := p3.2
          have a4 := p3.1
          exact ⟨addL_ok ok q2.2.1 (by omega) (by omega) (by omega), by show i < i + 4; omega, by show i + 4 ≤ xs.length; omega⟩
        · rw [if_neg p3] at h
          cases h
      · rw [if_neg p2] at h
        cases h
    · rw [if_neg p1] at h
      cases h
  rw [if_neg q2] at h
  by_cases q3 : xs.getD i 0 = 66 ∧ fB F < 5
  · rw [if_pos q3] at h
    unfold pB at h
    by_cases p1 : fOk xs 1 9 (i + 1)
    · rw [if_pos p1] at h
      by_cases p2 : fOk xs 0 3 (i + 2)
      · rw [if_pos p2] at h
        cases h
        have a1 := p1.2
        have a2 := p2.2
        have a3 := p2.1
        exact ⟨addB_ok ok q3.2 (by omega) (by omega), by show i < i + 3; omega, by show i + 3 ≤ xs.length; omega⟩
      · rw [if_neg p2] at h
        cases h
    · rw [if_neg p1] at h
      cases h
  rw [if_neg q3] at h
  by_cases q4 : xs.getD i 0 = 86 ∧ fV F < 2
  · rw [if_pos q4] at h
    unfold pV at h
    by_cases p1 : tOk xs (i + 1)
    · rw [if_pos p1] at h
      by_cases p2 : tOk xs (i + 2)
      · rw [if_pos p2] at h
        by_cases p3 : tOk xs (i + 3)
        · rw [if_pos p3] at h
          by_cases p4 : tOk xs (i + 4)
          · rw [if_pos p4] at h
            cases h
            have a4 := p4.1
            exact ⟨addV_ok ok q4.2 (tl p1.2) (tl p2.2) (tl p3.2) (tl p4.2), by show i < i + 5; omega, by show i + 5 ≤ xs.length; omega⟩
          · rw [if_neg p4] at h
            cases h
        · rw [if_neg p3] at h
          cases h
      · rw [if_neg p2] at h
        cases h
    · rw [if_neg p1] at h
      cases h
  rw [if_neg q4] at h
  cases h
theorem psr_r {L : gLL} {xs : List Nat} (h60 : xs.length ≤ 60) (hx : ∀ t ∈ xs, t < 256) : ∀ k i F nt (I : gII) m, xs.length < i + k → i ≤ xs.length → k < m → rLet I xs → I 57 21 = nI i → I 57 22 = -9 → rDr I F nt → okD F nt → ∃ J, r_X8_readText_38 m I L = some ((psr xs k i F nt).1, J, L) ∧ rPr I J ∧ ((psr xs k i F nt).1 = -9 → rDr J (psr xs k i F nt).2.1 (psr xs k i F nt).2.2) := by
  intro k
  induction k with
  | zero =>
    intro i F nt I m h1 h2
    omega
  | succ k ih =>
    intro i F nt I m h1 h2 hm ht h21 h22 hD ok
    obtain ⟨m, rfl⟩ : ∃ m', m = m' + 1 + 1 := ⟨m - 2, by omega⟩
    rw [psr]
    by_cases q : i = xs.length
    · rw [if_pos q]
      refine ⟨I, ?_, rP_refl, fun _ => hD⟩
      rw [r_X8_readText_38, if_neg (show ¬ ¬ I 57 22 = -9 from fun h => h h22), ht.1, h21, if_pos (show nI xs.length ≤ nI i by simp (disch := omega) only [n_le, n_lt, n_eq, n_eq0, n_0lt, n_le0, n_lt0, n_0le, n_gvp, n_gx, n_add, n_mul, decide_eq_true_eq, Option.bind_some, if_false, if_true, not_false_eq_true, not_true_eq_false]; omega)]
      unfold r_X8_readText_55
      rw [h22]
    · rw [if_neg q]
      obtain ⟨J, e, rJ, st⟩ := pst_r (L := L) h60 hx ht h21 h22 (show i < xs.length by omega) hD ok.1
      have run : r_X8_readText_38 (m + 1 + 1) I L = r_X8_readText_38 (m + 1) J L := by
        rw [r_X8_readText_38, if_neg (show ¬ ¬ I 57 22 = -9 from fun h => h h22), ht.1, h21, if_neg (show ¬ nI xs.length ≤ nI i by simp (disch := omega) only [n_le, n_lt, n_eq, n_eq0, n_0lt, n_le0, n_lt0, n_0le, n_gvp, n_gx, n_add, n_mul, decide_eq_true_eq, Option.bind_some, if_false, if_true, not_false_eq_true, not_true_eq_false]; omega), if_pos (show gvp (nI i) 60 = true by rw [n_gvp (by omega)]; simp; omega), n_gx (by omega), ht.2 i (by omega), e, Option.bind_some]
      cases hp : pst xs i F nt with
      | inl p =>
        rw [hp] at st
        obtain ⟨hle, j22⟩ := st
        refine ⟨J, run.trans ?_, rJ, fun h => absurd h (m9 (by omega))⟩
        rw [r_X8_readText_38, if_pos (show ¬ J 57 22 = -9 by rw [j22]; exact m9 (by omega))]
        unfold r_X8_readText_55
        rw [j22]
      | inr w =>
        rw [hp] at st
        obtain ⟨j21, j22, jD⟩ := st
        obtain ⟨s1, s2, s3⟩ := pst_ok ok hp
        obtain ⟨J2, e2, r2, f2⟩ := ih w.1 w.2.1 w.2.2 J (m + 1) (by omega) s3 (by omega) (rP_let rJ ht) j21 j22 jD s1
        exact ⟨J2, run.trans e2, rP_trans rJ r2, f2⟩
def Fz0 : TFen := ((0, 0, 0, 0), (fun _ => 0), (fun _ => 0), (fun _ => 0), (fun _ => 0), (fun _ => 0))
theorem Fz0_ok : okD Fz0 (fun _ => 0) := ⟨⟨by decide, by decide, by decide, by decide, fun j hj => absurd hj (Nat.not_lt_zero _), fun j hj => absurd hj (Nat.not_lt_zero _), fun j hj => absurd hj (Nat.not_lt_zero _), fun j hj => absurd hj (Nat.not_lt_zero _), fun j hj => absurd hj (Nat.not_lt_zero _)⟩, fun j hj => absurd hj (Nat.not_lt_zero _)⟩
noncomputable section
def prs (xs : List Nat) : Int32 × TFen × (Nat → Nat) := if 0 < xs.length ∧ xs.getD 0 0 = 67 then @ite _ (fOk xs 0 1 1) (Classical.propDecidable _) (psr xs 61 2 Fz0 (fun _ => 0)) (nI 1, Fz0, fun _ => 0) else (nI 0, Fz0, fun _ => 0)
end
theorem read_c {I : gII} {L : gLL} {g : Nat} {xs : List Nat} (hg : gfe g = true) (h60 : xs.length ≤ 60) (hx : ∀ t ∈ xs, t < 256) (ht : cLet I xs) : ∃ J, r_X1_read I L g (nI xs.length) = some ((prs xs).1, J, L) ∧ ((prs xs).1 = -9 → okD (prs xs).2.1 (prs xs).2.2 ∧ cDr J g (prs xs).2.1 (prs xs).2.2 ∧ J g 4 = nI (xs.getD 1 0 - 48) ∧ xs.getD 1 0 - 48 ≤ 1) := by
  have hgg := gfe_or hg
  unfold r_X1_read
  generalize hI0 : gu2 (gu2 (gu2 (gu2 (gu2 I g 0 (nI 0)) g 1 (nI 0)) g 2 (nI 0)) g 3 (nI 0)) g 11 (nI 0) = I0
  have t0 : cLet I0 xs := fun j hj => by rw [← hI0]; simp (disch := omega) only [g2a, g2o, g2n, ht j hj]
  have a11 : I0 g 11 = nI 0 := by rw [← hI0]; simp (disch := omega) only [g2a, g2o, g2n]
  have c0 : I0 g 0 = nI 0 := by rw [← hI0]; simp (disch := omega) only [g2a, g2o, g2n]
  have c1 : I0 g 1 = nI 0 := by rw [← hI0]; simp (disch := omega) only [g2a, g2o, g2n]
  have c2 : I0 g 2 = nI 0 := by rw [← hI0]; simp (disch := omega) only [g2a, g2o, g2n]
  have c3 : I0 g 3 = nI 0 := by rw [← hI0]; simp (disch := omega) only [g2a, g2o, g2n]
  unfold prs
  by_cases n0 : 0 < xs.length
  · have tk0 : r_X1_takes I0 L g (nI (xs.getD 0 0)) (nI 0) = some (nI (if xs.getD 0 0 = 67 then 1 else 0), I0, L) := by
      have x256 := xlt hx n0
      unfold r_X1_takes r_X1_takes_8
      rw [if_neg zn0]
      by_cases q : xs.getD 0 0 = 67
      · rw [if_neg (show ¬ ¬ nI (xs.getD 0 0) = nI 67 from fun h => h (by rw [q])), if_pos zd1, if_pos q]
      · rw [if_pos (show ¬ nI (xs.getD 0 0) = nI 67 by rw [n_eq (by omega) (by omega)]; exact q), if_pos zd0, if_neg q]
    by_cases q0 : xs.getD 0 0 = 67
    · rw [if_pos q0] at tk0
      rw [if_pos ⟨n0, q0⟩, show (100 : Nat) = 98 + 1 + 1 from rfl, rd_yes h60 t0 n0 tk0]
      show ∃ J, r_X1_read_17 g (98 + 1) (nI xs.length) (nI 1) I0 L = _ ∧ _
      by_cases n1 : 1 < xs.length
      · have x256 := xlt hx n1
        have tk1 : r_X1_takes I0 L g (nI (xs.getD 1 0)) (nI 1) = some (nI (if 48 ≤ xs.getD 1 0 ∧ xs.getD 1 0 ≤ 49 then 1 else 0), gu2 I0 g 4 (nI (xs.getD 1 0) - nI 48), L) := by
          unfold r_X1_takes r_X1_takes_23
          rw [if_pos z1, if_neg (fun h => h rfl)]
          by_cases q48 : xs.getD 1 0 = 48
          · rw [if_pos (show nI (xs.getD 1 0) = nI 48 by rw [q48]), if_pos (by omega)]
          · rw [if_neg (show ¬ nI (xs.getD 1 0) = nI 48 by rw [n_eq (by omega) (by omega)]; exact q48)]
            by_cases q49 : xs.getD 1 0 = 49
            · rw [if_neg (show ¬ ¬ nI (xs.getD 1 0) = nI 49 from fun h => h (by rw [q49])), if_pos (by omega)]
            · rw [if_pos (show ¬ nI (xs.getD 1 0) = nI 49 by rw [n_eq (by omega) (by omega)]; exact q49), if_neg (by omega)]
        by_cases q1 : fOk xs 0 1 1
        · have q1' : 48 ≤ xs.getD 1 0 ∧ xs.getD 1 0 ≤ 49 := q1.2
          rw [if_pos q1'] at tk1
          rw [if_pos q1, rd_yes h60 t0 n1 tk1]
          have hD : cDr (gu2 I0 g 4 (nI (xs.getD 1 0) - nI 48)) g Fz0 (fun _ => 0) := by
            refine ⟨⟨?_, ?_, ?_, ?_, fun j hj => absurd hj (Nat.not_lt_zero _), fun j hj => absurd hj (Nat.not_lt_zero _), fun j hj => absurd hj (Nat.not_lt_zero _), fun j hj => absurd hj (Nat.not_lt_zero _), fun j hj => absurd hj (Nat.not_lt_zero _)⟩, fun j hj => absurd hj (Nat.not_lt_zero _)⟩
            · simp (disch := omega) only [g2a, g2o, g2n]
              exact c0
            · simp (disch := omega) only [g2a, g2o, g2n]
              exact c1
            · simp (disch := omega) only [g2a, g2o, g2n]
              exact c2
            · simp (disch := omega) only [g2a, g2o, g2n]
              exact c3
          obtain ⟨J, e, f⟩ := psr_c (L := L) hg h60 hx 61 2 Fz0 (fun _ => 0) (gu2 I0 g 4 (nI (xs.getD 1 0) - nI 48)) (by omega) (by omega) (by omega) (fun j hj => by simp (disch := omega) only [g2a, g2o, g2n, t0 j hj]) hD Fz0_ok (by simp (disch := omega) only [g2a, g2o, g2n, a11])
          refine ⟨J, e, fun h => ?_⟩
          obtain ⟨f1, f2, f3⟩ := f h
          refine ⟨f1, f2, ?_, by omega⟩
          rw [f3]
          simp (disch := omega) only [g2a, g2o, g2n]
          exact sub48 q1'.1
        · have q1' : ¬ (48 ≤ xs.getD 1 0 ∧ xs.getD 1 0 ≤ 49) := fun h => q1 ⟨n1, h⟩
          rw [if_neg q1'] at tk1
          rw [if_neg q1]
          exact ⟨_, rd_no h60 t0 n1 tk1, fun h => absurd h (by decide)⟩
      · have e1 : xs.length = 1 := by omega
        have q1 : ¬ fOk xs 0 1 1 := fun h => n1 h.1
        rw [if_neg q1]
        refine ⟨I0, ?_, fun h => absurd h (by decide)⟩
        have := rd_end (L := L) (m := 98) h60 a11 (by decide)
        rw [e1, if_pos (by decide)] at this
        rw [e1]
        exact this
    · rw [if_neg q0] at tk0
      rw [if_neg (fun h => q0 h.2)]
      exact ⟨_, rd_no (m := 99) h60 t0 n0 tk0, fun h => absurd h (by decide)⟩
  · have e0 : xs.length = 0 := by omega
    rw [if_neg (fun h => n0 h.1)]
    refine ⟨I0, ?_, fun h => absurd h (by decide)⟩
    have := rd_end (L := L) (m := 99) h60 a11 (by decide)
    rw [e0, if_pos (by decide)] at this
    rw [e0]
    exact this
/-- what the reference's reading leaves alone -/
def rPs (I J : gII) : Prop := (∀ a, a ≠ 57 → ¬ (64 ≤ a ∧ a ≤ 67) → J a = I a) ∧ ∀ j, ¬ (14 ≤ j ∧ j ≤ 18) → j ≠ 21 → j ≠ 22 → J 57 j = I 57 j
theorem rPs_same {I J : gII} {L : gLL} (h : rPs I J) : rSame I J L L := ⟨fun a q => h.1 a (by omega) (by omega), fun j _ => by rw [h.1 63 (by decide) (by decide)], fun j q => h.2 j (by omega) (by omega) (by omega), rfl⟩
theorem readText_r {I : gII} {L : gLL} {xs : List Nat} (h60 : xs.length ≤ 60) (hx : ∀ t ∈ xs, t < 256) (ht : rLet I xs) : ∃ J, r_X8_readText I L = some ((prs xs).1, J, L) ∧ rPs I J ∧ ((prs xs).1 = -9 → rDr J (prs xs).2.1 (prs xs).2.2 ∧ J 57 18 = nI (xs.getD 1 0 - 48)) := by
  unfold r_X8_readText
  generalize hI0 : gu2 (gu2 (gu2 (gu2 (gu2 (gu2 I 57 21 (nI 0)) 57 22 (-9)) 57 14 (nI 0)) 57 15 (nI 0)) 57 16 (nI 0)) 57 17 (nI 0) = I0
  have k0 : ∀ a j, (a ≠ 57 ∨ (¬ (14 ≤ j ∧ j ≤ 17) ∧ j ≠ 21 ∧ j ≠ 22)) → I0 a j = I a j := fun a j q => by
    rw [← hI0]
    by_cases e : a = 57
    · subst e
      simp (disch := omega) only [g2a, g2o, g2n]
    · simp (disch := omega) only [g2a, g2o, g2n]
  have ps0 : rPs I I0 := ⟨fun a a1 _ => by funext j; exact k0 a j (Or.inl a1), fun j j1 j2 j3 => k0 57 j (by omega)⟩
  have c20 : I0 57 20 = nI xs.length := (k0 57 20 (by omega)).trans ht.1
  unfold prs
  unfold r_X8_readText_27
  rw [c20]
  by_cases n0 : 0 < xs.length
  · have e68 : I0 68 (gx (nI 0)) = nI (xs.getD 0 0) := by
      rw [n_gx (by omega), k0 68 0 (by omega)]
      exact ht.2 0 n0
    have x256 := xlt hx n0
    rw [if_neg (show ¬ nI xs.length = 0 by rw [n_eq0 (by omega)]; omega), e68]
    by_cases q0 : xs.getD 0 0 = 67
    · rw [if_pos (show nI (xs.getD 0 0) = nI 67 by rw [q0]), if_pos ⟨n0, q0⟩]
      generalize hI1 : gu2 I0 57 21 (nI 1) = I1
      have k1 : ∀ a j, (a ≠ 57 ∨ (¬ (14 ≤ j ∧ j ≤ 17) ∧ j ≠ 21 ∧ j ≠ 22)) → I1 a j = I a j := fun a j q => by
        rw [← hI1]
        by_cases e : a = 57
        · subst e
          simp (disch := omega) only [g2a, g2o, g2n]
          exact k0 57 j (by omega)
        · simp (disch := omega) only [g2a, g2o, g2n]
          exact k0 a j (by omega)
      have t1 : rLet I1 xs := ⟨(k1 57 20 (by omega)).trans ht.1, fun j hj => (k1 68 j (by omega)).trans (ht.2 j hj)⟩
      have b21 : I1 57 21 = nI 1 := by rw [← hI1]; simp (disch := omega) only [g2a, g2o, g2n]
      have b22 : I1 57 22 = -9 := by rw [← hI1, ← hI0]; simp (disch := omega) only [g2a, g2o, g2n]
      have b14 : I1 57 14 = nI 0 := by rw [← hI1, ← hI0]; simp (disch := omega) only [g2a, g2o, g2n]
      have b15 : I1 57 15 = nI 0 := by rw [← hI1, ← hI0]; simp (disch := omega) only [g2a, g2o, g2n]
      have b16 : I1 57 16 = nI 0 := by rw [← hI1, ← hI0]; simp (disch := omega) only [g2a, g2o, g2n]
      have b17 : I1 57 17 = nI 0 := by rw [← hI1, ← hI0]; simp (disch := omega) only [g2a, g2o, g2n]
      obtain ⟨fy, fn⟩ := fig_r (L := L) (lo := 0) (hi := 1) h60 hx t1 b21 b22 (by omega) (by omega) (by omega)
      by_cases q1 : fOk xs 0 1 1
      · rw [fy q1, Option.bind_some, if_pos q1]
        dsimp only
        generalize hI2 : gu2 (gu2 I1 57 21 (nI (1 + 1))) 57 18 (nI (xs.getD 1 0 - 48)) = I2
        have l1 := q1.1
        have hD : rDr I2 Fz0 (fun _ => 0) := by
          rw [← hI2]
          refine ⟨⟨?_, ?_, ?_, ?_⟩, fun j hj => absurd hj (Nat.not_lt_zero _), fun j hj => absurd hj (Nat.not_lt_zero _), fun j hj => absurd hj (Nat.not_lt_zero _), fun j hj => absurd hj (Nat.not_lt_zero _)⟩
          · simp (disch := omega) only [g2a, g2o, g2n]
            exact b14
          · simp (disch := omega) only [g2a, g2o, g2n]
            exact b15
          · simp (disch := omega) only [g2a, g2o, g2n]
            exact b16
          · simp (disch := omega) only [g2a, g2o, g2n]
            exact b17
        have t2 : rLet I2 xs := by
          rw [← hI2]
          exact ⟨by simp (disch := omega) only [g2a, g2o, g2n, t1.1], fun j hj => by simp (disch := omega) only [g2a, g2o, g2n, t1.2 j hj]⟩
        obtain ⟨J, e, r, f⟩ := psr_r (L := L) h60 hx 61 2 Fz0 (fun _ => 0) I2 100 (by omega) (by omega) (by omega) t2 (by rw [← hI2]; simp (disch := omega) only [g2a, g2o, g2n]) (by rw [← hI2]; simp (disch := omega) only [g2a, g2o, g2n, b22]) hD Fz0_ok
        refine ⟨J, e, ⟨fun a a1 a2 => ?_, fun j j1 j2 j3 => ?_⟩, fun h => ⟨f h, ?_⟩⟩
        · rw [r.1 a a1 a2, ← hI2, gu2_other a1, gu2_other a1, ← hI1, gu2_other a1]
          exact ps0.1 a a1 a2
        · rw [r.2 j (by omega) j2 j3, ← hI2]
          simp (disch := omega) only [g2a, g2o, g2n]
          exact k1 57 j (by omega)
        · rw [r.2 18 (by omega) (by omega) (by omega), ← hI2]
          simp (disch := omega) only [g2a, g2o, g2n]
      · rw [fn q1, Option.bind_some, if_neg q1]
        dsimp only
        refine ⟨gu2 (gu2 I1 57 22 (nI 1)) 57 18 (nI 0), ?_, ⟨fun a a1 a2 => ?_, fun j j1 j2 j3 => ?_⟩, fun h => absurd h (by decide)⟩
        · rw [show (100 : Nat) = 99 + 1 from rfl, r_X8_readText_38, if_pos (show ¬ gu2 (gu2 I1 57 22 (nI 1)) 57 18 (nI 0) 57 22 = -9 by rw [g2n (by decide), g2a]; decide)]
          unfold r_X8_readText_55
          rw [g2n (by decide), g2a]
        · rw [gu2_other a1, gu2_other a1, ← hI1, gu2_other a1]
          exact ps0.1 a a1 a2
        · simp (disch := omega) only [g2a, g2o, g2n]
          exact k1 57 j (by omega)
    · rw [if_neg (show ¬ nI (xs.getD 0 0) = nI 67 by rw [n_eq (by omega) (by omega)]; exact q0), if_neg (fun h => q0 h.2)]
      exact ⟨I0, rfl, ps0, fun h => absurd h (by decide)⟩
  · rw [if_pos (show nI xs.length = 0 by rw [n_eq0 (by omega)]; omega), if_neg (fun h => n0 h.1)]
    exact ⟨I0, rfl, ps0, fun h => absurd h (by decide)⟩
theorem ag_fault : mAg (fun f g I L => r_X7_fault f g I L) (fun I L => r_X8_fault I L) := by
  refine mAg_ask (fun f g I L z hw e a q => by
    have := cHold_lt hw q
    exact w_X7_fault (by omega) e) (fun S hS => ?_)
  refine ⟨(prs (sT S)).1, fun f g I L hw hc => ?_, fun I L hr => ?_⟩
  · obtain ⟨J, e, -⟩ := read_c (L := L) hw.g hS.1.1 hS.1.2 hc.1.2
    refine ⟨J, L, ?_⟩
    show r_X7_fault f g I L = _
    unfold r_X7_fault
    rw [hc.1.1, e]
    rfl
  · obtain ⟨J, e, r, -⟩ := readText_r (L := L) hS.1.1 hS.1.2 hr.1
    refine ⟨J, L, ?_, rPs_same r⟩
    show r_X8_fault I L = _
    unfold r_X8_fault
    rw [e]
    rfl
