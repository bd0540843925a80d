/-! THE TEXT, part by part (class) -/
theorem g2o {α : Type} {f : Nat → Nat → α} {a a' j j' : Nat} {v : α} (h : a' ≠ a) : gu2 f a j v a' j' = f a' j' := by rw [gu2_other h]
def rdC (g : Nat) (xs : List Nat) (p : Nat) (I : gII) (L : gLL) : Option gRs := r_X1_read_17 g (100 - p) (nI xs.length) (nI p) I L
theorem itemC {I : gII} {L : gLL} {g p c : Nat} {xs : List Nat} (h60 : xs.length ≤ 60) (ht : cLet I xs) (hp : p ≤ xs.length) (hp2 : 2 ≤ p) (h11 : I g 11 = nI c) (hc : c ≠ 0) (hc2 : c < 256) (P : Nat → Prop) (I' : gII)
    (hy : p < xs.length → P (xs.getD p 0) → r_X1_takes I L g (nI (xs.getD p 0)) (nI p) = some (nI 1, I', L))
    (hn : p < xs.length → ¬ P (xs.getD p 0) → ∃ J, r_X1_takes I L g (nI (xs.getD p 0)) (nI p) = some (nI 0, J, L)) :
    (p < xs.length ∧ P (xs.getD p 0) ∧ rdC g xs p I L = rdC g xs (p + 1) I' L) ∨ (¬ (p < xs.length ∧ P (xs.getD p 0)) ∧ ∃ J, rdC g xs p I L = some (nI p, J, L)) := by
  have e : 100 - p = (100 - (p + 1)) + 1 := by omega
  unfold rdC
  rw [e]
  exact item h60 ht hp hp2 h11 hc hc2 P I' hy hn
theorem startC {I I' : gII} {L : gLL} {g p : Nat} {xs : List Nat} (h60 : xs.length ≤ 60) (ht : cLet I xs) (hp : p < xs.length) (h : r_X1_takes I L g (nI (xs.getD p 0)) (nI p) = some (nI 1, I', L)) : rdC g xs p I L = rdC g xs (p + 1) I' L := by
  have e : 100 - p = (100 - (p + 1)) + 1 := by omega
  unfold rdC
  rw [e]
  exact rd_yes h60 ht hp h
/-- what a part's reading gives: a fault, or the next boundary -/
def partC (g : Nat) (xs : List Nat) (i : Nat) (I : gII) (L : gLL) (r : TP) : Prop := match r with
  | .inl p => p ≤ xs.length ∧ ∃ J, rdC g xs i I L = some (nI p, J, L)
  | .inr q => (i < q.1 ∧ q.1 ≤ xs.length) ∧ okD q.2.1 q.2.2 ∧ ∃ J, rdC g xs i I L = rdC g xs q.1 J L ∧ cDr J g q.2.1 q.2.2 ∧ J g 11 = nI 0 ∧ J g 4 = I g 4 ∧ ∀ a, ¬ (g ≤ a ∧ a ≤ g + 6) → J a = I a
theorem xlt {xs : List Nat} (hx : ∀ t ∈ xs, t < 256) {p : Nat} (hp : p < xs.length) : xs.getD p 0 < 256 := hx _ (getD_in hp)
theorem bn1 {x : Nat} (h : 97 ≤ x ∧ x ≤ 108) : bn x = 1 := if_pos h
theorem bn0 {x : Nat} (h : ¬ (97 ≤ x ∧ x ≤ 108)) : bn x = 0 := if_neg h
theorem bf1 {x lo hi : Nat} (h : 48 + lo ≤ x ∧ x ≤ 48 + hi) : bf x lo hi = 1 := if_pos h
theorem bf0 {x lo hi : Nat} (h : ¬ (48 + lo ≤ x ∧ x ≤ 48 + hi)) : bf x lo hi = 0 := if_neg h
theorem mayG {I : gII} {L : gLL} {g G : Nat} (h : I g 0 = nI G) (hG : G < 5) : f_X1_mayStart I L g (nI 71) = nI 1 := by
  unfold f_X1_mayStart
  rw [h, if_neg (show ¬ (nI 71 : Int32) = nI 66 by decide), if_pos (show (nI 71 : Int32) = nI 71 from rfl), if_pos rfl, if_neg (show ¬ nI 5 ≤ nI G by simp (disch := omega) only [n_le, n_lt, n_eq, n_eq0, n_0lt, n_le0, n_lt0, n_0le, n_gvp, n_gx, n_add, n_mul, decide_eq_true_eq, Option.bind_some, if_false, if_true, not_false_eq_true, not_true_eq_false]; omega)]
theorem mayB {I : gII} {L : gLL} {g B : Nat} (h : I g 2 = nI B) (hB : B < 5) : f_X1_mayStart I L g (nI 66) = nI 1 := by
  unfold f_X1_mayStart
  rw [h, if_pos (show (nI 66 : Int32) = nI 66 from rfl), if_neg (show ¬ false = true by decide), if_pos (show (nI 66 : Int32) = nI 66 from rfl), if_neg (show ¬ nI 5 ≤ nI B by simp (disch := omega) only [n_le, n_lt, n_eq, n_eq0, n_0lt, n_le0, n_lt0, n_0le, n_gvp, n_gx, n_add, n_mul, decide_eq_true_eq, Option.bind_some, if_false, if_true, not_false_eq_true, not_true_eq_false]; omega)]
theorem mayL {I : gII} {L : gLL} {g G N : Nat} (h0 : I g 0 = nI G) (h1 : I g 1 = nI N) (hN : N < 3) (hG : 0 < G) (hG5 : G ≤ 5) : f_X1_mayStart I L g (nI 76) = nI 1 := by
  unfold f_X1_mayStart
  rw [h0, h1, if_neg (show ¬ (nI 76 : Int32) = nI 66 by decide), if_neg (show ¬ (nI 76 : Int32) = nI 71 by decide), if_neg (show ¬ false = true by decide), if_neg (show ¬ (nI 76 : Int32) = nI 66 by decide), if_pos (show (nI 76 : Int32) = nI 76 from rfl), if_neg (show ¬ nI 3 ≤ nI N by simp (disch := omega) only [n_le, n_lt, n_eq, n_eq0, n_0lt, n_le0, n_lt0, n_0le, n_gvp, n_gx, n_add, n_mul, decide_eq_true_eq, Option.bind_some, if_false, if_true, not_false_eq_true, not_true_eq_false]; omega), if_neg (show ¬ nI G ≤ 0 by rw [n_le0 (by omega)]; omega)]
theorem mayV {I : gII} {L : gLL} {g N : Nat} (h3 : I g 3 = nI N) (hN : N < 2) : f_X1_mayStart I L g (nI 86) = nI 1 := by
  unfold f_X1_mayStart
  rw [h3, if_neg (show ¬ (nI 86 : Int32) = nI 66 by decide), if_neg (show ¬ (nI 86 : Int32) = nI 71 by decide), if_neg (show ¬ false = true by decide), if_neg (show ¬ (nI 86 : Int32) = nI 66 by decide), if_neg (show ¬ (nI 86 : Int32) = nI 76 by decide), if_pos (show (nI 86 : Int32) = nI 86 from rfl), if_neg (show ¬ nI 2 ≤ nI N by simp (disch := omega) only [n_le, n_lt, n_eq, n_eq0, n_0lt, n_le0, n_lt0, n_0le, n_gvp, n_gx, n_add, n_mul, decide_eq_true_eq, Option.bind_some, if_false, if_true, not_false_eq_true, not_true_eq_false]; omega)]
theorem partG_c {I : gII} {L : gLL} {g i : Nat} {xs : List Nat} {F : TFen} {nt : Nat → Nat} (hg : gfe g = true) (h60 : xs.length ≤ 60) (hx : ∀ t ∈ xs, t < 256) (ht : cLet I xs) (hi : 2 ≤ i) (hin : i < xs.length) (hD : cDr I g F nt) (ok : okD F nt) (h11 : I g 11 = nI 0) (hc : xs.getD i 0 = 71) (hG : fG F < 5) : partC g xs i I L (pG xs i F nt) := by
  have hgg := gfe_or hg
  obtain ⟨⟨d0, d1, d2, d3, dk, dl, dw, db, dv⟩, dn⟩ := hD
  have ms : f_X1_mayStart (gu2 (gu2 I g 11 (nI 71)) g 12 (nI 0)) L g (nI 71) = nI 1 := mayG (by simp (disch := omega) only [g2a, g2o, g2n, d0]) hG
  have e0 : rdC g xs i I L = rdC g xs (i + 1) (gu2 (gu2 I g 11 (nI 71)) g 12 (nI 0)) L := startC h60 ht hin (by rw [hc]; exact tk_st hi (by omega) h11 (by omega) ms)
  have t1 : cLet (gu2 (gu2 I g 11 (nI 71)) g 12 (nI 0)) xs := fun j hj => by
    simp (disch := omega) only [g2a, g2o, g2n, ht j hj]
  generalize hI1 : gu2 (gu2 I g 11 (nI 71)) g 12 (nI 0) = I1 at e0 t1
  have a0 : I1 g 0 = nI (fG F) := by rw [← hI1]; simp (disch := omega) only [g2a, g2o, g2n, d0]
  have a11 : I1 g 11 = nI 71 := by rw [← hI1]; simp (disch := omega) only [g2a, g2o, g2n]
  have a12 : I1 g 12 = nI 0 := by rw [← hI1]; simp (disch := omega) only [g2a, g2o, g2n]
  have k1 : ∀ a j, (a ≠ g ∨ (j ≠ 11 ∧ j ≠ 12)) → I1 a j = I a j := fun a j q => by
    rw [← hI1]
    by_cases w : a = g
    · subst w
      simp (disch := omega) only [g2a, g2o, g2n]
    · simp (disch := omega) only [g2a, g2o, g2n]
  rcases itemC (L := L) h60 t1 (show i + 1 ≤ xs.length by omega) (by omega) a11 (by decide) (by decide) (fun x => 97 ≤ x ∧ x ≤ 108) (gu2 (gu2 I1 g 12 (nI 1)) (g + 1) (fG F) (nI (xs.getD (i + 1) 0) - nI 97))
    (fun q w => tk_go (by omega) (by omega) a11 (by decide) (by decide) (by omega) (go_71 a11 (by omega) (by rw [tg0 a0 hG a12 (xlt hx q), bn1 w])))
    (fun q w => ⟨_, tk_go (by omega) (by omega) a11 (by decide) (by decide) (by omega) (go_71 a11 (by omega) (by rw [tg0 a0 hG a12 (xlt hx q), bn0 w]))⟩) with ⟨q1, w1, e1⟩ | ⟨f1, J, e1⟩
  · have p1 : nOk xs (i + 1) := ⟨q1, w1⟩
    generalize hI2 : gu2 (gu2 I1 g 12 (nI 1)) (g + 1) (fG F) (nI (xs.getD (i + 1) 0) - nI 97) = I2 at e1
    have b0 : I2 g 0 = nI (fG F) := by rw [← hI2]; simp (disch := omega) only [g2a, g2o, g2n, a0]
    have b11 : I2 g 11 = nI 71 := by rw [← hI2]; simp (disch := omega) only [g2a, g2o, g2n, a11]
    have b12 : I2 g 12 = nI 1 := by rw [← hI2]; simp (disch := omega) only [g2a, g2o, g2n]
    have t2 : cLet I2 xs := fun j hj => by rw [← hI2]; simp (disch := omega) only [g2a, g2o, g2n, t1 j hj]
    rcases itemC (L := L) h60 t2 (show i + 1 + 1 ≤ xs.length by omega) (by omega) b11 (by decide) (by decide) (fun x => 48 + 0 ≤ x ∧ x ≤ 48 + 3) (gu2 (gu2 (gu2 I2 (g + 2) (fG F) (nI (xs.getD (i + 1 + 1) 0) - nI 48)) g 0 (nI (fG F + 1))) g 11 (nI 0))
      (fun q w => tk_go (by omega) (by omega) b11 (by decide) (by decide) (by omega) (go_71 b11 (by omega) (by rw [tg1 b0 hG b12 (xlt hx q), bf1 w])))
      (fun q w => ⟨_, tk_go (by omega) (by omega) b11 (by decide) (by decide) (by omega) (go_71 b11 (by omega) (by rw [tg1 b0 hG b12 (xlt hx q), bf0 w]))⟩) with ⟨q2, w2, e2⟩ | ⟨f2, J, e2⟩
    · have p2 : fOk xs 0 3 (i + 2) := ⟨q2, w2⟩
      unfold pG
      rw [if_pos p1, if_pos p2]
      have w2' : 48 ≤ xs.getD (i + 2) 0 ∧ xs.getD (i + 2) 0 ≤ 51 := w2
      refine ⟨⟨by show i < i + 3; omega, by show i + 3 ≤ xs.length; omega⟩, addG_ok ok hG (by omega) (by omega), _, e0.trans (e1.trans e2), ⟨⟨?_, ?_, ?_, ?_, ?_, ?_, ?_, ?_, ?_⟩, ?_⟩, g2a, ?_, ?_⟩
      · simp (disch := omega) only [g2a, g2o, g2n]
        rfl
      · rw [← hI2]
        simp (disch := omega) only [g2a, g2o, g2n]
        rw [k1 g 1 (by omega)]
        exact d1
      · rw [← hI2]
        simp (disch := omega) only [g2a, g2o, g2n]
        rw [k1 g 2 (by omega)]
        exact d2
      · rw [← hI2]
        simp (disch := omega) only [g2a, g2o, g2n]
        rw [k1 g 3 (by omega)]
        exact d3
      · intro j hj
        have hj : j < fG F + 1 := hj
        show _ = nI (if j = fG F then _ else fk F j)
        by_cases q : j = fG F
        · rw [if_pos q, q]
          simp (disch := omega) only [g2a, g2o, g2n]
          exact sub48 w2.1
        · rw [if_neg q, ← hI2]
          simp (disch := omega) only [g2a, g2o, g2n]
          rw [k1 (g + 2) j (by omega)]
          exact dk j (by omega)
      · intro j hj
        rw [← hI2]
        simp (disch := omega) only [g2a, g2o, g2n]
        rw [k1 (g + 3) j (by omega)]
        exact dl j hj
      · intro j hj
        rw [← hI2]
        simp (disch := omega) only [g2a, g2o, g2n]
        rw [k1 (g + 4) j (by omega)]
        exact dw j hj
      · intro j hj
        rw [← hI2]
        simp (disch := omega) only [g2a, g2o, g2n]
        rw [k1 (g + 5) j (by omega)]
        exact db j hj
      · intro j hj
        rw [← hI2]
        simp (disch := omega) only [g2a, g2o, g2n]
        rw [k1 (g + 6) j (by omega)]
        exact dv j hj
      · intro j hj
        have hj : j < fG F + 1 := hj
        show _ = nI (if j = fG F then _ else nt j)
        rw [← hI2]
        by_cases q : j = fG F
        · rw [if_pos q, q]
          simp (disch := omega) only [g2a, g2o, g2n]
          exact sub97 w1.1
        · rw [if_neg q]
          simp (disch := omega) only [g2a, g2o, g2n]
          rw [k1 (g + 1) j (by omega)]
          exact dn j (by omega)
      · rw [← hI2]
        simp (disch := omega) only [g2a, g2o, g2n]
        exact k1 g 4 (by omega)
      · intro a ha
        rw [gu2_other (by omega), gu2_other (by omega), gu2_other (by omega), ← hI2, gu2_other (by omega), gu2_other (by omega), ← hI1, gu2_other (by omega), gu2_other (by omega)]
    · have p2 : ¬ fOk xs 0 3 (i + 2) := f2
      unfold pG
      rw [if_pos p1, if_neg p2]
      exact ⟨by omega, J, e0.trans (e1.trans e2)⟩
  · have p1 : ¬ nOk xs (i + 1) := f1
    unfold pG
    rw [if_neg p1]
    exact ⟨by omega, J, e0.trans e1⟩
theorem partB_c {I : gII} {L : gLL} {g i : Nat} {xs : List Nat} {F : TFen} {nt : Nat → Nat} (hg : gfe g = true) (h60 : xs.length ≤ 60) (hx : ∀ t ∈ xs, t < 256) (ht : cLet I xs) (hi : 2 ≤ i) (hin : i < xs.length) (hD : cDr I g F nt) (ok : okD F nt) (h11 : I g 11 = nI 0) (hc : xs.getD i 0 = 66) (hB : fB F < 5) : partC g xs i I L (pB xs i F nt) := by
  have hgg := gfe_or hg
  obtain ⟨⟨d0, d1, d2, d3, dk, dl, dw, db, dv⟩, dn⟩ := hD
  have ms : f_X1_mayStart (gu2 (gu2 I g 11 (nI 66)) g 12 (nI 0)) L g (nI 66) = nI 1 := mayB (by simp (disch := omega) only [g2a, g2o, g2n, d2]) hB
  have e0 : rdC g xs i I L = rdC g xs (i + 1) (gu2 (gu2 I g 11 (nI 66)) g 12 (nI 0)) L := startC h60 ht hin (by rw [hc]; exact tk_st hi (by omega) h11 (by omega) ms)
  have t1 : cLet (gu2 (gu2 I g 11 (nI 66)) g 12 (nI 0)) xs := fun j hj => by
    simp (disch := omega) only [g2a, g2o, g2n, ht j hj]
  generalize hI1 : gu2 (gu2 I g 11 (nI 66)) g 12 (nI 0) = I1 at e0 t1
  have a0 : I1 g 2 = nI (fB F) := by rw [← hI1]; simp (disch := omega) only [g2a, g2o, g2n, d2]
  have a11 : I1 g 11 = nI 66 := by rw [← hI1]; simp (disch := omega) only [g2a, g2o, g2n]
  have a12 : I1 g 12 = nI 0 := by rw [← hI1]; simp (disch := omega) only [g2a, g2o, g2n]
  have k1 : ∀ a j, (a ≠ g ∨ (j ≠ 11 ∧ j ≠ 12)) → I1 a j = I a j := fun a j q => by
    rw [← hI1]
    by_cases w : a = g
    · subst w
      simp (disch := omega) only [g2a, g2o, g2n]
    · simp (disch := omega) only [g2a, g2o, g2n]
  rcases itemC (L := L) h60 t1 (show i + 1 ≤ xs.length by omega) (by omega) a11 (by decide) (by decide) (fun x => 48 + 1 ≤ x ∧ x ≤ 48 + 9) (gu2 (gu2 I1 g 12 (nI 1)) (g + 4) (fB F) (nI (xs.getD (i + 1) 0) - nI 48))
    (fun q w => tk_go (by omega) (by omega) a11 (by decide) (by decide) (by omega) (go_66 a11 (by omega) (by rw [tb0 a0 hB a12 (xlt hx q), bf1 w])))
    (fun q w => ⟨_, tk_go (by omega) (by omega) a11 (by decide) (by decide) (by omega) (go_66 a11 (by omega) (by rw [tb0 a0 hB a12 (xlt hx q), bf0 w]))⟩) with ⟨q1, w1, e1⟩ | ⟨f1, J, e1⟩
  · have p1 : fOk xs 1 9 (i + 1) := ⟨q1, w1⟩
    generalize hI2 : gu2 (gu2 I1 g 12 (nI 1)) (g + 4) (fB F) (nI (xs.getD (i + 1) 0) - nI 48) = I2 at e1
    have b0 : I2 g 2 = nI (fB F) := by rw [← hI2]; simp (disch := omega) only [g2a, g2o, g2n, a0]
    have b11 : I2 g 11 = nI 66 := by rw [← hI2]; simp (disch := omega) only [g2a, g2o, g2n, a11]
    have b12 : I2 g 12 = nI 1 := by rw [← hI2]; simp (disch := omega) only [g2a, g2o, g2n]
    have t2 : cLet I2 xs := fun j hj => by rw [← hI2]; simp (disch := omega) only [g2a, g2o, g2n, t1 j hj]
    rcases itemC (L := L) h60 t2 (show i + 1 + 1 ≤ xs.length by omega) (by omega) b11 (by decide) (by decide) (fun x => 48 + 0 ≤ x ∧ x ≤ 48 + 3) (gu2 (gu2 (gu2 I2 (g + 5) (fB F) (nI (xs.getD (i + 1 + 1) 0) - nI 48)) g 2 (nI (fB F + 1))) g 11 (nI 0))
      (fun q w => tk_go (by omega) (by omega) b11 (by decide) (by decide) (by omega) (go_66 b11 (by omega) (by rw [tb1 b0 hB b12 (xlt hx q), bf1 w])))
      (fun q w => ⟨_, tk_go (by omega) (by omega) b11 (by decide) (by decide) (by omega) (go_66 b11 (by omega) (by rw [tb1 b0 hB b12 (xlt hx q), bf0 w]))⟩) with ⟨q2, w2, e2⟩ | ⟨f2, J, e2⟩
    · have p2 : fOk xs 0 3 (i + 2) := ⟨q2, w2⟩
      unfold pB
      rw [if_pos p1, if_pos p2]
      have w2' : 48 ≤ xs.getD (i + 2) 0 ∧ xs.getD (i + 2) 0 ≤ 51 := w2
      refine ⟨⟨by show i < i + 3; omega, by show i + 3 ≤ xs.length; omega⟩, addB_ok ok hB (by omega) (by omega), _, e0.trans (e1.trans e2), ⟨⟨?_, ?_, ?_, ?_, ?_, ?_, ?_, ?_, ?_⟩, ?_⟩, g2a, ?_, ?_⟩
      · rw [← hI2]
        simp (disch := omega) only [g2a, g2o, g2n]
        rw [k1 g 0 (by omega)]
        exact d0
      · rw [← hI2]
        simp (disch := omega) only [g2a, g2o, g2n]
        rw [k1 g 1 (by omega)]
        exact d1
      · simp (disch := omega) only [g2a, g2o, g2n]
        rfl
      · rw [← hI2]
        simp (disch := omega) only [g2a, g2o, g2n]
        rw [k1 g 3 (by omega)]
        exact d3
      · intro j hj
        rw [← hI2]
        simp (disch := omega) only [g2a, g2o, g2n]
        rw [k1 (g + 2) j (by omega)]
        exact dk j hj
      · intro j hj
        rw [← hI2]
        simp (disch := omega) only [g2a, g2o, g2n]
        rw [k1 (g + 3) j (by omega)]
        exact dl j hj
      · intro j hj
        have hj : j < fB F + 1 := hj
        show _ = nI (if j = fB F then _ else fw F j)
        rw [← hI2]
        by_cases q : j = fB F
        · rw [if_pos q, q]
          simp (disch := omega) only [g2a, g2o, g2n]
          exact sub48 (by omega)
        · rw [if_neg q]
          simp (disch := omega) only [g2a, g2o, g2n]
          rw [k1 (g + 4) j (by omega)]
          exact dw j (by omega)
      · intro j hj
        have hj : j < fB F + 1 := hj
        show _ = nI (if j = fB F then _ else fb F j)
        by_cases q : j = fB F
        · rw [if_pos q, q]
          simp (disch := omega) only [g2a, g2o, g2n]
          exact sub48 w2.1
        · rw [if_neg q, ← hI2]
          simp (disch := omega) only [g2a, g2o, g2n]
          rw [k1 (g + 5) j (by omega)]
          exact db j (by omega)
      · intro j hj
        rw [← hI2]
        simp (disch := omega) only [g2a, g2o, g2n]
        rw [k1 (g + 6) j (by omega)]
        exact dv j hj
      · intro j hj
        rw [← hI2]
        simp (disch := omega) only [g2a, g2o, g2n]
        rw [k1 (g + 1) j (by omega)]
        exact dn j hj
      · rw [← hI2]
        simp (disch := omega) only [g2a, g2o, g2n]
        exact k1 g 4 (by omega)
      · intro a ha
        rw [gu2_other (by omega), gu2_other (by omega), gu2_other (by omega), ← hI2, gu2_other (by omega), gu2_other (by omega), ← hI1, gu2_other (by omega), gu2_other (by omega)]
    · have p2 : ¬ fOk xs 0 3 (i + 2) := f2
      unfold pB
      rw [if_pos p1, if_neg p2]
      exact ⟨by omega, J, e0.trans (e1.trans e2)⟩
  · have p1 : ¬ fOk xs 1 9 (i + 1) := f1
    unfold pB
    rw [if_neg p1]
    exact ⟨by omega, J, e0.trans e1⟩
