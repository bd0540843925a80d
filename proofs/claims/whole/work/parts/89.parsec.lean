/-! THE TEXT, as the class reads it -/
theorem tk_go {I I' : gII} {L : gLL} {g p x c b : Nat} (hp : 2 ≤ p) (hp2 : p < 100) (h11 : I g 11 = nI c) (hc : c ≠ 0) (hc2 : c < 256) (hb : b ≤ 1) (h : r_X1_goesOn I L g (nI x) = some (nI b, I', L)) : r_X1_takes I L g (nI x) (nI p) = some (nI b, I', L) := by
  unfold r_X1_takes
  rw [if_pos (show ¬ nI p = 0 by rw [n_eq0 (by omega)]; omega), if_pos (show ¬ nI p = nI 1 by rw [n_eq (by omega) (by omega)]; omega), h11, if_pos (show ¬ nI c = 0 by rw [n_eq0 (by omega)]; exact hc), h, Option.bind_some]
  rcases (by omega : b = 0 ∨ b = 1) with rfl | rfl
  · exact if_pos zd0
  · exact if_pos zd1
theorem tk_st {I : gII} {L : gLL} {g p x b : Nat} (hp : 2 ≤ p) (hp2 : p < 100) (h11 : I g 11 = nI 0) (hb : b ≤ 1) (h : f_X1_mayStart (gu2 (gu2 I g 11 (nI x)) g 12 (nI 0)) L g (nI x) = nI b) : r_X1_takes I L g (nI x) (nI p) = some (nI b, gu2 (gu2 I g 11 (nI x)) g 12 (nI 0), L) := by
  unfold r_X1_takes
  rw [if_pos (show ¬ nI p = 0 by rw [n_eq0 (by omega)]; omega), if_pos (show ¬ nI p = nI 1 by rw [n_eq (by omega) (by omega)]; omega), h11, if_neg zn0, h]
  rcases (by omega : b = 0 ∨ b = 1) with rfl | rfl
  · exact if_pos zd0
  · exact if_pos zd1
theorem go_66 {I I' : gII} {L : gLL} {g x b : Nat} (h11 : I g 11 = nI 66) (hb : b ≤ 1) (h : r_X1_takesBeast I L g (nI x) = some (nI b, I', L)) : r_X1_goesOn I L g (nI x) = some (nI b, I', L) := by
  unfold r_X1_goesOn
  rw [h11, if_pos rfl, h, Option.bind_some]
  rcases (by omega : b = 0 ∨ b = 1) with rfl | rfl
  · exact if_pos zd0
  · exact if_pos zd1
theorem go_71 {I I' : gII} {L : gLL} {g x b : Nat} (h11 : I g 11 = nI 71) (hb : b ≤ 1) (h : r_X1_takesGate I L g (nI x) = some (nI b, I', L)) : r_X1_goesOn I L g (nI x) = some (nI b, I', L) := by
  unfold r_X1_goesOn
  rw [h11, if_neg (by decide), if_pos rfl, h, Option.bind_some]
  rcases (by omega : b = 0 ∨ b = 1) with rfl | rfl
  · exact if_pos zd0
  · exact if_pos zd1
theorem go_76 {I I' : gII} {L : gLL} {g x b : Nat} (h11 : I g 11 = nI 76) (hb : b ≤ 1) (h : r_X1_takesLane I L g (nI x) = some (nI b, I', L)) : r_X1_goesOn I L g (nI x) = some (nI b, I', L) := by
  unfold r_X1_goesOn
  rw [h11, if_neg (by decide), if_neg (by decide), if_pos rfl, h, Option.bind_some]
  rcases (by omega : b = 0 ∨ b = 1) with rfl | rfl
  · exact if_pos zd0
  · exact if_pos zd1
theorem go_86 {I I' : gII} {L : gLL} {g x b : Nat} (h11 : I g 11 = nI 86) (hb : b ≤ 1) (h : r_X1_takesVerse I L g (nI x) = some (nI b, I', L)) : r_X1_goesOn I L g (nI x) = some (nI b, I', L) := by
  unfold r_X1_goesOn
  rw [h11, if_neg (by decide), if_neg (by decide), if_neg (by decide), if_pos rfl, h, Option.bind_some]
  rcases (by omega : b = 0 ∨ b = 1) with rfl | rfl
  · exact if_pos zd0
  · exact if_pos zd1
theorem bn_le (x : Nat) : bn x ≤ 1 := by
  unfold bn
  split <;> omega
theorem bf_le (x lo hi : Nat) : bf x lo hi ≤ 1 := by
  unfold bf
  split <;> omega
theorem bz {b : Nat} (h : b ≤ 1) : (nI b : Int32) = 0 ∨ (nI b : Int32) = 1 := by
  rcases (by omega : b = 0 ∨ b = 1) with rfl | rfl
  · exact zd0
  · exact zd1
theorem bf4 {I : gII} {L : gLL} {x : Nat} (hx : x < 256) : f_X7_isKind I L (nI x - nI 48) = nI (bf x 0 3) := by
  show inb (nI x - nI 48) 4 = _
  rw [inb48' x hx 4 (by omega)]
  unfold bf
  by_cases q : 48 ≤ x ∧ x < 48 + 4
  · rw [if_pos q, if_pos (by omega)]
  · rw [if_neg q, if_neg (by omega)]
theorem tg0 {I : gII} {L : gLL} {g G x : Nat} (h0 : I g 0 = nI G) (hG : G < 5) (h12 : I g 12 = nI 0) (hx : x < 256) : r_X1_takesGate I L g (nI x) = some (nI (bn x), gu2 (gu2 I g 12 (nI 1)) (g + 1) G (nI x - nI 97), L) := by
  have e0 : gu2 I g 12 (nI 1) g 0 = nI G := by rw [g2n (by decide), h0]
  unfold r_X1_takesGate
  rw [h0, if_pos (show nI G < nI 5 by simp (disch := omega) only [n_le, n_lt, n_eq, n_eq0, n_0lt, n_le0, n_lt0, n_0le, n_gvp, n_gx, n_add, n_mul, decide_eq_true_eq, Option.bind_some, if_false, if_true, not_false_eq_true, not_true_eq_false]; omega), h12, if_neg zn0, e0, n_gx (by omega), if_pos (show gvp (nI G) 5 = true by rw [n_gvp (by omega)]; simpa using hG), isNote_v hx, if_pos (bz (bn_le x))]
theorem tg1 {I : gII} {L : gLL} {g G x : Nat} (h0 : I g 0 = nI G) (hG : G < 5) (h12 : I g 12 = nI 1) (hx : x < 256) : r_X1_takesGate I L g (nI x) = some (nI (bf x 0 3), gu2 (gu2 (gu2 I (g + 2) G (nI x - nI 48)) g 0 (nI (G + 1))) g 11 (nI 0), L) := by
  have e0 : gu2 I (g + 2) G (nI x - nI 48) g 0 = nI G := by rw [gu2_other (by omega), h0]
  unfold r_X1_takesGate
  rw [h0, if_pos (show nI G < nI 5 by simp (disch := omega) only [n_le, n_lt, n_eq, n_eq0, n_0lt, n_le0, n_lt0, n_0le, n_gvp, n_gx, n_add, n_mul, decide_eq_true_eq, Option.bind_some, if_false, if_true, not_false_eq_true, not_true_eq_false]; omega), h12, if_pos z1, n_gx (by omega), e0, n_add, if_pos (show gvp (nI G) 5 = true by rw [n_gvp (by omega)]; simpa using hG), bf4 hx, if_pos (bz (bf_le x 0 3))]
theorem tb0 {I : gII} {L : gLL} {g B x : Nat} (h2 : I g 2 = nI B) (hB : B < 5) (h12 : I g 12 = nI 0) (hx : x < 256) : r_X1_takesBeast I L g (nI x) = some (nI (bf x 1 9), gu2 (gu2 I g 12 (nI 1)) (g + 4) B (nI x - nI 48), L) := by
  have e0 : gu2 I g 12 (nI 1) g 2 = nI B := by rw [g2n (by decide), h2]
  unfold r_X1_takesBeast r_X1_takesBeast_28
  rw [h2, if_pos (show nI B < nI 5 by simp (disch := omega) only [n_le, n_lt, n_eq, n_eq0, n_0lt, n_le0, n_lt0, n_0le, n_gvp, n_gx, n_add, n_mul, decide_eq_true_eq, Option.bind_some, if_false, if_true, not_false_eq_true, not_true_eq_false]; omega), h12, if_neg zn0, e0, n_gx (by omega), if_pos (show gvp (nI B) 5 = true by rw [n_gvp (by omega)]; simpa using hB)]
  unfold bf
  by_cases q1 : x < 49
  · rw [if_pos (show nI x < nI 49 by simp (disch := omega) only [n_le, n_lt, n_eq, n_eq0, n_0lt, n_le0, n_lt0, n_0le, n_gvp, n_gx, n_add, n_mul, decide_eq_true_eq, Option.bind_some, if_false, if_true, not_false_eq_true, not_true_eq_false]; omega), if_neg (by omega)]
  · rw [if_neg (show ¬ nI x < nI 49 by simp (disch := omega) only [n_le, n_lt, n_eq, n_eq0, n_0lt, n_le0, n_lt0, n_0le, n_gvp, n_gx, n_add, n_mul, decide_eq_true_eq, Option.bind_some, if_false, if_true, not_false_eq_true, not_true_eq_false]; omega)]
    by_cases q2 : 57 < x
    · rw [if_pos (show nI 57 < nI x by simp (disch := omega) only [n_le, n_lt, n_eq, n_eq0, n_0lt, n_le0, n_lt0, n_0le, n_gvp, n_gx, n_add, n_mul, decide_eq_true_eq, Option.bind_some, if_false, if_true, not_false_eq_true, not_true_eq_false]; omega), if_neg (by omega)]
    · rw [if_neg (show ¬ nI 57 < nI x by simp (disch := omega) only [n_le, n_lt, n_eq, n_eq0, n_0lt, n_le0, n_lt0, n_0le, n_gvp, n_gx, n_add, n_mul, decide_eq_true_eq, Option.bind_some, if_false, if_true, not_false_eq_true, not_true_eq_false]; omega), if_pos (by omega)]
theorem tb1 {I : gII} {L : gLL} {g B x : Nat} (h2 : I g 2 = nI B) (hB : B < 5) (h12 : I g 12 = nI 1) (hx : x < 256) : r_X1_takesBeast I L g (nI x) = some (nI (bf x 0 3), gu2 (gu2 (gu2 I (g + 5) B (nI x - nI 48)) g 2 (nI (B + 1))) g 11 (nI 0), L) := by
  have e0 : gu2 I (g + 5) B (nI x - nI 48) g 2 = nI B := by rw [gu2_other (by omega), h2]
  unfold r_X1_takesBeast
  rw [h2, if_pos (show nI B < nI 5 by simp (disch := omega) only [n_le, n_lt, n_eq, n_eq0, n_0lt, n_le0, n_lt0, n_0le, n_gvp, n_gx, n_add, n_mul, decide_eq_true_eq, Option.bind_some, if_false, if_true, not_false_eq_true, not_true_eq_false]; omega), h12, if_pos z1, n_gx (by omega), e0, n_add, if_pos (show gvp (nI B) 5 = true by rw [n_gvp (by omega)]; simpa using hB), bf4 hx, if_pos (bz (bf_le x 0 3))]
theorem tl_no {I : gII} {L : gLL} {g G N k x : Nat} (h0 : I g 0 = nI G) (hG : G ≤ 5) (h1 : I g 1 = nI N) (hN : N < 3) (h12 : I g 12 = nI k) (hk : k < 3) (hx : x < 256) (h : ¬ (48 ≤ x ∧ x < 48 + G)) : r_X1_takesLane I L g (nI x) = some (nI 0, I, L) := by
  have e : f_X1_isGate I L g (nI x - nI 48) = nI 0 := by
    show (if nI x - nI 48 < 0 then nI 0 else (if I g 0 ≤ nI x - nI 48 then nI 0 else nI 1)) = nI 0
    rw [h0]
    have := inb48' x hx G (by omega)
    rw [if_neg h] at this
    exact this
  unfold r_X1_takesLane r_X1_takesLane_19
  rw [h1, h12, n_mul, n_add, if_neg (show ¬ nI 9 ≤ nI (N * 3 + k) by simp (disch := omega) only [n_le, n_lt, n_eq, n_eq0, n_0lt, n_le0, n_lt0, n_0le, n_gvp, n_gx, n_add, n_mul, decide_eq_true_eq, Option.bind_some, if_false, if_true, not_false_eq_true, not_true_eq_false]; omega), e, if_neg zn0]
theorem tl_ok {I : gII} {L : gLL} {g G N k x : Nat} (h0 : I g 0 = nI G) (hG : G ≤ 5) (h1 : I g 1 = nI N) (hN : N < 3) (h12 : I g 12 = nI k) (hk : k < 3) (hx : x < 256) (h : 48 ≤ x ∧ x < 48 + G) : r_X1_takesLane I L g (nI x) = some (nI 1, (if k = 2 then gu2 (gu2 (gu2 (gu2 I (g + 3) (N * 3 + k) (nI (x - 48))) g 12 (nI (k + 1))) g 1 (nI (N + 1))) g 11 (nI 0) else gu2 (gu2 I (g + 3) (N * 3 + k) (nI (x - 48))) g 12 (nI (k + 1))), L) := by
  have e : f_X1_isGate I L g (nI x - nI 48) = nI 1 := by
    show (if nI x - nI 48 < 0 then nI 0 else (if I g 0 ≤ nI x - nI 48 then nI 0 else nI 1)) = nI 1
    rw [h0]
    have := inb48' x hx G (by omega)
    rw [if_pos h] at this
    exact this
  have e12 : gu2 I (g + 3) (N * 3 + k) (nI (x - 48)) g 12 = nI k := by rw [gu2_other (by omega), h12]
  have e1 : gu2 (gu2 I (g + 3) (N * 3 + k) (nI (x - 48))) g 12 (nI (k + 1)) g 1 = nI N := by rw [g2n (by decide), gu2_other (by omega), h1]
  unfold r_X1_takesLane r_X1_takesLane_47
  rw [h1, h12, n_mul, n_add, if_neg (show ¬ nI 9 ≤ nI (N * 3 + k) by simp (disch := omega) only [n_le, n_lt, n_eq, n_eq0, n_0lt, n_le0, n_lt0, n_0le, n_gvp, n_gx, n_add, n_mul, decide_eq_true_eq, Option.bind_some, if_false, if_true, not_false_eq_true, not_true_eq_false]; omega), e, if_pos z1, if_pos (show gvp (nI (N * 3 + k)) 9 = true by rw [n_gvp (by omega)]; simp; omega), n_gx (by omega), sub48 h.1, e12, n_add, e1, n_add, g2a]
  by_cases q : k = 2
  · rw [if_pos q, if_neg (show ¬ ¬ nI (k + 1) = nI 3 from fun w => w (by rw [q]))]
  · rw [if_neg q, if_pos (show ¬ nI (k + 1) = nI 3 by rw [n_eq (by omega) (by omega)]; omega)]
theorem tv_no {I : gII} {L : gLL} {g N k x : Nat} (h3 : I g 3 = nI N) (hN : N < 2) (h12 : I g 12 = nI k) (hk : k < 4) (hx : x < 256) (h : ¬ (x = 45 ∨ (97 ≤ x ∧ x ≤ 108))) : r_X1_takesVerse I L g (nI x) = some (nI 0, I, L) := by
  unfold r_X1_takesVerse r_X1_takesVerse_19
  rw [h3, h12, n_mul, n_add, if_neg (show ¬ nI 8 ≤ nI (N * 4 + k) by simp (disch := omega) only [n_le, n_lt, n_eq, n_eq0, n_0lt, n_le0, n_lt0, n_0le, n_gvp, n_gx, n_add, n_mul, decide_eq_true_eq, Option.bind_some, if_false, if_true, not_false_eq_true, not_true_eq_false]; omega), if_neg (show ¬ nI x = nI 45 by rw [n_eq (by omega) (by omega)]; omega), isNote_v hx]
  unfold bn
  rw [if_neg (show ¬ (97 ≤ x ∧ x ≤ 108) by omega), if_neg zn0]
theorem tv_ok {I : gII} {L : gLL} {g N k x : Nat} (h3 : I g 3 = nI N) (hN : N < 2) (h12 : I g 12 = nI k) (hk : k < 4) (hx : x < 256) (h : x = 45 ∨ (97 ≤ x ∧ x ≤ 108)) : r_X1_takesVerse I L g (nI x) = some (nI 1, (if k = 3 then gu2 (gu2 (gu2 (gu2 I (g + 6) (N * 4 + k) (nI (tnV x))) g 12 (nI (k + 1))) g 3 (nI (N + 1))) g 11 (nI 0) else gu2 (gu2 I (g + 6) (N * 4 + k) (nI (tnV x))) g 12 (nI (k + 1))), L) := by
  have key : r_X1_takesVerse_21 g (nI x) (nI (N * 4 + k)) I L = some (nI 1, (if k = 3 then gu2 (gu2 (gu2 (gu2 I (g + 6) (N * 4 + k) (nI (tnV x))) g 12 (nI (k + 1))) g 3 (nI (N + 1))) g 11 (nI 0) else gu2 (gu2 I (g + 6) (N * 4 + k) (nI (tnV x))) g 12 (nI (k + 1))), L) := by
    have et : (if ¬ nI x = nI 45 then (nI x - nI 97) else nI 12) = nI (tnV x) := by
      unfold tnV
      by_cases q : x = 45
      · rw [if_neg (show ¬ ¬ nI x = nI 45 from fun w => w (by rw [q])), if_pos q]
      · rw [if_pos (show ¬ nI x = nI 45 by rw [n_eq (by omega) (by omega)]; exact q), if_neg q, sub97 (by omega)]
    have e12 : gu2 I (g + 6) (N * 4 + k) (nI (tnV x)) g 12 = nI k := by rw [gu2_other (by omega), h12]
    have e1 : gu2 (gu2 I (g + 6) (N * 4 + k) (nI (tnV x))) g 12 (nI (k + 1)) g 3 = nI N := by rw [g2n (by decide), gu2_other (by omega), h3]
    unfold r_X1_takesVerse_21
    rw [if_pos (show gvp (nI (N * 4 + k)) 8 = true by rw [n_gvp (by omega)]; simp; omega), n_gx (by omega), et, e12, n_add, e1, n_add, g2a]
    by_cases q : k = 3
    · rw [if_pos q, if_neg (show ¬ ¬ nI (k + 1) = nI 4 from fun w => w (by rw [q]))]
    · rw [if_neg q, if_pos (show ¬ nI (k + 1) = nI 4 by rw [n_eq (by omega) (by omega)]; omega)]
  unfold r_X1_takesVerse
  rw [h3, h12, n_mul, n_add, if_neg (show ¬ nI 8 ≤ nI (N * 4 + k) by simp (disch := omega) only [n_le, n_lt, n_eq, n_eq0, n_0lt, n_le0, n_lt0, n_0le, n_gvp, n_gx, n_add, n_mul, decide_eq_true_eq, Option.bind_some, if_false, if_true, not_false_eq_true, not_true_eq_false]; omega), key]
  by_cases q : x = 45
  · rw [if_pos (by rw [q])]
  · rw [if_neg (show ¬ nI x = nI 45 by rw [n_eq (by omega) (by omega)]; exact q), isNote_v hx]
    unfold bn
    rw [if_pos (show 97 ≤ x ∧ x ≤ 108 by omega), if_pos z1]
/-! the loop over letters -/
def cLet (I : gII) (xs : List Nat) : Prop := ∀ j, j < xs.length → I 3 j = nI (xs.getD j 0)
theorem rd_yes {I I' : gII} {L : gLL} {g p m : Nat} {xs : List Nat} (h60 : xs.length ≤ 60) (ht : cLet I xs) (hp : p < xs.length) (h : r_X1_takes I L g (nI (xs.getD p 0)) (nI p) = some (nI 1, I', L)) : r_X1_read_17 g (m + 1) (nI xs.length) (nI p) I L = r_X1_read_17 g m (nI xs.length) (nI (p + 1)) I' L := by
  rw [r_X1_read_17, if_neg (show ¬ nI xs.length ≤ nI p by simp (disch := omega) only [n_le, n_lt, n_eq, n_eq0, n_0lt, n_le0, n_lt0, n_0le, n_gvp, n_gx, n_add, n_mul, decide_eq_true_eq, Option.bind_some, if_false, if_true, not_false_eq_true, not_true_eq_false]; omega), if_neg (show ¬ nI 60 ≤ nI p by simp (disch := omega) only [n_le, n_lt, n_eq, n_eq0, n_0lt, n_le0, n_lt0, n_0le, n_gvp, n_gx, n_add, n_mul, decide_eq_true_eq, Option.bind_some, if_false, if_true, not_false_eq_true, not_true_eq_false]; omega), if_pos (show gvp (nI p) 60 = true by rw [n_gvp (by omega)]; simp; omega), n_gx (by omega), ht p hp, h, Option.bind_some]
  dsimp only
  rw [if_pos z1, n_add]
theorem rd_no {I I' : gII} {L : gLL} {g p m : Nat} {xs : List Nat} (h60 : xs.length ≤ 60) (ht : cLet I xs) (hp : p < xs.length) (h : r_X1_takes I L g (nI (xs.getD p 0)) (nI p) = some (nI 0, I', L)) : r_X1_read_17 g (m + 1) (nI xs.length) (nI p) I L = some (nI p, I', L) := by
  rw [r_X1_read_17, if_neg (show ¬ nI xs.length ≤ nI p by simp (disch := omega) only [n_le, n_lt, n_eq, n_eq0, n_0lt, n_le0, n_lt0, n_0le, n_gvp, n_gx, n_add, n_mul, decide_eq_true_eq, Option.bind_some, if_false, if_true, not_false_eq_true, not_true_eq_false]; omega), if_neg (show ¬ nI 60 ≤ nI p by simp (disch := omega) only [n_le, n_lt, n_eq, n_eq0, n_0lt, n_le0, n_lt0, n_0le, n_gvp, n_gx, n_add, n_mul, decide_eq_true_eq, Option.bind_some, if_false, if_true, not_false_eq_true, not_true_eq_false]; omega), if_pos (show gvp (nI p) 60 = true by rw [n_gvp (by omega)]; simp; omega), n_gx (by omega), ht p hp, h, Option.bind_some]
  dsimp only
  rw [if_neg zn0]
theorem rd_end {I : gII} {L : gLL} {g m c : Nat} {xs : List Nat} (h60 : xs.length ≤ 60) (h11 : I g 11 = nI c) (hc : c < 256) : r_X1_read_17 g (m + 1) (nI xs.length) (nI xs.length) I L = some ((if xs.length < 2 then nI xs.length else if c = 0 then -9 else nI xs.length), I, L) := by
  rw [r_X1_read_17, if_pos (show nI xs.length ≤ nI xs.length by simp (disch := omega) only [n_le, n_lt, n_eq, n_eq0, n_0lt, n_le0, n_lt0, n_0le, n_gvp, n_gx, n_add, n_mul, decide_eq_true_eq, Option.bind_some, if_false, if_true, not_false_eq_true, not_true_eq_false]; omega)]
  unfold r_X1_read_35
  rw [h11]
  by_cases q : xs.length < 2
  · rw [if_pos q, if_pos (show nI xs.length < nI 2 by simp (disch := omega) only [n_le, n_lt, n_eq, n_eq0, n_0lt, n_le0, n_lt0, n_0le, n_gvp, n_gx, n_add, n_mul, decide_eq_true_eq, Option.bind_some, if_false, if_true, not_false_eq_true, not_true_eq_false]; omega)]
  · rw [if_neg q, if_neg (show ¬ nI xs.length < nI 2 by simp (disch := omega) only [n_le, n_lt, n_eq, n_eq0, n_0lt, n_le0, n_lt0, n_0le, n_gvp, n_gx, n_add, n_mul, decide_eq_true_eq, Option.bind_some, if_false, if_true, not_false_eq_true, not_true_eq_false]; omega)]
    by_cases w : c = 0
    · rw [if_pos w, if_pos (by rw [w]; rfl)]
    · rw [if_neg w, if_neg (show ¬ nI c = 0 by rw [n_eq0 (by omega)]; exact w)]
/-- one letter within a part -/
theorem item {I : gII} {L : gLL} {g p m c : Nat} {xs : List Nat} (h60 : xs.length ≤ 60) (ht : cLet I xs) (hp : p ≤ xs.length) (hp2 : 2 ≤ p) (h11 : I g 11 = nI c) (hc : c ≠ 0) (hc2 : c < 256) (P : Nat → Prop) (I' : gII)
    (hy : p < xs.length → P (xs.getD p 0) → r_X1_takes I L g (nI (xs.getD p 0)) (nI p) = some (nI 1, I', L))
    (hn : p < xs.length → ¬ P (xs.getD p 0) → ∃ J, r_X1_takes I L g (nI (xs.getD p 0)) (nI p) = some (nI 0, J, L)) :
    (p < xs.length ∧ P (xs.getD p 0) ∧ r_X1_read_17 g (m + 1) (nI xs.length) (nI p) I L = r_X1_read_17 g m (nI xs.length) (nI (p + 1)) I' L) ∨ (¬ (p < xs.length ∧ P (xs.getD p 0)) ∧ ∃ J, r_X1_read_17 g (m + 1) (nI xs.length) (nI p) I L = some (nI p, J, L)) := by
  by_cases q : p < xs.length
  · by_cases w : P (xs.getD p 0)
    · exact Or.inl ⟨q, w, rd_yes h60 ht q (hy q w)⟩
    · obtain ⟨J, e⟩ := hn q w
      exact Or.inr ⟨fun h => w h.2, J, rd_no h60 ht q e⟩
  · have e : p = xs.length := by omega
    subst e
    refine Or.inr ⟨fun h => q h.1, I, ?_⟩
    rw [rd_end h60 h11 hc2, if_neg (by omega), if_neg hc]
