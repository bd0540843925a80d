/-! RANGES: the reference's in against the class's comparisons -/
theorem in_top : ∀ n, n ≤ 100 → (Int32.toInt64 (nI n - nI 1)).toInt = (n : Int) - 1 := by decide +kernel
theorem in_32 {I : gII} {L : gLL} {x : Int32} {n : Nat} (hn : n ≤ 100) : f_X8_in I L (Int32.toInt64 x) (lN 0) (Int32.toInt64 (nI n - nI 1)) = if x < 0 then nI 0 else if nI n ≤ x then nI 0 else nI 1 := by
  unfold f_X8_in
  have e1 : (Int32.toInt64 x).toInt = x.toInt := Int32.toInt_toInt64 x
  have e2 := in_top n hn
  have e3 : (nI n).toInt = (n : Int) := n_ti (by omega)
  have e4 : (lN 0).toInt = 0 := by decide
  have e5 : (0 : Int32).toInt = 0 := by decide
  simp only [lg_cmp_lt, lg_cmp_gt]
  simp only [Int64.lt_iff_toInt_lt, Int32.lt_iff_toInt_lt, Int32.le_iff_toInt_le, e1, e2, e3, e4, e5]
  by_cases h : x.toInt < 0
  · rw [if_pos h, if_pos h]
  · rw [if_neg h, if_neg h]
    by_cases h2 : (n : Int) ≤ x.toInt
    · rw [if_pos h2, if_pos (by omega)]
    · rw [if_neg h2, if_neg (by omega)]
theorem in_01 {x : Int32} {n : Nat} : (if x < 0 then nI 0 else if nI n ≤ x then nI 0 else nI 1) = 0 ∨ (if x < 0 then nI 0 else if nI n ≤ x then nI 0 else nI 1) = 1 := by
  split
  · exact Or.inl rfl
  · split
    · exact Or.inl rfl
    · exact Or.inr rfl
theorem isBeast_r {I : gII} {L : gLL} {F : TFen} {x : Int32} (hF : okF F) (hc : rFen I F) : r_X8_isBeast I L x = some ((if x < 0 then nI 0 else if nI (fB F) ≤ x then nI 0 else nI 1), I, L) := by
  have := hF.2.2.1
  unfold r_X8_isBeast
  rw [hc.2.2.1, in_32 (by omega), if_pos in_01]
theorem isLane_r {I : gII} {L : gLL} {F : TFen} {x : Int32} (hF : okF F) (hc : rFen I F) : r_X8_isLane I L x = some ((if x < 0 then nI 0 else if nI (fL F) ≤ x then nI 0 else nI 1), I, L) := by
  have := hF.2.1
  unfold r_X8_isLane
  rw [hc.2.1, in_32 (by omega), if_pos in_01]
