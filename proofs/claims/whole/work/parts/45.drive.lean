/-! LONGS (rows of the kit's BITS.to-paste), what is SUNG, how a GATE is PASSED, a drive of the class -/
theorem wb_tb (n : Nat) : (lN n).toBitVec = BitVec.ofNat 64 n := rfl
theorem wb_inj {a b : Int64} (h : a.toBitVec = b.toBitVec) : a = b := Int64.toBitVec_inj.mp h
theorem wb_tn {n : Nat} (h : n < 2 ^ 64) : (lN n).toBitVec.toNat = n := by rw [wb_tb, BitVec.toNat_ofNat, Nat.mod_eq_of_lt h]
theorem wb_of (x : Int64) : ∃ n, n < 2 ^ 64 ∧ x = lN n := ⟨x.toBitVec.toNat, x.toBitVec.isLt, wb_inj (by rw [wb_tb]; simp)⟩
theorem wb_of32 (x : Int32) : ∃ n, n < 2 ^ 32 ∧ x = nI n := ⟨x.toBitVec.toNat, x.toBitVec.isLt, Int32.toBitVec_inj.mp (by show _ = BitVec.ofNat 32 _; simp)⟩
theorem wb_c : ∀ k, k < 64 → ((nI k).toInt64 &&& 63) = lN k := by decide +kernel
theorem wb_cu : ∀ k, k < 64 → ((nI k).toInt64.toUInt64 &&& Int64.toUInt64 63) = UInt64.ofNat k := by decide +kernel
theorem wb_sm : ∀ k, k < 64 → (BitVec.ofNat 64 k).smod 64 = BitVec.ofNat 64 k := by decide +kernel
theorem wb_pw {a b : Nat} (h : a ≤ b) : 2 ^ b = 2 ^ a * 2 ^ (b - a) := by rw [← Nat.pow_add]; congr 1; omega
theorem wb_lt2 {a b : Nat} (h : a < b) : 2 ^ a < 2 ^ b := Nat.pow_lt_pow_right (by decide) h
theorem wb_mod (n : Nat) : lN n = lN (n % 2 ^ 64) := wb_inj (by rw [wb_tb, wb_tb]; apply BitVec.eq_of_toNat_eq; rw [BitVec.toNat_ofNat, BitVec.toNat_ofNat, Nat.mod_mod])
theorem wb_shr {n k : Nat} (hn : n < 2 ^ 64) (hk : k < 64) : ((lN n).toUInt64 >>> ((nI k).toInt64.toUInt64 &&& Int64.toUInt64 63)).toInt64 = lN (n / 2 ^ k) := by
  rw [wb_cu k hk]
  apply wb_inj
  apply BitVec.eq_of_toNat_eq
  show ((lN n).toUInt64 >>> UInt64.ofNat k).toNat = (BitVec.ofNat 64 _).toNat
  have h1 : (UInt64.ofNat k).toNat = k := by
    show (BitVec.ofNat 64 k).toNat = k
    rw [BitVec.toNat_ofNat, Nat.mod_eq_of_lt (by omega)]
  have h2 : (lN n).toUInt64.toNat = n := wb_tn hn
  rw [UInt64.toNat_shiftRight, h1, h2, Nat.mod_eq_of_lt hk, Nat.shiftRight_eq_div_pow, BitVec.toNat_ofNat, Nat.mod_eq_of_lt (Nat.lt_of_le_of_lt (Nat.div_le_self _ _) hn)]
theorem wb_shl (n : Nat) {k : Nat} (hk : k < 64) : lN n <<< ((nI k).toInt64 &&& 63) = lN (n * 2 ^ k) := by
  rw [wb_c k hk]
  apply wb_inj
  rw [Int64.toBitVec_shiftLeft, wb_tb, wb_tb, wb_tb, wb_sm k hk]
  apply BitVec.eq_of_toNat_eq
  rw [BitVec.shiftLeft_eq', BitVec.toNat_shiftLeft, BitVec.toNat_ofNat, BitVec.toNat_ofNat, BitVec.toNat_ofNat, Nat.mod_eq_of_lt (show k < 2 ^ 64 by omega), Nat.shiftLeft_eq, Nat.mul_mod, Nat.mod_mod, ← Nat.mul_mod]
theorem wb_or {a b : Nat} (ha : a < 2 ^ 64) (hb : b < 2 ^ 64) : lN a ||| lN b = lN (a ||| b) := by
  apply wb_inj
  rw [Int64.toBitVec_or, wb_tb, wb_tb, wb_tb]
  apply BitVec.eq_of_toNat_eq
  rw [BitVec.toNat_or, BitVec.toNat_ofNat, BitVec.toNat_ofNat, BitVec.toNat_ofNat, Nat.mod_eq_of_lt ha, Nat.mod_eq_of_lt hb, Nat.mod_eq_of_lt (Nat.or_lt_two_pow ha hb)]
theorem n_toL {n : Nat} (h : n < 2147483648) : (nI n).toInt64 = lN n := nI_l h
theorem lshl4 {S t : Nat} (hS : S < 18446744073709551616) (ht : t < 16) : (glshl (lN S) (nI 4)) ||| (nI t).toInt64 = lN (S * 16 % 18446744073709551616 + t) := by
  unfold glshl
  rw [wb_shl S (by decide), n_toL (by omega), wb_mod (S * 2 ^ 4)]
  have e : S * 2 ^ 4 % 2 ^ 64 = S * 16 % 18446744073709551616 := rfl
  rw [e, wb_or (by omega) (by omega)]
  congr 1
  have e2 : S * 16 % 18446744073709551616 = 2 ^ 4 * (S % 1152921504606846976) := by omega
  rw [e2, ← Nat.two_pow_add_eq_or_of_lt (show t < 2 ^ 4 by omega)]
theorem sung16 {S t : Nat} (ht : t < 16) : ∀ j, j < 12 → (S * 16 % 18446744073709551616 + t) / 16 ^ (j + 1) % 16 = S / 16 ^ j % 16 := by
  intro j hj
  rcases (by omega : j = 0 ∨ j = 1 ∨ j = 2 ∨ j = 3 ∨ j = 4 ∨ j = 5 ∨ j = 6 ∨ j = 7 ∨ j = 8 ∨ j = 9 ∨ j = 10 ∨ j = 11) with rfl | rfl | rfl | rfl | rfl | rfl | rfl | rfl | rfl | rfl | rfl | rfl <;> simp only [Nat.reduceAdd, Nat.reducePow] <;> omega
/-- a TONE is SUNG behind what was -/
def addS (V : TMom) (t : Nat) : TMom := (mn V, mp V, (mo V, mi V, mh V, mf V), (t :: ms V).take 12)
theorem addS_len (V : TMom) (t : Nat) (h : (ms V).length ≤ 12) : (ms (addS V t)).length = min ((ms V).length + 1) 12 := by
  show ((t :: ms V).take 12).length = _
  rw [List.length_take, List.length_cons, Nat.min_comm]
theorem addS_ok {F : TFen} {V : TMom} {t : Nat} (hV : okM F V) (ht : t ≤ 12) : okM F (addS V t) := by
  refine ⟨hV.1, hV.2.1, hV.2.2.1, hV.2.2.2.1, hV.2.2.2.2.1, hV.2.2.2.2.2.1, ?_, ?_⟩
  · intro x hx
    have hx : x ∈ (t :: ms V).take 12 := hx
    rcases List.mem_cons.mp (List.mem_of_mem_take hx) with rfl | q
    · exact ht
    · exact hV.2.2.2.2.2.2.1 x q
  · rw [addS_len V t hV.2.2.2.2.2.2.2]
    omega
theorem take_getD {l : List Nat} {k j : Nat} (h : j < k) : (l.take k).getD j 0 = l.getD j 0 := by
  simp [List.getD_eq_getElem?_getD, List.getElem?_take_of_lt h]
theorem addSung_c {I : gII} {L : gLL} {F : TFen} {V : TMom} {m t : Nat} (hV : okM F V) (hM : cMom I L m V) (ht : t ≤ 12) : cMom (i_X4_addSung I L m (nI t)) (l_X4_addSung I L m (nI t)) m (addS V t) := by
  obtain ⟨m0, m1, m2, m3, m4, m5, m7, S, mS, hS1, hS2⟩ := hM
  have hlen := hV.2.2.2.2.2.2.2
  have hl2 := addS_len V t hlen
  have self : ∀ j, j ≠ 7 → i_X4_addSung I L m (nI t) m j = I m j := fun j hj => by
    unfold i_X4_addSung
    rw [gu2_self, if_neg hj]
  refine ⟨by rw [self 0 (by omega)]; exact m0, by rw [self 1 (by omega)]; exact m1, by rw [self 2 (by omega)]; exact m2, by rw [self 3 (by omega)]; exact m3, by rw [self 4 (by omega)]; exact m4, by rw [self 5 (by omega)]; exact m5, ?_, S * 16 % 18446744073709551616 + t, ?_, by omega, ?_⟩
  · unfold i_X4_addSung f_J9_min_7cf53
    rw [gu2_self, if_pos rfl, m7, n_add, hl2]
    simp (disch := omega) only [n_lt]
    split
    · rw [Nat.min_eq_right (by omega)]
    · rw [Nat.min_eq_left (by omega)]
  · unfold l_X4_addSung
    rw [gu2_self, if_pos rfl, mS, lshl4 hS1 (by omega)]
  · intro j hj
    rw [hl2] at hj
    show _ = ((t :: ms V).take 12).getD j 0
    rw [take_getD (by omega)]
    cases j with
    | zero =>
      show _ = t
      rw [Nat.pow_zero, Nat.div_one]
      omega
    | succ j =>
      rw [sung16 (by omega) j (by omega), hS2 j (by omega)]
      rfl
/-- a GATE is PASSED 1 more (3 at most) -/
def passS (V : TMom) (g : Nat) : TMom := (mn V, (fun j => if j = g then (if mp V g < 3 then mp V g + 1 else mp V g) else mp V j), (mo V, mi V, mh V, mf V), ms V)
theorem passS_ok {F : TFen} {V : TMom} {g : Nat} (hV : okM F V) : okM F (passS V g) := by
  refine ⟨hV.1, ?_, hV.2.2.1, hV.2.2.2.1, hV.2.2.2.2.1, hV.2.2.2.2.2.1, hV.2.2.2.2.2.2.1, hV.2.2.2.2.2.2.2⟩
  intro j hj
  have h := hV.2.1 j hj
  show (if j = g then (if mp V g < 3 then mp V g + 1 else mp V g) else mp V j) ≤ 3
  split
  · rename_i e
    subst e
    split <;> omega
  · exact h
theorem pk4_add {n : Nat → Nat} {g : Nat} (hg : g < 5) : pk4 (fun j => if j = g then n g + 1 else n j) = pk4 n + 2 ^ (2 * g) := by
  unfold pk4
  rcases (by omega : g = 0 ∨ g = 1 ∨ g = 2 ∨ g = 3 ∨ g = 4) with rfl | rfl | rfl | rfl | rfl <;> simp <;> omega
theorem pass_c {I : gII} {L : gLL} {F : TFen} {V : TMom} {m g : Nat} (hV : okM F V) (hM : cMom I L m V) (hg : g < 5) : cMom (i_X4_pass I L m (nI g)) L m (passS V g) := by
  have hp := hV.2.1 g hg
  have hpk := (pk4_at hV.2.1 hg).2
  have e := passedOf_c hM hV hg
  unfold i_X4_pass
  rw [e]
  simp (disch := omega) only [n_le]
  obtain ⟨m0, m1, m2, m3, m4, m5, m7, S, mS, hS1, hS2⟩ := hM
  by_cases h : 3 ≤ mp V g
  · rw [if_pos h]
    refine ⟨m0, ?_, m2, m3, m4, m5, m7, S, mS, hS1, hS2⟩
    rw [m1]
    congr 2
    funext j
    show mp V j = if j = g then (if mp V g < 3 then mp V g + 1 else mp V g) else mp V j
    by_cases hj : j = g
    · rw [if_pos hj, if_neg (by omega), hj]
    · rw [if_neg hj]
  · rw [if_neg h]
    have self : ∀ j, j ≠ 1 → gu2 I m 1 (I m 1 + gshl (nI 1) (nI 2 * nI g)) m j = I m j := fun j hj => by rw [gu2_self, if_neg hj]
    refine ⟨by rw [self 0 (by omega)]; exact m0, ?_, by rw [self 2 (by omega)]; exact m2, by rw [self 3 (by omega)]; exact m3, by rw [self 4 (by omega)]; exact m4, by rw [self 5 (by omega)]; exact m5, by rw [self 7 (by omega)]; exact m7, S, mS, hS1, hS2⟩
    have h2 : 2 ^ (2 * g) ≤ 256 := by
      rcases (by omega : g = 0 ∨ g = 1 ∨ g = 2 ∨ g = 3 ∨ g = 4) with rfl | rfl | rfl | rfl | rfl <;> decide
    rw [gu2_self, if_pos rfl, m1, n_mul, n_shl (by omega) (by omega), n_add, Nat.one_mul, ← pk4_add hg]
    congr 2
    funext j
    show (if j = g then mp V g + 1 else mp V j) = if j = g then (if mp V g < 3 then mp V g + 1 else mp V g) else mp V j
    rw [if_pos (show mp V g < 3 by omega)]
