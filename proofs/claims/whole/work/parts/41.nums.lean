/-! NUMBERS: ints that are small naturals -/
theorem n_sl : ∀ n, n < 32 → ((nI n &&& 31).toBitVec.smod 32).toNat = n := by decide +kernel
theorem n_and (a b : Nat) : nI a &&& nI b = nI (a &&& b) := by
  apply Int32.toBitVec_inj.1
  show BitVec.ofNat 32 a &&& BitVec.ofNat 32 b = BitVec.ofNat 32 (a &&& b)
  apply BitVec.eq_of_getLsbD_eq
  intro i hi
  simp [hi]
theorem n_or (a b : Nat) : nI a ||| nI b = nI (a ||| b) := by
  apply Int32.toBitVec_inj.1
  show BitVec.ofNat 32 a ||| BitVec.ofNat 32 b = BitVec.ofNat 32 (a ||| b)
  apply BitVec.eq_of_getLsbD_eq
  intro i hi
  simp [hi]
theorem n_xor (a b : Nat) : nI a ^^^ nI b = nI (a ^^^ b) := by
  apply Int32.toBitVec_inj.1
  show BitVec.ofNat 32 a ^^^ BitVec.ofNat 32 b = BitVec.ofNat 32 (a ^^^ b)
  apply BitVec.eq_of_getLsbD_eq
  intro i hi
  simp [hi]
theorem n_add (a b : Nat) : nI a + nI b = nI (a + b) := nI_add a b
theorem n_mul (a b : Nat) : nI a * nI b = nI (a * b) := pk_mul a b
theorem n_sub {a b : Nat} (h : b ≤ a) : nI a - nI b = nI (a - b) := pk_sub h
theorem n_div {a d : Nat} (ha : a < 2147483648) (h0 : 0 < d) (hd : d < 2147483648) : nI a / nI d = nI (a / d) := pk_div ha h0 hd
theorem n_rem {a d : Nat} (ha : a < 2147483648) (h0 : 0 < d) (hd : d < 2147483648) : grem (nI a) (nI d) = nI (a % d) := pk_rem ha h0 hd
theorem n_shr {a k : Nat} (ha : a < 2147483648) (hk : k < 32) : gshr (nI a) (nI k) = nI (a / 2 ^ k) := pk_shrN ha _ k (n_sl k hk)
theorem n_shl {a k : Nat} (hk : k < 32) (h : a * 2 ^ k < 4294967296) : gshl (nI a) (nI k) = nI (a * 2 ^ k) := pk_shlN _ k (n_sl k hk) h
theorem n_gx {k : Nat} (h : k < 2147483648) : gx (nI k) = k := nI_clamp h
theorem n_gvp {k n : Nat} (h : k < 2147483648) : gvp (nI k) n = decide (k < n) := by
  have h1 : ¬ nI k < 0 := nI_pos h
  simp [gvp, h1, n_gx h]
theorem n_lt {a b : Nat} (ha : a < 2147483648) (hb : b < 2147483648) : (nI a < nI b) = (a < b) := propext (nI_ltI ha hb)
theorem n_le {a b : Nat} (ha : a < 2147483648) (hb : b < 2147483648) : (nI a ≤ nI b) = (a ≤ b) := propext (nI_leI ha hb)
theorem n_eq {a b : Nat} (ha : a < 2147483648) (hb : b < 2147483648) : (nI a = nI b) = (a = b) := propext (nI_eq ha hb)
theorem n_eq0 {a : Nat} (ha : a < 2147483648) : (nI a = 0) = (a = 0) := by
  have := n_eq ha (show 0 < 2147483648 by decide)
  rwa [nI_0] at this
theorem n_lt0 {a : Nat} (ha : a < 2147483648) : (nI a < 0) = False := by
  simp [nI_pos ha]
theorem n_0le {a : Nat} (ha : a < 2147483648) : (0 ≤ nI a) = True := by
  simp [nI_pos' ha]
theorem n_0lt {a : Nat} (ha : a < 2147483648) : (0 < nI a) = (0 < a) := by
  have := n_lt (show 0 < 2147483648 by decide) ha
  rwa [nI_0] at this
theorem n_le0 {a : Nat} (ha : a < 2147483648) : (nI a ≤ 0) = (a ≤ 0) := by
  have := n_le ha (show 0 < 2147483648 by decide)
  rwa [nI_0] at this
theorem n_ti {a : Nat} (ha : a < 2147483648) : (nI a).toInt = (a : Int) := nI_toInt ha
theorem n_neg {a : Nat} (ha : a < 2147483648) {v : Int32} (hv : v.toInt < 0) : (nI a = v) = False := by
  simp only [eq_iff_iff, iff_false]
  intro h
  have := n_ti ha
  rw [h] at this
  omega
/-- an int argument as a number below n -/
def ix (x : Int32) (n : Nat) : Option Nat := if 0 ≤ x.toInt ∧ x.toInt < n then some x.toInt.toNat else none
theorem ix_nI {k n : Nat} (hk : k < n) (hn : n < 2147483648) : ix (nI k) n = some k := by
  have e := n_ti (a := k) (by omega)
  unfold ix
  rw [e, if_pos (by omega)]
  simp
theorem ix_cases (x : Int32) {n : Nat} (hn : n < 2147483648) : (x < 0 ∧ ix x n = none) ∨ (¬ x < 0 ∧ nI n ≤ x ∧ ix x n = none) ∨ ∃ k, k < n ∧ x = nI k ∧ ix x n = some k := by
  have e := n_ti hn
  rcases pk_ix x hn with h | h | ⟨j, hj, rfl⟩
  · refine Or.inl ⟨h, ?_⟩
    rw [Int32.lt_iff_toInt_lt] at h
    have h : x.toInt < 0 := h
    unfold ix
    rw [if_neg (by omega)]
  · have h2 := h
    rw [Int32.le_iff_toInt_le, e] at h
    refine Or.inr (Or.inl ⟨fun q => ?_, h2, ?_⟩)
    · rw [Int32.lt_iff_toInt_lt] at q
      have q : x.toInt < 0 := q
      omega
    · unfold ix
      rw [if_neg (by omega)]
  · exact Or.inr (Or.inr ⟨j, hj, rfl, ix_nI hj hn⟩)
