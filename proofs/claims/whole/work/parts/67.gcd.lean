/-! FRACTIONS in least terms -/
theorem gcd_next (a b : Nat) : Nat.gcd a b = Nat.gcd b (a % b) := by
  rw [Nat.gcd_comm a b, Nat.gcd_rec b a, Nat.gcd_comm]
theorem half_mod {a b : Nat} (hb : 0 < b) (h : b < a) : 2 * (a % b) < a := by
  have h1 : a % b < b := Nat.mod_lt _ hb
  by_cases q : 2 * b ≤ a
  · omega
  · rw [Nat.mod_eq_sub_mod (by omega), Nat.mod_eq_of_lt (by omega)]
    omega
theorem gcd_c {I : gII} {L : gLL} : ∀ (k a b i m : Nat), b < a → a < 2 ^ k → a < 2147483648 → i + 2 * k + 2 ≤ 64 → 2 * k + 2 ≤ m → r_X7_greatestCommon_6 m (nI a) (nI b) (nI i) I L = some (nI (Nat.gcd a b), I, L) := by
  intro k
  induction k with
  | zero =>
    intro a b i m h1 h2 _ _ _
    have : (2 : Nat) ^ 0 = 1 := rfl
    omega
  | succ k ih =>
    intro a b i m h1 h2 h3 h4 h5
    rw [Nat.pow_succ] at h2
    obtain ⟨m, rfl⟩ : ∃ m', m = m' + 1 + 1 := ⟨m - 2, by omega⟩
    rw [r_X7_greatestCommon_6]
    unfold r_X7_greatestCommon_21
    by_cases q0 : b = 0
    · subst q0
      rw [Nat.gcd_zero_right, if_neg (show ¬ nI 64 ≤ nI i by simp (disch := omega) only [n_le, n_lt, n_eq, n_eq0, n_0lt, n_le0, n_lt0, n_0le, n_gvp, n_gx, n_add, n_mul, decide_eq_true_eq, Option.bind_some, if_false, if_true, not_false_eq_true, not_true_eq_false]; omega), if_pos z0]
    · have b0 : ¬ (nI b : Int32) = 0 := by
        rw [n_eq0 (by omega)]
        exact q0
      have hm := half_mod (Nat.pos_of_ne_zero q0) h1
      have hlt : a % b < b := Nat.mod_lt _ (Nat.pos_of_ne_zero q0)
      rw [if_neg (show ¬ nI 64 ≤ nI i by simp (disch := omega) only [n_le, n_lt, n_eq, n_eq0, n_0lt, n_le0, n_lt0, n_0le, n_gvp, n_gx, n_add, n_mul, decide_eq_true_eq, Option.bind_some, if_false, if_true, not_false_eq_true, not_true_eq_false]; omega), if_neg b0, if_pos b0, n_rem (by omega) (by omega) (by omega), n_add, r_X7_greatestCommon_6, if_neg (show ¬ nI 64 ≤ nI (i + 1) by simp (disch := omega) only [n_le, n_lt, n_eq, n_eq0, n_0lt, n_le0, n_lt0, n_0le, n_gvp, n_gx, n_add, n_mul, decide_eq_true_eq, Option.bind_some, if_false, if_true, not_false_eq_true, not_true_eq_false]; omega), gcd_next a b]
      unfold r_X7_greatestCommon_21
      by_cases q1 : a % b = 0
      · rw [q1, Nat.gcd_zero_right, if_pos z0]
      · have c0 : ¬ (nI (a % b) : Int32) = 0 := by
          rw [n_eq0 (by omega)]
          exact q1
        rw [if_neg c0, if_pos c0, n_rem (by omega) (by omega) (by omega), n_add, gcd_next b (a % b)]
        exact ih (a % b) (b % (a % b)) (i + 1 + 1) m (Nat.mod_lt _ (by omega)) (by omega) (by omega) (by omega) (by omega)
theorem gcd_r {I : gII} {L : gLL} : ∀ (k a b m : Nat), b < a → a < 2 ^ k → a < 2147483648 → 2 * k + 2 ≤ m → r_X8_common_9 m (nI a) (nI b) I L = some (nI (Nat.gcd a b), I, L) := by
  intro k
  induction k with
  | zero =>
    intro a b m h1 h2 _ _
    have : (2 : Nat) ^ 0 = 1 := rfl
    omega
  | succ k ih =>
    intro a b m h1 h2 h3 h5
    rw [Nat.pow_succ] at h2
    obtain ⟨m, rfl⟩ : ∃ m', m = m' + 1 + 1 := ⟨m - 2, by omega⟩
    rw [r_X8_common_9]
    by_cases q0 : b = 0
    · subst q0
      rw [Nat.gcd_zero_right, if_pos z0]
    · have b0 : ¬ (nI b : Int32) = 0 := by
        rw [n_eq0 (by omega)]
        exact q0
      have hm := half_mod (Nat.pos_of_ne_zero q0) h1
      have hlt : a % b < b := Nat.mod_lt _ (Nat.pos_of_ne_zero q0)
      rw [if_neg b0, if_pos b0, n_rem (by omega) (by omega) (by omega), r_X8_common_9, gcd_next a b]
      by_cases q1 : a % b = 0
      · rw [q1, Nat.gcd_zero_right, if_pos z0]
      · have c0 : ¬ (nI (a % b) : Int32) = 0 := by
          rw [n_eq0 (by omega)]
          exact q1
        rw [if_neg c0, if_pos c0, n_rem (by omega) (by omega) (by omega), gcd_next b (a % b)]
        exact ih (a % b) (b % (a % b)) m (Nat.mod_lt _ (by omega)) (by omega) (by omega) (by omega)
theorem greatest_c {I : gII} {L : gLL} {a b : Nat} (ha : a < 2147483648) (h0 : 0 < b) (hb : b < 131072) : r_X7_greatestCommon I L (nI a) (nI b) = some (nI (Nat.gcd a b), I, L) := by
  have b0 : ¬ (nI b : Int32) = 0 := by
    rw [n_eq0 (by omega)]
    omega
  unfold r_X7_greatestCommon
  rw [show (100 : Nat) = 99 + 1 from rfl, r_X7_greatestCommon_6, if_neg (by decide), if_neg b0, if_pos b0, n_rem (by omega) (by omega) (by omega), n_add, gcd_next a b]
  exact gcd_c 17 b (a % b) (0 + 1) 99 (Nat.mod_lt _ h0) hb (by omega) (by omega) (by omega)
theorem common_r {I : gII} {L : gLL} {a b : Nat} (ha : a < 2147483648) (h0 : 0 < b) (hb : b < 131072) : r_X8_common I L (nI a) (nI b) = some (nI (Nat.gcd a b), I, L) := by
  have b0 : ¬ (nI b : Int32) = 0 := by
    rw [n_eq0 (by omega)]
    omega
  unfold r_X8_common
  rw [if_pos (show (0 : Int32) ≤ nI a from nI_pos' ha), show (100 : Nat) = 99 + 1 from rfl, r_X8_common_9, if_neg b0, if_pos b0, n_rem (by omega) (by omega) (by omega), gcd_next a b]
  exact gcd_r 17 b (a % b) 99 (Nat.mod_lt _ h0) hb (by omega) (by omega)
theorem gcd_pos {a b : Nat} (h : 0 < b) : 0 < Nat.gcd a b := Nat.gcd_pos_of_pos_right _ h
theorem gcd_small {a b : Nat} (h : 0 < b) : Nat.gcd a b ≤ b := Nat.le_of_dvd h (Nat.gcd_dvd_right a b)
theorem fraction_c {I : gII} {L : gLL} {a b : Nat} {u : Int32} (ha : a < 2147483648) (h0 : 0 < b) (hb : b < 131072) : r_X7_fraction I L (nI a) (nI b) u = some ((if u = 0 then nI (b / Nat.gcd a b) else nI (a / Nat.gcd a b)), I, L) := by
  have g0 := gcd_pos (a := a) h0
  have g1 := gcd_small (a := a) h0
  have gz : ¬ (nI (Nat.gcd a b) : Int32) = 0 := by
    rw [n_eq0 (by omega)]
    omega
  unfold r_X7_fraction r_X7_fraction_21
  rw [greatest_c ha h0 hb]
  simp only [Option.bind_some]
  rw [if_pos gz, if_pos gz, if_pos gz, n_div (by omega) g0 (by omega), n_div ha g0 (by omega)]
  by_cases q : u = 0
  · rw [if_pos q, if_pos q]
  · rw [if_neg q, if_neg q]
/-- equal ratios: the same least terms -/
theorem ratio {a b c d : Nat} (hb : 0 < b) (hd : 0 < d) (h : a * d = c * b) : a / Nat.gcd a b = c / Nat.gcd c d ∧ b / Nat.gcd a b = d / Nat.gcd c d := by
  have g0 := gcd_pos (a := a) hb
  have k0 := gcd_pos (a := c) hd
  obtain ⟨a', ha⟩ := Nat.gcd_dvd_left a b
  obtain ⟨b', hb'⟩ := Nat.gcd_dvd_right a b
  obtain ⟨c', hc⟩ := Nat.gcd_dvd_left c d
  obtain ⟨d', hd'⟩ := Nat.gcd_dvd_right c d
  have key : d * Nat.gcd a b = b * Nat.gcd c d := by
    have e1 : Nat.gcd (a * d) (b * d) = Nat.gcd a b * d := Nat.gcd_mul_right a d b
    have e2 : Nat.gcd (c * b) (d * b) = Nat.gcd c d * b := Nat.gcd_mul_right c b d
    rw [h, Nat.mul_comm b d, e2] at e1
    rw [Nat.mul_comm d, ← e1, Nat.mul_comm]
  generalize hg : Nat.gcd a b = g at *
  generalize hk : Nat.gcd c d = k at *
  have e3 : d' = b' := by
    rw [hd', hb'] at key
    have : k * g * d' = k * g * b' := by
      rw [show k * g * d' = k * d' * g by rw [Nat.mul_right_comm], key]
      rw [show g * b' * k = k * (g * b') by rw [Nat.mul_comm], ← Nat.mul_assoc]
    exact Nat.eq_of_mul_eq_mul_left (Nat.mul_pos k0 g0) this
  have b'0 : 0 < b' := by
    rcases Nat.eq_zero_or_pos b' with q | q
    · rw [q, Nat.mul_zero] at hb'
      omega
    · exact q
  have e4 : a' = c' := by
    rw [ha, hd', hc, hb', e3] at h
    have : (g * k * b') * a' = (g * k * b') * c' := by
      have l : g * a' * (k * b') = (g * k * b') * a' := by
        simp only [Nat.mul_comm, Nat.mul_left_comm, Nat.mul_assoc]
      have r : k * c' * (g * b') = (g * k * b') * c' := by
        simp only [Nat.mul_comm, Nat.mul_left_comm, Nat.mul_assoc]
      rw [← l, ← r, h]
    exact Nat.eq_of_mul_eq_mul_left (Nat.mul_pos (Nat.mul_pos g0 k0) b'0) this
  constructor
  · rw [ha, hc, Nat.mul_div_cancel_left _ g0, Nat.mul_div_cancel_left _ k0, e4]
  · rw [hb', hd', Nat.mul_div_cancel_left _ g0, Nat.mul_div_cancel_left _ k0, e3]
def fac : Nat → Nat
  | 0 => 1
  | n + 1 => (n + 1) * fac n
theorem fac_pos : ∀ n, 0 < fac n
  | 0 => Nat.one_pos
  | n + 1 => Nat.mul_pos (by omega) (fac_pos n)
theorem fac_le : ∀ n, n ≤ 5 → fac n ≤ 120 := by decide
theorem factorial_r {I : gII} {L : gLL} {n : Nat} (hn : n ≤ 5) : r_X8_factorial I L (nI n) = some (nI (fac n), I, L) := by
  have h := gloopE (fun m j (s : Int32) => r_X8_factorial_4 m (nI n) s (nI j) I L) (fun j s => 2 ≤ j ∧ s = nI (fac (j - 1))) (fun z => z = (nI (fac n), I, L)) (n := max 2 (n + 1))
    (fun m j s hj hp => Or.inl ⟨nI (fac j), by
      show r_X8_factorial_4 (m + 1) (nI n) s (nI j) I L = r_X8_factorial_4 m (nI n) (nI (fac j)) (nI (j + 1)) I L
      rw [hp.2, r_X8_factorial_4]
      simp (disch := omega) only [n_le, n_lt, n_eq, n_eq0, n_0lt, n_le0, n_lt0, n_0le, n_gvp, n_gx, n_add, n_mul, decide_eq_true_eq, Option.bind_some, if_false, if_true, not_false_eq_true, not_true_eq_false]
      rw [if_neg (by omega)]
      congr 2
      rw [show fac j = fac ((j - 1) + 1) by congr 1; omega, fac, Nat.mul_comm, show j - 1 + 1 = j by omega], by omega, rfl⟩)
    (fun m s hp => ⟨(nI (fac n), I, L), by
      show r_X8_factorial_4 (m + 1) (nI n) s (nI (max 2 (n + 1))) I L = _
      rw [hp.2, r_X8_factorial_4, if_pos (by simp (disch := omega) only [n_le, n_lt, n_eq, n_eq0, n_0lt, n_le0, n_lt0, n_0le, n_gvp, n_gx, n_add, n_mul, decide_eq_true_eq, Option.bind_some, if_false, if_true, not_false_eq_true, not_true_eq_false]; omega)]
      rcases Nat.eq_zero_or_pos n with q | q
      · subst q
        rfl
      · rw [show max 2 (n + 1) - 1 = n by omega], rfl⟩) (d := max 2 (n + 1) - 2) (j := 2) (N := 100) (s := nI 1) (by omega) (by omega) ⟨by omega, rfl⟩
  obtain ⟨z, e, rfl⟩ := h
  exact e
