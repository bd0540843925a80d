/-! DRIPS: sums over sets of GATES -/
def dif (a b : Nat) : Nat := a &&& (31 ^^^ b)
theorem dif_v : ∀ a, a < 32 → ∀ b, b < 32 → nI a &&& (nI b ^^^ (-1 : Int32)) = nI (dif a b) ∧ dif a b < 32 := by decide +kernel
theorem sumTo_split {h : Nat → Nat} {a : Nat} : ∀ b, sumTo (a + b) h = sumTo a h + sumTo b (fun i => h (a + i))
  | 0 => rfl
  | b + 1 => by
    show sumTo (a + b) h + h (a + b) = sumTo a h + (sumTo b (fun i => h (a + i)) + h (a + b))
    rw [sumTo_split b]
    omega
def wR (x y : Nat) : Nat → (Nat → Nat) → Nat
  | 0, h => h 0
  | k + 1, h => y * wR x y k h + x * wR x y k (fun s => h (s + 2 ^ k))
def wU (x y U : Nat) : Nat → (Nat → Nat) → Nat
  | 0, h => h 0
  | k + 1, h => if U / 2 ^ k % 2 = 1 then y * wU x y U k h + x * wU x y U k (fun s => h (s + 2 ^ k)) else wU x y U k h
def kU (x y U s : Nat) : Nat → Nat
  | 0 => 1
  | g + 1 => kU x y U s g * (if U / 2 ^ g % 2 = 1 then (if s / 2 ^ g % 2 = 1 then x else y) else 1)
def cU (x y U : Nat) : Nat → Nat
  | 0 => 1
  | g + 1 => cU x y U g * (if U / 2 ^ g % 2 = 1 then 1 else x + y)
theorem pop_up : ∀ n, n < 5 → ∀ s, s < 2 ^ n → popn 13 (2 ^ n + s) = popn 13 s + 1 ∧ popn 13 s ≤ n := by decide +kernel
theorem bit_up : ∀ n, n < 5 → ∀ s, s < 2 ^ n → ∀ g, g < 5 → (2 ^ n + s) / 2 ^ g % 2 = if g = n then 1 else s / 2 ^ g % 2 := by decide +kernel
theorem dif_up : ∀ U, U < 32 → ∀ n, n < 5 → ∀ s, s < 2 ^ n → ((dif (2 ^ n + s) U = 0) ↔ (U / 2 ^ n % 2 = 1 ∧ dif s U = 0)) := by decide +kernel
theorem wR_sum {x y : Nat} : ∀ n, n ≤ 5 → ∀ h : Nat → Nat, sumTo (2 ^ n) (fun s => x ^ popn 13 s * y ^ (n - popn 13 s) * h s) = wR x y n h := by
  intro n
  induction n with
  | zero =>
    intro _ h
    have e : popn 13 0 = 0 := by decide
    show 0 + x ^ popn 13 0 * y ^ (0 - popn 13 0) * h 0 = h 0
    rw [e]
    simp
  | succ n ih =>
    intro hn h
    rw [Nat.pow_succ, Nat.mul_two, sumTo_split]
    show _ = y * wR x y n h + x * wR x y n (fun s => h (s + 2 ^ n))
    rw [← ih (by omega) h, ← ih (by omega) (fun s => h (s + 2 ^ n)), ← sumTo_mul, ← sumTo_mul]
    congr 1
    · refine sumTo_congr _ (fun s hs => ?_)
      have hp := (pop_up n (by omega) s hs).2
      rw [show n + 1 - popn 13 s = (n - popn 13 s) + 1 by omega, Nat.pow_succ]
      simp only [Nat.mul_comm, Nat.mul_left_comm, Nat.mul_assoc]
    · refine sumTo_congr _ (fun s hs => ?_)
      have hp := pop_up n (by omega) s hs
      rw [hp.1, show n + 1 - (popn 13 s + 1) = n - popn 13 s by omega, Nat.pow_succ, Nat.add_comm (2 ^ n) s]
      simp only [Nat.mul_comm, Nat.mul_left_comm, Nat.mul_assoc]
theorem kU_congr {x y U s s' : Nat} : ∀ n, (∀ g, g < n → s / 2 ^ g % 2 = s' / 2 ^ g % 2) → kU x y U s n = kU x y U s' n
  | 0, _ => rfl
  | n + 1, h => by
    show kU x y U s n * _ = kU x y U s' n * _
    rw [kU_congr n (fun g hg => h g (by omega)), h n (by omega)]
theorem wU_sum {x y U : Nat} (hU : U < 32) : ∀ n, n ≤ 5 → ∀ h : Nat → Nat, sumTo (2 ^ n) (fun s => if dif s U = 0 then kU x y U s n * h s else 0) = wU x y U n h := by
  intro n
  induction n with
  | zero =>
    intro _ h
    have e : dif 0 U = 0 := by simp [dif]
    show 0 + (if dif 0 U = 0 then kU x y U 0 0 * h 0 else 0) = h 0
    rw [if_pos e]
    show 0 + 1 * h 0 = h 0
    omega
  | succ n ih =>
    intro hn h
    rw [Nat.pow_succ, Nat.mul_two, sumTo_split]
    by_cases q : U / 2 ^ n % 2 = 1
    · show _ = if U / 2 ^ n % 2 = 1 then y * wU x y U n h + x * wU x y U n (fun s => h (s + 2 ^ n)) else wU x y U n h
      rw [if_pos q, ← ih (by omega) h, ← ih (by omega) (fun s => h (s + 2 ^ n)), ← sumTo_mul, ← sumTo_mul]
      congr 1
      · refine sumTo_congr _ (fun s hs => ?_)
        have b0 : s / 2 ^ n % 2 = 0 := by rw [Nat.div_eq_of_lt hs]
        show (if dif s U = 0 then kU x y U s n * (if U / 2 ^ n % 2 = 1 then (if s / 2 ^ n % 2 = 1 then x else y) else 1) * h s else 0) = _
        rw [if_pos q, b0, if_neg (show ¬ (0 : Nat) = 1 by decide)]
        by_cases w : dif s U = 0
        · rw [if_pos w, if_pos w]
          simp only [Nat.mul_comm, Nat.mul_left_comm, Nat.mul_assoc]
        · rw [if_neg w, if_neg w, Nat.mul_zero]
      · refine sumTo_congr _ (fun s hs => ?_)
        have b1 := bit_up n (by omega) s hs n (by omega)
        rw [if_pos rfl] at b1
        show (if dif (2 ^ n + s) U = 0 then kU x y U (2 ^ n + s) n * (if U / 2 ^ n % 2 = 1 then (if (2 ^ n + s) / 2 ^ n % 2 = 1 then x else y) else 1) * h (2 ^ n + s) else 0) = _
        rw [if_pos q, b1, if_pos rfl, kU_congr (s' := s) n (fun g hg => by rw [bit_up n (by omega) s hs g (by omega), if_neg (by omega)]), Nat.add_comm (2 ^ n) s]
        have du := dif_up U hU n (by omega) s hs
        rw [Nat.add_comm (2 ^ n) s] at du
        by_cases w : dif s U = 0
        · rw [if_pos w, if_pos (du.mpr ⟨q, w⟩)]
          simp only [Nat.mul_comm, Nat.mul_left_comm, Nat.mul_assoc]
        · rw [if_neg w, if_neg (fun h => w (du.mp h).2), Nat.mul_zero]
    · show _ = if U / 2 ^ n % 2 = 1 then y * wU x y U n h + x * wU x y U n (fun s => h (s + 2 ^ n)) else wU x y U n h
      rw [if_neg q, ← ih (by omega) h]
      have e2 : sumTo (2 ^ n) (fun i => if dif (2 ^ n + i) U = 0 then kU x y U (2 ^ n + i) (n + 1) * h (2 ^ n + i) else 0) = 0 := by
        rw [sumTo0]
        intro s hs
        rw [if_neg (fun h => q ((dif_up U hU n (by omega) s hs).mp h).1)]
      rw [e2, Nat.add_zero]
      refine sumTo_congr _ (fun s hs => ?_)
      show (if dif s U = 0 then kU x y U s n * (if U / 2 ^ n % 2 = 1 then (if s / 2 ^ n % 2 = 1 then x else y) else 1) * h s else 0) = _
      rw [if_neg q, Nat.mul_one]
theorem wR_congr {x y : Nat} : ∀ n (h h' : Nat → Nat), (∀ s, s < 2 ^ n → h s = h' s) → wR x y n h = wR x y n h' := by
  intro n
  induction n with
  | zero =>
    intro h h' e
    exact e 0 (by decide)
  | succ n ih =>
    intro h h' e
    have p : 2 ^ (n + 1) = 2 ^ n + 2 ^ n := by rw [Nat.pow_succ, Nat.mul_two]
    show y * wR x y n h + x * wR x y n (fun s => h (s + 2 ^ n)) = y * wR x y n h' + x * wR x y n (fun s => h' (s + 2 ^ n))
    rw [ih h h' (fun s hs => e s (by omega)), ih _ _ (fun s hs => e (s + 2 ^ n) (by omega))]
theorem wR_U {x y U : Nat} : ∀ n, n ≤ 5 → ∀ h : Nat → Nat, (∀ j, j < n → U / 2 ^ j % 2 = 0 → ∀ s, s < 2 ^ n → s / 2 ^ j % 2 = 0 → h (s + 2 ^ j) = h s) → wR x y n h = cU x y U n * wU x y U n h := by
  intro n
  induction n with
  | zero =>
    intro _ h _
    show h 0 = 1 * h 0
    omega
  | succ n ih =>
    intro hn h hi
    have p : 2 ^ (n + 1) = 2 ^ n + 2 ^ n := by rw [Nat.pow_succ, Nat.mul_two]
    have i1 : wR x y n h = cU x y U n * wU x y U n h := ih (by omega) h (fun j hj hu s hs hb => hi j (by omega) hu s (by omega) hb)
    have i2 : wR x y n (fun s => h (s + 2 ^ n)) = cU x y U n * wU x y U n (fun s => h (s + 2 ^ n)) := ih (by omega) _ (fun j hj hu s hs hb => by
      have b := bit_up n (by omega) s hs j (by omega)
      rw [if_neg (by omega), Nat.add_comm (2 ^ n) s, hb] at b
      show h (s + 2 ^ j + 2 ^ n) = h (s + 2 ^ n)
      rw [Nat.add_right_comm]
      exact hi j (by omega) hu (s + 2 ^ n) (by omega) b)
    show y * wR x y n h + x * wR x y n (fun s => h (s + 2 ^ n)) = (cU x y U n * (if U / 2 ^ n % 2 = 1 then 1 else x + y)) * (if U / 2 ^ n % 2 = 1 then y * wU x y U n h + x * wU x y U n (fun s => h (s + 2 ^ n)) else wU x y U n h)
    by_cases q : U / 2 ^ n % 2 = 1
    · rw [if_pos q, if_pos q, i1, i2, Nat.mul_one, Nat.mul_add]
      simp only [Nat.mul_comm, Nat.mul_left_comm, Nat.mul_assoc]
    · have q0 : U / 2 ^ n % 2 = 0 := by omega
      have e : wR x y n (fun s => h (s + 2 ^ n)) = wR x y n h := wR_congr n _ _ (fun s hs => hi n (by omega) q0 s (by omega) (by rw [Nat.div_eq_of_lt hs]))
      rw [if_neg q, if_neg q, e, i1, ← Nat.add_mul, Nat.add_comm y x]
      simp only [Nat.mul_comm, Nat.mul_left_comm, Nat.mul_assoc]
theorem wU_more {x y U : Nat} {n : Nat} {h : Nat → Nat} (hU : U < 2 ^ n) : ∀ d, wU x y U (n + d) h = wU x y U n h
  | 0 => rfl
  | d + 1 => by
    show (if U / 2 ^ (n + d) % 2 = 1 then _ else wU x y U (n + d) h) = _
    have : U < 2 ^ (n + d) := Nat.lt_of_lt_of_le hU (Nat.pow_le_pow_right (by decide) (by omega))
    rw [Nat.div_eq_of_lt this, if_neg (by decide)]
    exact wU_more hU d
theorem wR_one {x y : Nat} : ∀ n, wR x y n (fun _ => 1) = (x + y) ^ n
  | 0 => rfl
  | n + 1 => by
    show y * wR x y n (fun _ => 1) + x * wR x y n (fun _ => 1) = (x + y) ^ (n + 1)
    rw [wR_one n, ← Nat.add_mul, Nat.pow_succ, Nat.add_comm y x, Nat.mul_comm]
theorem wU_mono {x y U : Nat} : ∀ n (h h' : Nat → Nat), (∀ s, h s ≤ h' s) → wU x y U n h ≤ wU x y U n h' := by
  intro n
  induction n with
  | zero =>
    intro h h' e
    exact e 0
  | succ n ih =>
    intro h h' e
    show (if U / 2 ^ n % 2 = 1 then y * wU x y U n h + x * wU x y U n (fun s => h (s + 2 ^ n)) else wU x y U n h) ≤ (if U / 2 ^ n % 2 = 1 then y * wU x y U n h' + x * wU x y U n (fun s => h' (s + 2 ^ n)) else wU x y U n h')
    by_cases q : U / 2 ^ n % 2 = 1
    · rw [if_pos q, if_pos q]
      exact Nat.add_le_add (Nat.mul_le_mul_left _ (ih h h' e)) (Nat.mul_le_mul_left _ (ih _ _ (fun s => e _)))
    · rw [if_neg q, if_neg q]
      exact ih h h' e
/-- the gates of a lane that may drip -/
def uno (F : TFen) (V : TMom) (l : Nat) : Nat := dif (gatesN F l) (mi V)
theorem dif_bit : ∀ a, a < 32 → ∀ b, b < 32 → dif a b ≤ a ∧ ∀ g, g < 5 → dif a b / 2 ^ g % 2 = if a / 2 ^ g % 2 = 1 ∧ b / 2 ^ g % 2 = 0 then 1 else 0 := by decide +kernel
theorem gatesN_G {F : TFen} {l : Nat} (hF : okF F) (hl : l < fL F) : gatesN F l < 2 ^ fG F := by
  have a := hF.2.2.2.2.2.1 (3 * l) (by omega)
  have b := hF.2.2.2.2.2.1 (3 * l + 1) (by omega)
  have c := hF.2.2.2.2.2.1 (3 * l + 2) (by omega)
  exact Nat.or_lt_two_pow (Nat.or_lt_two_pow (Nat.pow_lt_pow_right (by decide) a) (Nat.pow_lt_pow_right (by decide) b)) (Nat.pow_lt_pow_right (by decide) c)
theorem uno_lt {F : TFen} {V : TMom} {l : Nat} (hF : okF F) (hV : okM F V) (hl : l < fL F) : uno F V l < 32 ∧ uno F V l < 2 ^ fG F := by
  have h1 := (gatesN_lt hF hl).1
  have h2 := (okM_h32 hF hV).2.2
  have h3 := gatesN_G hF hl
  have h4 := (dif_bit _ h1 _ h2).1
  unfold uno
  omega
theorem song_congr {F : TFen} {V V' : TMom} {b l : Nat} (h : ∀ g, hasG F l g = true → tone F V g (fw F b) (fb F b) = tone F V' g (fw F b) (fb F b)) : song F V b l = song F V' b l := by
  have e : ∀ g, hasG F l g = true → spart F V b g = spart F V' b g := fun g hg => by
    unfold spart upart
    rw [h g hg]
  unfold song
  rw [e _ (by simp [hasG]), e _ (by simp [hasG]), e _ (by simp [hasG])]
/-- GATES that do not drip do not matter -/
theorem oil_out {F : TFen} {V : TMom} {b l j s : Nat} (hF : okF F) (hV : okM F V) (hl : l < fL F) (hj : j < 5) (hu : uno F V l / 2 ^ j % 2 = 0) (hs : ∀ g, g < 5 → g ≠ j → (s + 2 ^ j) / 2 ^ g % 2 = s / 2 ^ g % 2) : song F (oilV V (s + 2 ^ j)) b l = song F (oilV V s) b l := by
  apply song_congr
  intro g hg
  have lt := hasG_lt hF hl hg
  have hG := hF.1
  rw [tone_oil, tone_oil]
  by_cases q : g = j
  · subst q
    have h1 := (gatesN_lt hF hl).1
    have hb := (gatesN_lt hF hl).2 g (by omega)
    have h2 := (okM_h32 hF hV).2.2
    have h4 := (dif_bit _ h1 _ h2).2 g (by omega)
    unfold uno at hu
    rw [hu, hb, if_pos hg] at h4
    have mb : mi V / 2 ^ g % 2 = 1 := by
      rcases (by omega : mi V / 2 ^ g % 2 = 0 ∨ mi V / 2 ^ g % 2 = 1) with w | w
      · rw [if_pos ⟨rfl, w⟩] at h4
        omega
      · exact w
    have t12 : tone F V g (fw F b) (fb F b) = 12 := by
      unfold tone
      by_cases w : fk F g = 3 ∧ fw F b < 5
      · rw [if_pos w]
      · rw [if_neg w, or_bit, if_pos (Or.inr mb), if_pos rfl]
    rw [t12]
    split <;> split <;> rfl
  · rw [hs g (by omega) q]
