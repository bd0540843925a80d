/-! SHARES -/
theorem sumTo_add {h g : Nat → Nat} : ∀ n, sumTo n (fun i => h i + g i) = sumTo n h + sumTo n g
  | 0 => rfl
  | n + 1 => by
    show sumTo n (fun i => h i + g i) + (h n + g n) = (sumTo n h + h n) + (sumTo n g + g n)
    rw [sumTo_add n]
    omega
theorem sumTo_mul {h : Nat → Nat} {c : Nat} : ∀ n, sumTo n (fun i => c * h i) = c * sumTo n h
  | 0 => rfl
  | n + 1 => by
    show sumTo n (fun i => c * h i) + c * h n = c * (sumTo n h + h n)
    rw [sumTo_mul n, Nat.mul_add]
theorem sumTo_zero : ∀ n, sumTo n (fun _ => 0) = 0
  | 0 => rfl
  | n + 1 => sumTo_zero n
theorem sumTo_swap {G : Nat → Nat → Nat} {m : Nat} : ∀ n, sumTo n (fun s => sumTo m (fun t => G s t)) = sumTo m (fun t => sumTo n (fun s => G s t))
  | 0 => (sumTo_zero m).symm
  | n + 1 => by
    show sumTo n (fun s => sumTo m (fun t => G s t)) + sumTo m (fun t => G n t) = sumTo m (fun t => sumTo n (fun s => G s t) + G n t)
    rw [sumTo_swap n, sumTo_add]
theorem sumTo_sub {h g : Nat → Nat} : ∀ n, (∀ i, i < n → g i ≤ h i) → sumTo n g ≤ sumTo n h ∧ sumTo n h - sumTo n g = sumTo n (fun i => h i - g i)
  | 0, _ => ⟨Nat.le_refl _, rfl⟩
  | n + 1, hh => by
    have ih := sumTo_sub n (fun i hi => hh i (by omega))
    have := hh n (by omega)
    refine ⟨?_, ?_⟩
    · show sumTo n g + g n ≤ sumTo n h + h n
      omega
    · show sumTo n h + h n - (sumTo n g + g n) = sumTo n (fun i => h i - g i) + (h n - g n)
      omega
theorem sumTo_more {h : Nat → Nat} {m : Nat} : ∀ d, (∀ i, m ≤ i → i < m + d → h i = 0) → sumTo (m + d) h = sumTo m h
  | 0, _ => rfl
  | d + 1, hh => by
    show sumTo (m + d) h + h (m + d) = sumTo m h
    rw [sumTo_more d (fun i h1 h2 => hh i h1 (by omega)), hh (m + d) (by omega) (by omega)]
    rfl
theorem sumTo_ge {h : Nat → Nat} {i : Nat} : ∀ n, i < n → h i ≤ sumTo n h
  | 0, q => by omega
  | n + 1, q => by
    show h i ≤ sumTo n h + h n
    by_cases e : i = n
    · rw [e]
      omega
    · have := sumTo_ge (h := h) (i := i) n (by omega)
      omega
theorem popn_sum (a : Nat) : ∀ n, popn n a = sumTo n (fun k => a / 2 ^ k % 2)
  | 0 => rfl
  | n + 1 => by
    show popn n a + a / 2 ^ n % 2 = sumTo n _ + a / 2 ^ n % 2
    rw [popn_sum a n]
def uniT (T : Nat → Nat) (s : Nat) : Nat → Nat
  | 0 => 0
  | i + 1 => uniT T s i ||| (if s / 2 ^ i % 2 = 1 then T i else 0)
def sgnT (T : Nat → Nat) (t : Nat) : Nat → Nat
  | 0 => 0
  | i + 1 => sgnT T t i ||| (if T i / 2 ^ t % 2 = 1 then 2 ^ i else 0)
theorem uniT_lt {T : Nat → Nat} (hT : ∀ i, T i < 4096) (s : Nat) : ∀ n, uniT T s n < 4096
  | 0 => show 0 < 4096 by decide
  | n + 1 => by
    refine Nat.or_lt_two_pow (n := 12) (uniT_lt hT s n) ?_
    split
    · exact hT n
    · decide
theorem sgnT_lt (T : Nat → Nat) (t : Nat) : ∀ n, sgnT T t n < 2 ^ n
  | 0 => Nat.one_pos
  | n + 1 => by
    have h := sgnT_lt T t n
    have h2 : (2 : Nat) ^ n < 2 ^ (n + 1) := Nat.pow_lt_pow_right (by decide) (by omega)
    show sgnT T t n ||| _ < 2 ^ (n + 1)
    refine Nat.or_lt_two_pow (by omega) ?_
    split
    · exact h2
    · exact Nat.pow_pos (by decide)
theorem uniT_bit {T : Nat → Nat} {s t : Nat} : ∀ n, uniT T s n / 2 ^ t % 2 = 1 ↔ ∃ i, i < n ∧ s / 2 ^ i % 2 = 1 ∧ T i / 2 ^ t % 2 = 1
  | 0 => by simp [uniT]
  | n + 1 => by
    have ih := uniT_bit (T := T) (s := s) (t := t) n
    show (uniT T s n ||| _) / 2 ^ t % 2 = 1 ↔ _
    rw [or_bit]
    constructor
    · intro h
      by_cases q : uniT T s n / 2 ^ t % 2 = 1
      · obtain ⟨i, h1, h2⟩ := ih.mp q
        exact ⟨i, by omega, h2⟩
      · by_cases q2 : (if s / 2 ^ n % 2 = 1 then T n else 0) / 2 ^ t % 2 = 1
        · by_cases q3 : s / 2 ^ n % 2 = 1
          · rw [if_pos q3] at q2
            exact ⟨n, by omega, q3, q2⟩
          · rw [if_neg q3] at q2
            simp at q2
        · rw [if_neg (fun h => h.elim q q2)] at h
          omega
    · rintro ⟨i, h1, h2, h3⟩
      by_cases q : i = n
      · subst q
        rw [if_pos h2, if_pos (Or.inr h3)]
      · rw [if_pos (Or.inl (ih.mpr ⟨i, by omega, h2, h3⟩))]
theorem sgnT_bit {T : Nat → Nat} {t i : Nat} : ∀ n, sgnT T t n / 2 ^ i % 2 = if i < n ∧ T i / 2 ^ t % 2 = 1 then 1 else 0
  | 0 => by simp [sgnT]
  | n + 1 => by
    have ih := sgnT_bit (T := T) (t := t) (i := i) n
    show (sgnT T t n ||| _) / 2 ^ i % 2 = _
    rw [or_bit, ih]
    by_cases q : i = n
    · subst q
      have f : ¬ (i < i ∧ T i / 2 ^ t % 2 = 1) := fun h => absurd h.1 (Nat.lt_irrefl _)
      rw [if_neg f]
      by_cases w : T i / 2 ^ t % 2 = 1
      · rw [if_pos w, pow_bit, if_pos rfl, if_pos (Or.inr rfl), if_pos ⟨by omega, w⟩]
      · have f1 : ¬ ((0 : Nat) = 1 ∨ 0 / 2 ^ i % 2 = 1) := by simp
        rw [if_neg w, if_neg f1, if_neg (fun h => w h.2)]
    · have e : (if T n / 2 ^ t % 2 = 1 then 2 ^ n else 0) / 2 ^ i % 2 = 0 := by
        split
        · rw [pow_bit, if_neg q]
        · simp
      rw [e]
      by_cases w : i < n ∧ T i / 2 ^ t % 2 = 1
      · rw [if_pos w, if_pos (Or.inl rfl), if_pos ⟨by omega, w.2⟩]
      · rw [if_neg w, if_neg (by omega), if_neg (fun h => w ⟨by omega, h.2⟩)]
def hitB (s A : Nat) : Bool := decide (s % 2 = 1 ∧ A % 2 = 1) || decide (s / 2 % 2 = 1 ∧ A / 2 % 2 = 1) || decide (s / 4 % 2 = 1 ∧ A / 4 % 2 = 1) || decide (s / 8 % 2 = 1 ∧ A / 8 % 2 = 1) || decide (s / 16 % 2 = 1 ∧ A / 16 % 2 = 1)
theorem hitB_iff {s A : Nat} : hitB s A = true ↔ ∃ i, i < 5 ∧ s / 2 ^ i % 2 = 1 ∧ A / 2 ^ i % 2 = 1 := by
  unfold hitB
  simp only [Bool.or_eq_true, decide_eq_true_eq]
  constructor
  · rintro ((((h | h) | h) | h) | h)
    · exact ⟨0, by omega, by simpa using h⟩
    · exact ⟨1, by omega, by simpa using h⟩
    · exact ⟨2, by omega, by simpa using h⟩
    · exact ⟨3, by omega, by simpa using h⟩
    · exact ⟨4, by omega, by simpa using h⟩
  · rintro ⟨i, hi, h⟩
    rcases (by omega : i = 0 ∨ i = 1 ∨ i = 2 ∨ i = 3 ∨ i = 4) with rfl | rfl | rfl | rfl | rfl
    · exact Or.inl (Or.inl (Or.inl (Or.inl (by simpa using h))))
    · exact Or.inl (Or.inl (Or.inl (Or.inr (by simpa using h))))
    · exact Or.inl (Or.inl (Or.inr (by simpa using h)))
    · exact Or.inl (Or.inr (by simpa using h))
    · exact Or.inr (by simpa using h)
theorem uniT_hit {T : Nat → Nat} {s t n : Nat} (hn : n ≤ 5) : uniT T s n / 2 ^ t % 2 = bI (hitB s (sgnT T t n)) := by
  have e : uniT T s n / 2 ^ t % 2 = 1 ↔ hitB s (sgnT T t n) = true := by
    rw [uniT_bit, hitB_iff]
    constructor
    · rintro ⟨i, h1, h2, h3⟩
      exact ⟨i, by omega, h2, by rw [sgnT_bit, if_pos ⟨h1, h3⟩]⟩
    · rintro ⟨i, h1, h2, h3⟩
      rw [sgnT_bit] at h3
      by_cases q : i < n ∧ T i / 2 ^ t % 2 = 1
      · exact ⟨i, q.1, h2, q.2⟩
      · rw [if_neg q] at h3
        omega
  cases hb : hitB s (sgnT T t n) with
  | true => exact e.mpr hb
  | false =>
    have : ¬ uniT T s n / 2 ^ t % 2 = 1 := fun q => by
      rw [e.mp q] at hb
      cases hb
    show _ = 0
    omega
theorem hitB_mono {s A b : Nat} : bI (hitB s A) ≤ bI (hitB (s ||| 2 ^ b) A) := by
  cases h : hitB s A with
  | false => exact Nat.zero_le _
  | true =>
    obtain ⟨i, h1, h2, h3⟩ := hitB_iff.mp h
    rw [hitB_iff.mpr ⟨i, h1, by rw [or_bit, if_pos (Or.inl h2)], h3⟩]
    exact Nat.le_refl _
theorem popn5 : ∀ s, s < 32 → popn 13 s = popn 5 s := by decide +kernel
theorem popn_b : ∀ n, n ≤ 5 → ∀ b, b < n → ∀ s, s < 2 ^ n → s / 2 ^ b % 2 = 0 → popn 5 s ≤ n - 1 := by decide +kernel
theorem share_all : ∀ n, n ≤ 5 → ∀ b, b < n → ∀ A, A < 2 ^ n → 60 * sumTo (2 ^ n) (fun s => if s / 2 ^ b % 2 = 1 then 0 else fac (popn 5 s) * fac (n - 1 - popn 5 s) * (bI (hitB (s ||| 2 ^ b) A) - bI (hitB s A))) = fac n * (if A / 2 ^ b % 2 = 1 then 60 / popn 5 A else 0) := by decide +kernel
/-- the reference's sum, the class's parts -/
def shW (n s : Nat) : Nat := fac (popn 13 s) * fac (n - 1 - popn 13 s)
def shG (T : Nat → Nat) (n b s : Nat) : Nat := if s / 2 ^ b % 2 = 1 then 0 else shW n s * (popn 13 (uniT T (s ||| 2 ^ b) n) - popn 13 (uniT T s n))
def shS (T : Nat → Nat) (n t : Nat) : Nat := sumTo n (fun i => T i / 2 ^ t % 2)
def shP (T : Nat → Nat) (n b t : Nat) : Nat := if T b / 2 ^ t % 2 = 1 then 60 / shS T n t else 0
theorem popn_sgn {T : Nat → Nat} {t n : Nat} (hn : n ≤ 5) : popn 5 (sgnT T t n) = shS T n t := by
  rw [popn_sum, show (5 : Nat) = n + (5 - n) by omega, sumTo_more (m := n) (5 - n) (fun i h1 h2 => by rw [sgnT_bit, if_neg (by omega)])]
  exact sumTo_congr n (fun i hi => by
    rw [sgnT_bit]
    by_cases q : T i / 2 ^ t % 2 = 1
    · rw [if_pos ⟨hi, q⟩, q]
    · rw [if_neg (fun h => q h.2)]
      omega)
theorem share_sum {T : Nat → Nat} {n b : Nat} (hT : ∀ i, T i < 4096) (hn : n ≤ 5) (hb : b < n) : 60 * sumTo (2 ^ n) (shG T n b) = fac n * sumTo 12 (shP T n b) := by
  have p32 := pow_le5 hn
  have e1 : sumTo (2 ^ n) (shG T n b) = sumTo (2 ^ n) (fun s => sumTo 13 (fun t => if s / 2 ^ b % 2 = 1 then 0 else fac (popn 5 s) * fac (n - 1 - popn 5 s) * (bI (hitB (s ||| 2 ^ b) (sgnT T t n)) - bI (hitB s (sgnT T t n))))) := by
    refine sumTo_congr _ (fun s hs => ?_)
    unfold shG shW
    by_cases q : s / 2 ^ b % 2 = 1
    · rw [if_pos q]
      rw [sumTo_congr 13 (h' := fun _ => 0) (fun t _ => by rw [if_pos q]), sumTo_zero]
    · rw [if_neg q, popn5 s (by omega)]
      rw [sumTo_congr 13 (h' := fun t => fac (popn 5 s) * fac (n - 1 - popn 5 s) * (bI (hitB (s ||| 2 ^ b) (sgnT T t n)) - bI (hitB s (sgnT T t n)))) (fun t _ => by rw [if_neg q]), sumTo_mul]
      congr 1
      rw [popn_sum, popn_sum, sumTo_congr 13 (h' := fun t => bI (hitB (s ||| 2 ^ b) (sgnT T t n))) (fun t _ => uniT_hit hn), sumTo_congr 13 (h := fun k => uniT T s n / 2 ^ k % 2) (h' := fun t => bI (hitB s (sgnT T t n))) (fun t _ => uniT_hit hn)]
      exact (sumTo_sub 13 (fun i _ => hitB_mono)).2
  rw [e1, sumTo_swap, ← sumTo_mul, ← sumTo_mul]
  have e2 : ∀ t, 60 * sumTo (2 ^ n) (fun s => if s / 2 ^ b % 2 = 1 then 0 else fac (popn 5 s) * fac (n - 1 - popn 5 s) * (bI (hitB (s ||| 2 ^ b) (sgnT T t n)) - bI (hitB s (sgnT T t n)))) = fac n * shP T n b t := fun t => by
    rw [share_all n hn b hb _ (sgnT_lt T t n), popn_sgn hn]
    unfold shP
    rw [sgnT_bit]
    by_cases q : T b / 2 ^ t % 2 = 1
    · have c1 : b < n ∧ T b / 2 ^ t % 2 = 1 := ⟨hb, q⟩
      rw [if_pos c1, if_pos rfl, if_pos q]
    · have c1 : ¬ (b < n ∧ T b / 2 ^ t % 2 = 1) := fun h => q h.2
      have c2 : ¬ (0 : Nat) = 1 := by decide
      rw [if_neg c1, if_neg c2, if_neg q]
  rw [sumTo_congr 13 (h' := fun t => fac n * shP T n b t) (fun t _ => e2 t)]
  show sumTo 12 (fun t => fac n * shP T n b t) + fac n * shP T n b 12 = _
  have e3 : shP T n b 12 = 0 := by
    unfold shP
    rw [Nat.div_eq_of_lt (show T b < 2 ^ 12 from hT b), if_neg (by decide)]
  rw [e3, Nat.mul_zero, Nat.add_zero]
theorem shP_le {T : Nat → Nat} {n b : Nat} : sumTo 12 (shP T n b) ≤ 720 := sumTo_le 12 (k := 60) (fun i _ => by
  unfold shP
  split
  · exact Nat.div_le_self _ _
  · omega)
theorem shG_le {T : Nat → Nat} {n b : Nat} (hT : ∀ i, T i < 4096) (hn : n ≤ 5) (hb : b < n) : sumTo (2 ^ n) (shG T n b) ≤ 1440 := by
  have h := share_sum hT hn hb
  have h1 := shP_le (T := T) (n := n) (b := b)
  have h2 := fac_le n hn
  have : fac n * sumTo 12 (shP T n b) ≤ 120 * 720 := Nat.mul_le_mul h2 h1
  omega
