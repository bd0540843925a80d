/-! WHAT THE STATE MEANS: a Fen (F), a Moment (V); how the class and the reference hold them -/
abbrev TFen : Type := (Nat × Nat × Nat × Nat) × (Nat → Nat) × (Nat → Nat) × (Nat → Nat) × (Nat → Nat) × (Nat → Nat)
def fG (F : TFen) : Nat := F.1.1
def fL (F : TFen) : Nat := F.1.2.1
def fB (F : TFen) : Nat := F.1.2.2.1
def fV (F : TFen) : Nat := F.1.2.2.2
def fk (F : TFen) : Nat → Nat := F.2.1
def fl (F : TFen) : Nat → Nat := F.2.2.1
def fw (F : TFen) : Nat → Nat := F.2.2.2.1
def fb (F : TFen) : Nat → Nat := F.2.2.2.2.1
def fv (F : TFen) : Nat → Nat := F.2.2.2.2.2
def okF (F : TFen) : Prop := fG F ≤ 5 ∧ fL F ≤ 3 ∧ fB F ≤ 5 ∧ fV F ≤ 2 ∧ (∀ j, j < fG F → fk F j < 4) ∧ (∀ j, j < 3 * fL F → fl F j < fG F) ∧ (∀ j, j < fB F → 1 ≤ fw F j ∧ fw F j ≤ 9) ∧ (∀ j, j < fB F → fb F j < 4) ∧ (∀ j, j < 4 * fV F → fv F j ≤ 12)
abbrev TMom : Type := (Nat → Nat) × (Nat → Nat) × (Nat × Nat × Nat × Nat) × List Nat
def mn (V : TMom) : Nat → Nat := V.1
def mp (V : TMom) : Nat → Nat := V.2.1
def mo (V : TMom) : Nat := V.2.2.1.1
def mi (V : TMom) : Nat := V.2.2.1.2.1
def mh (V : TMom) : Nat := V.2.2.1.2.2.1
def mf (V : TMom) : Nat := V.2.2.1.2.2.2
def ms (V : TMom) : List Nat := V.2.2.2
def okM (F : TFen) (V : TMom) : Prop := (∀ j, j < 5 → mn V j < 12) ∧ (∀ j, j < 5 → mp V j ≤ 3) ∧ mo V < 2 ^ fG F ∧ mi V < 2 ^ fG F ∧ mh V < 2 ^ fB F ∧ mf V ≤ 1 ∧ (∀ t ∈ ms V, t ≤ 12) ∧ (ms V).length ≤ 12
def pk16 (n : Nat → Nat) : Nat := n 0 + 16 * n 1 + 256 * n 2 + 4096 * n 3 + 65536 * n 4
def pk4 (n : Nat → Nat) : Nat := n 0 + 4 * n 1 + 16 * n 2 + 64 * n 3 + 256 * n 4
/-- a Moment of the class at the cell m -/
def cMom (I : gII) (L : gLL) (m : Nat) (V : TMom) : Prop := I m 0 = nI (pk16 (mn V)) ∧ I m 1 = nI (pk4 (mp V)) ∧ I m 2 = nI (mo V) ∧ I m 3 = nI (mi V) ∧ I m 4 = nI (mh V) ∧ I m 5 = nI (mf V) ∧ I m 7 = nI (ms V).length ∧ ∃ S, L m 6 = lN S ∧ S < 18446744073709551616 ∧ ∀ j, j < (ms V).length → S / 16 ^ j % 16 = (ms V).getD j 0
/-- twenty-seven numbers of the reference, in the array a from b on -/
def rMom (I : gII) (a b : Nat) (V : TMom) : Prop := (∀ k, k < 5 → I a (b + k) = nI (mn V k)) ∧ (∀ k, k < 5 → I a (b + 5 + k) = nI (mp V k)) ∧ I a (b + 10) = nI (mo V) ∧ I a (b + 11) = nI (mi V) ∧ I a (b + 12) = nI (mh V) ∧ I a (b + 13) = nI (mf V) ∧ I a (b + 14) = nI (ms V).length ∧ ∀ j, j < (ms V).length → I a (b + 15 + j) = nI ((ms V).getD ((ms V).length - 1 - j) 0)
def cFen (I : gII) (f : Nat) (F : TFen) : Prop := I f 0 = nI (fG F) ∧ I f 1 = nI (fL F) ∧ I f 2 = nI (fB F) ∧ I f 3 = nI (fV F) ∧ (∀ j, j < fG F → I (f + 2) j = nI (fk F j)) ∧ (∀ j, j < 3 * fL F → I (f + 3) j = nI (fl F j)) ∧ (∀ j, j < fB F → I (f + 4) j = nI (fw F j)) ∧ (∀ j, j < fB F → I (f + 5) j = nI (fb F j)) ∧ (∀ j, j < 4 * fV F → I (f + 6) j = nI (fv F j))
def rFen (I : gII) (F : TFen) : Prop := I 57 0 = nI (fG F) ∧ I 57 1 = nI (fL F) ∧ I 57 2 = nI (fB F) ∧ I 57 3 = nI (fV F) ∧ (∀ j, j < fG F → I 58 j = nI (fk F j)) ∧ (∀ j, j < 3 * fL F → I 59 j = nI (fl F j)) ∧ (∀ j, j < fB F → I 60 j = nI (fw F j)) ∧ (∀ j, j < fB F → I 61 j = nI (fb F j)) ∧ (∀ j, j < 4 * fV F → I 62 j = nI (fv F j))
/-! a TONE -/
def tone (F : TFen) (V : TMom) (g w k : Nat) : Nat :=
  if fk F g = 3 ∧ w < 5 then 12 else if (mo V ||| mi V) / 2 ^ g % 2 = 1 then 12 else
  (mn V g + (if k = 3 then w / 4 else w / 2) + 4 * mf V + 24 - ((if fk F g = 2 then mp V g else 0) + (if k = 2 then 5 else 0))) % 12
theorem tone_le (F : TFen) (V : TMom) (g w k : Nat) : tone F V g w k ≤ 12 := by
  unfold tone
  repeat' split
  all_goals omega
def fm (x y : Int32) : Int32 := if 0 ≤ (x ^^^ y) then grem x y else if grem x y = 0 then grem x y else grem x y + y
theorem fm_run {I : gII} {L : gLL} {x y : Int32} (h : ¬ y = 0) : r_J9_floorMod_7cf53 I L x y = some (fm x y, I, L) := by
  unfold r_J9_floorMod_7cf53 r_J9_floorMod_7cf53_14 fm
  rw [if_pos h]
  split
  · rfl
  · split <;> rfl
theorem fm_12 : ∀ a, a < 24 → ∀ b, b < 9 → fm (nI a - nI b) (nI 12) = nI ((a + 24 - b) % 12) := by decide +kernel
theorem pk16_at {n : Nat → Nat} (h : ∀ j, j < 5 → n j < 12) {g : Nat} (hg : g < 5) : pk16 n / 2 ^ (4 * g) % 16 = n g ∧ pk16 n < 1048576 := by
  have h0 := h 0 (by omega)
  have h1 := h 1 (by omega)
  have h2 := h 2 (by omega)
  have h3 := h 3 (by omega)
  have h4 := h 4 (by omega)
  unfold pk16
  rcases (by omega : g = 0 ∨ g = 1 ∨ g = 2 ∨ g = 3 ∨ g = 4) with rfl | rfl | rfl | rfl | rfl <;> simp <;> omega
theorem pk4_at {n : Nat → Nat} (h : ∀ j, j < 5 → n j ≤ 3) {g : Nat} (hg : g < 5) : pk4 n / 2 ^ (2 * g) % 4 = n g ∧ pk4 n < 1024 := by
  have h0 := h 0 (by omega)
  have h1 := h 1 (by omega)
  have h2 := h 2 (by omega)
  have h3 := h 3 (by omega)
  have h4 := h 4 (by omega)
  unfold pk4
  rcases (by omega : g = 0 ∨ g = 1 ∨ g = 2 ∨ g = 3 ∨ g = 4) with rfl | rfl | rfl | rfl | rfl <;> simp <;> omega
theorem noteOf_c {I : gII} {L : gLL} {F : TFen} {V : TMom} {m g : Nat} (hM : cMom I L m V) (hV : okM F V) (hg : g < 5) : f_X4_noteOf I L m (nI g) = nI (mn V g) := by
  obtain ⟨e, lt⟩ := pk16_at hV.1 hg
  unfold f_X4_noteOf
  rw [hM.1, n_mul, n_shr (by omega) (by omega), n_and, show (15 : Nat) = 2 ^ 4 - 1 from rfl, Nat.and_two_pow_sub_one_eq_mod, e]
theorem passedOf_c {I : gII} {L : gLL} {F : TFen} {V : TMom} {m g : Nat} (hM : cMom I L m V) (hV : okM F V) (hg : g < 5) : f_X4_passedOf I L m (nI g) = nI (mp V g) := by
  obtain ⟨e, lt⟩ := pk4_at hV.2.1 hg
  unfold f_X4_passedOf
  rw [hM.2.1, n_mul, n_shr (by omega) (by omega), n_and, show (3 : Nat) = 2 ^ 2 - 1 from rfl, Nat.and_two_pow_sub_one_eq_mod, e]
theorem bit_n {a k : Nat} (ha : a < 2147483648) (hk : k < 32) : (gshr (nI a) (nI k)) &&& nI 1 = nI (a / 2 ^ k % 2) := by
  rw [n_shr ha hk, n_and, show (1 : Nat) = 2 ^ 1 - 1 from rfl, Nat.and_two_pow_sub_one_eq_mod]
theorem or_lt {a b k : Nat} (ha : a < 2 ^ k) (hb : b < 2 ^ k) : a ||| b < 2 ^ k := Nat.or_lt_two_pow ha hb
theorem pow_le5 {k : Nat} (h : k ≤ 5) : 2 ^ k ≤ 32 := by
  rcases (by omega : k = 0 ∨ k = 1 ∨ k = 2 ∨ k = 3 ∨ k = 4 ∨ k = 5) with rfl | rfl | rfl | rfl | rfl | rfl <;> decide
theorem tone_c {I : gII} {L : gLL} {F : TFen} {V : TMom} {f m g w k : Nat} (hF : okF F) (hc : cFen I f F) (hV : okM F V) (hM : cMom I L m V) (hg : g < fG F) (hw : w ≤ 9) (hk : k < 4) : r_X1_toneBy I L f m (nI g) (nI w) (nI k) = some (nI (tone F V g w k), I, L) := by
  have hg5 : g < 5 := Nat.lt_of_lt_of_le hg hF.1
  have hkd := hF.2.2.2.2.1 g hg
  have ek := hc.2.2.2.2.1 g hg
  have hn := hV.1 g hg5
  have hp := hV.2.1 g hg5
  have hor := or_lt hV.2.2.1 hV.2.2.2.1
  have h32 := pow_le5 hF.1
  have hfr := hV.2.2.2.2.2.1
  obtain ⟨m0, m1, m2, m3, m4, m5, m7, S, mS, hS1, hS2⟩ := hM
  have hM : cMom I L m V := ⟨m0, m1, m2, m3, m4, m5, m7, S, mS, hS1, hS2⟩
  have key : ∀ dv, dv = 2 ∨ dv = 4 → r_X1_toneBy_37 f m (nI g) (nI k) (nI (mn V g)) (nI w) (nI dv) I L = some (nI ((mn V g + w / dv + 4 * mf V + 24 - ((if fk F g = 2 then mp V g else 0) + (if k = 2 then 5 else 0))) % 12), I, L) := by
    intro dv hdv
    have hq : w / dv ≤ 4 := by rcases hdv with rfl | rfl <;> omega
    unfold r_X1_toneBy_37
    rw [if_pos (by rw [n_eq0 (by omega)]; omega), n_gvp (by omega), if_pos (by simpa using hg5), n_gx (by omega), ek, m5, passedOf_c hM hV hg5, n_div (by omega) (by omega) (by omega), n_add, n_mul, n_add]
    have e5 : ∀ x : Int32, x + (-5) = x - nI 5 := fun x => by rw [Int32.sub_eq_add_neg]; rfl
    have es : ∀ (x : Int32) (a b : Nat), x - nI a - nI b = x - nI (a + b) := fun x a b => by rw [← n_add]; grind
    have e0 : ∀ x : Int32, x = x - nI 0 := fun x => by rw [nI_0]; grind
    have hE : (if ¬ nI k = nI 2 then (if ¬ nI (fk F g) = nI 2 then nI (mn V g + w / dv + 4 * mf V) else nI (mn V g + w / dv + 4 * mf V) - nI (mp V g)) else (if ¬ nI (fk F g) = nI 2 then nI (mn V g + w / dv + 4 * mf V) else nI (mn V g + w / dv + 4 * mf V) - nI (mp V g)) + (-5)) = nI (mn V g + w / dv + 4 * mf V) - nI ((if fk F g = 2 then mp V g else 0) + (if k = 2 then 5 else 0)) := by
      simp (disch := omega) only [n_eq]
      by_cases h1 : k = 2
      · by_cases h2 : fk F g = 2
        · simp only [h1, h2, not_true, if_true, if_false]
          rw [e5, es]
        · simp only [h1, h2, not_true, not_false_eq_true, if_true, if_false]
          rw [e5, Nat.zero_add]
      · by_cases h2 : fk F g = 2
        · simp only [h1, h2, not_true, not_false_eq_true, if_true, if_false]
          rw [Nat.add_zero]
        · simp only [h1, h2, not_false_eq_true, if_true, if_false]
          exact e0 _
    rw [hE, fm_run (by rw [n_eq0 (by omega)]; omega), fm_12 _ (by omega) _ (by split <;> split <;> omega)]
    rfl
  unfold r_X1_toneBy r_X1_toneBy_25
  rw [n_gvp (by omega), if_pos (by simpa using hg5), n_gx (by omega), ek, m2, m3, n_or, bit_n (by omega) (by omega), noteOf_c hM hV hg5, key 2 (Or.inl rfl), key 4 (Or.inr rfl)]
  simp (disch := omega) only [n_eq, n_le, n_eq0]
  unfold tone
  have hz : ¬ (nI 0 : Int32) = 0 ↔ False := by simp [nI_0]
  by_cases h1 : fk F g = 3
  · by_cases h2 : w < 5
    · have h2' : ¬ 5 ≤ w := by omega
      have : ¬ (nI 1 : Int32) = 0 := by decide
      simp [h1, h2, h2', this]
    · have h2' : 5 ≤ w := by omega
      by_cases h3 : (mo V ||| mi V) / 2 ^ g % 2 = 1
      · simp [h1, h2, h2', nI_0, h3]
      · have h3' : (mo V ||| mi V) / 2 ^ g % 2 = 0 := by omega
        by_cases h4 : k = 3
        · simp [h1, h2, h2', nI_0, h3', h4]
        · simp [h1, h2, h2', nI_0, h3', h4]
  · by_cases h3 : (mo V ||| mi V) / 2 ^ g % 2 = 1
    · simp [h1, nI_0, h3]
    · have h3' : (mo V ||| mi V) / 2 ^ g % 2 = 0 := by omega
      by_cases h4 : k = 3
      · simp [h1, nI_0, h3', h4]
      · simp [h1, nI_0, h3', h4]
