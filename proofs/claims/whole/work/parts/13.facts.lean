/-! THE WORLD behind the two constructors: shapes gKn (n: the script's length), references gRf (f: the Fen that is, g: the draft) -/
def gshL (n : Nat) : List Nat := [99, 100 + 3 * n, 7, 280, 1, 115, 115, 127, 115, 115, 124, 1, 115, 115, 127, 115, 115, 124, 4, 4, 0, 144, 4, 4, 4, 4, 4, 4, 4, 4, 4, 4, 4, 4, 4, 4, 108, 4, 4, 107, 2, 118, 118, 118, 5, 108, 6, 136, 4, 4, 3, 127, 127, 6, 136, 6, 136, 8, 115, 127, 115, 115, 124, 262, 130, 127, 130, 124, 280, 172, 1234, 118, 118, 118, 107, 262]
def gKn (n : Nat) : Nat × (Nat → Nat) := (74, fun a => ((gshL n)[a]?).getD 99)
def grfL (f g : Nat) : List (List Nat) := [[], [], [3, 0, f, g, 18, 19, 20, 36, 39, 40, 44, 50, 53, 55], [], [0, 0, 0, 0, 0, 5, 6, 7, 8, 9, 10], [], [], [], [], [], [], [0, 0, 0, 0, 0, 12, 13, 14, 15, 16, 17], [], [], [], [], [], [], [], [], [21], [22, 23, 24, 25, 26, 27, 28, 29, 30, 31, 32, 33, 34, 35], [], [], [], [], [], [], [], [], [], [], [], [], [], [], [37, 38], [], [], [], [41, 42, 43], [], [], [], [45, 46], [48, 49], [47], [], [], [], [51, 52], [], [], [54], [], [56], [], [0, 0, 0, 0, 58, 59, 60, 61, 62, 63, 64, 65, 66, 67, 0, 0, 0, 0, 0, 68, 0, 0, 0, 69, 0, 0, 0, 70, 0, 0, 71, 72, 73, 0, 74, 75], [], [], [], [], [], [], [], [], [], [], [], [], [], [], [], [], [], []]
def gRf (f g : Nat) : Nat → Nat → Nat := fun a j => ((((grfL f g)[a]?).getD [])[j]?).getD 0
def gfe (a : Nat) : Bool := a == 4 || a == 11
def gmo (a : Nat) : Bool := (18 ≤ a && a ≤ 19) || (22 ≤ a && a ≤ 35) || (37 ≤ a && a ≤ 38) || (48 ≤ a && a ≤ 49)
def gso (a : Nat) : Bool := a == 46 || a == 53 || a == 55
def gfw (f g : Nat) : Prop := (f = 4 ∧ g = 11) ∨ (f = 11 ∧ g = 4)
theorem gfw.f {f g : Nat} (h : gfw f g) : gfe f = true := by rcases h with ⟨rfl, rfl⟩ | ⟨rfl, rfl⟩ <;> rfl
theorem gfw.g {f g : Nat} (h : gfw f g) : gfe g = true := by rcases h with ⟨rfl, rfl⟩ | ⟨rfl, rfl⟩ <;> rfl
theorem gfe_or {a : Nat} (h : gfe a = true) : a = 4 ∨ a = 11 := by simpa [gfe] using h
theorem gso_or {a : Nat} (h : gso a = true) : a = 46 ∨ a = 53 ∨ a = 55 := by simpa [gso, or_assoc] using h
theorem gmo_or {a : Nat} (h : gmo a = true) : (18 ≤ a ∧ a ≤ 19) ∨ (22 ≤ a ∧ a ≤ 35) ∨ (37 ≤ a ∧ a ≤ 38) ∨ (48 ≤ a ∧ a ≤ 49) := by simpa [gmo, or_assoc] using h
theorem shFen {n a : Nat} (h : gfe a = true) : (gKn n).2 a = 1 := by rcases gfe_or h with rfl | rfl <;> rfl
theorem shSong {n a : Nat} (h : gso a = true) : (gKn n).2 a = 6 := by rcases gso_or h with rfl | rfl | rfl <;> rfl
theorem shSong0 {n a : Nat} (h : gso a = true) : (gKn n).2 (a + 1) = 100 + 3 * 12 := by rcases gso_or h with rfl | rfl | rfl <;> rfl
theorem rfSong {f g a : Nat} (h : gso a = true) : gRf f g a 0 = a + 1 := by rcases gso_or h with rfl | rfl | rfl <;> rfl
theorem gmoAll (P : Nat → Prop) (h1 : P 18) (h2 : P 19) (h3 : ∀ j, j < 14 → P (22 + j)) (h4 : P 37) (h5 : P 38) (h6 : P 48) (h7 : P 49) {a : Nat} (h : gmo a = true) : P a := by
  have h := gmo_or h
  rcases h with h | h | h | h
  · rcases (by omega : a = 18 ∨ a = 19) with rfl | rfl <;> assumption
  · have := h3 (a - 22) (by omega)
    rwa [show 22 + (a - 22) = a by omega] at this
  · rcases (by omega : a = 37 ∨ a = 38) with rfl | rfl <;> assumption
  · rcases (by omega : a = 48 ∨ a = 49) with rfl | rfl <;> assumption
theorem g14 (P : Nat → Prop) (h0 : P 0) (h1 : P 1) (h2 : P 2) (h3 : P 3) (h4 : P 4) (h5 : P 5) (h6 : P 6) (h7 : P 7) (h8 : P 8) (h9 : P 9) (h10 : P 10) (h11 : P 11) (h12 : P 12) (h13 : P 13) (j : Nat) (hj : j < 14) : P j := by
  rcases (by omega : j = 0 ∨ j = 1 ∨ j = 2 ∨ j = 3 ∨ j = 4 ∨ j = 5 ∨ j = 6 ∨ j = 7 ∨ j = 8 ∨ j = 9 ∨ j = 10 ∨ j = 11 ∨ j = 12 ∨ j = 13) with rfl | rfl | rfl | rfl | rfl | rfl | rfl | rfl | rfl | rfl | rfl | rfl | rfl | rfl <;> assumption
theorem shMom {n a : Nat} (h : gmo a = true) : (gKn n).2 a = 4 := gmoAll (fun a => (gKn n).2 a = 4) rfl rfl (g14 (fun j => (gKn n).2 (22 + j) = 4) rfl rfl rfl rfl rfl rfl rfl rfl rfl rfl rfl rfl rfl rfl) rfl rfl rfl rfl h
theorem gx_lt {j : Int32} {n : Nat} (h : vp_in j n) : gx j < n := Nat.not_le.mp fun q => h (Or.inr q)
theorem rfAhead {f g : Nat} {j : Int32} (h : vp_in j 14) : gRf f g 21 (gx j) = 22 + gx j := g14 (fun j => gRf f g 21 j = 22 + j) rfl rfl rfl rfl rfl rfl rfl rfl rfl rfl rfl rfl rfl rfl _ (gx_lt h)
theorem moAhead {j : Int32} (h : vp_in j 14) : gmo (22 + gx j) = true := g14 (fun j => gmo (22 + j) = true) rfl rfl rfl rfl rfl rfl rfl rfl rfl rfl rfl rfl rfl rfl _ (gx_lt h)
theorem g2 (P : Nat → Prop) (h0 : P 0) (h1 : P 1) (j : Nat) (hj : j < 2) : P j := by
  rcases (by omega : j = 0 ∨ j = 1) with rfl | rfl <;> assumption
theorem rfKept {f g : Nat} {j : Int32} (h : vp_in j 2) : gRf f g 36 (gx j) = 37 + gx j := g2 (fun j => gRf f g 36 j = 37 + j) rfl rfl _ (gx_lt h)
theorem moKept {j : Int32} (h : vp_in j 2) : gmo (37 + gx j) = true := g2 (fun j => gmo (37 + j) = true) rfl rfl _ (gx_lt h)
theorem rfTried {f g : Nat} {j : Int32} (h : vp_in j 2) : gRf f g 45 (gx j) = 48 + gx j := g2 (fun j => gRf f g 45 j = 48 + j) rfl rfl _ (gx_lt h)
theorem moTried {j : Int32} (h : vp_in j 2) : gmo (48 + gx j) = true := g2 (fun j => gmo (48 + j) = true) rfl rfl _ (gx_lt h)
theorem ne1Fen {a j : Nat} (h : gfe a = true) : a + (j + 1) ≠ 1 := by rcases gfe_or h with rfl | rfl <;> omega
theorem ne1Song {a : Nat} (h : gso a = true) : a + 1 ≠ 1 := by rcases gso_or h with rfl | rfl | rfl <;> omega
theorem gcst (k : Nat) : Int32.ofInt (k : Int) = nI k := by
  show Int32.ofInt (k : Int) = Int32.ofNat k
  exact Int32.ofInt_eq_ofNat
theorem ginc (x : Int32) (k : Nat) : x + Int32.ofInt (k : Int) = x + nI k := by rw [gcst]
theorem gI_of_toInt {x y : Int32} {k : Int} (e : x.toInt = k) (hk : y.toInt = k := by decide) : x = y := Int32.toInt_inj.mp (e.trans hk.symm)
theorem gtab_df {df lo hi : Int} {os : Array Int} {x : Int32} {t : Nat} (ht : df.toNat = t) (h : ∀ z : Int, lo ≤ z → z ≤ hi → x.toInt = z → False) : gtab df lo hi os x = t := by
  unfold gtab
  rw [if_pos, ht]
  by_cases h1 : x.toInt < lo
  · exact Or.inl h1
  · by_cases h2 : hi < x.toInt
    · exact Or.inr h2
    · exact (h x.toInt (by omega) (by omega) rfl).elim
theorem gRsw {f g : Nat} : gu2 (gu2 (gRf f g) 2 2 g) 2 3 f = gRf g f := by
  funext a j
  by_cases ha : a = 2
  · subst ha
    by_cases h3 : j = 3
    · subst h3
      rfl
    · by_cases h2 : j = 2
      · subst h2
        rfl
      · simp only [gu2, h2, h3, and_false, if_false, gRf]
        match j, h2, h3 with
        | 0, _, _ => rfl
        | 1, _, _ => rfl
        | j + 4, _, _ => rfl
  · simp only [gu2, ha, false_and, if_false, gRf]
    match a, ha with
    | 0, _ => rfl
    | 1, _ => rfl
    | a + 3, _ => rfl
theorem shFen5 {n a : Nat} (h : gfe a = true) : (gKn n).2 (a + 1) = 100 + 3 * 5 := by rcases gfe_or h with rfl | rfl <;> rfl
theorem rfFen5 {f g a : Nat} (h : gfe a = true) : gRf f g a 5 = a + 1 := by rcases gfe_or h with rfl | rfl <;> rfl
theorem shFen6 {n a : Nat} (h : gfe a = true) : (gKn n).2 (a + 2) = 100 + 3 * 5 := by rcases gfe_or h with rfl | rfl <;> rfl
theorem rfFen6 {f g a : Nat} (h : gfe a = true) : gRf f g a 6 = a + 2 := by rcases gfe_or h with rfl | rfl <;> rfl
theorem shFen7 {n a : Nat} (h : gfe a = true) : (gKn n).2 (a + 3) = 100 + 3 * 9 := by rcases gfe_or h with rfl | rfl <;> rfl
theorem rfFen7 {f g a : Nat} (h : gfe a = true) : gRf f g a 7 = a + 3 := by rcases gfe_or h with rfl | rfl <;> rfl
theorem shFen8 {n a : Nat} (h : gfe a = true) : (gKn n).2 (a + 4) = 100 + 3 * 5 := by rcases gfe_or h with rfl | rfl <;> rfl
theorem rfFen8 {f g a : Nat} (h : gfe a = true) : gRf f g a 8 = a + 4 := by rcases gfe_or h with rfl | rfl <;> rfl
theorem shFen9 {n a : Nat} (h : gfe a = true) : (gKn n).2 (a + 5) = 100 + 3 * 5 := by rcases gfe_or h with rfl | rfl <;> rfl
theorem rfFen9 {f g a : Nat} (h : gfe a = true) : gRf f g a 9 = a + 5 := by rcases gfe_or h with rfl | rfl <;> rfl
theorem shFen10 {n a : Nat} (h : gfe a = true) : (gKn n).2 (a + 6) = 100 + 3 * 8 := by rcases gfe_or h with rfl | rfl <;> rfl
theorem rfFen10 {f g a : Nat} (h : gfe a = true) : gRf f g a 10 = a + 6 := by rcases gfe_or h with rfl | rfl <;> rfl
