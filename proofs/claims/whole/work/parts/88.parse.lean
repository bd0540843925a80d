/-! THE TEXT: what it tells -/
def nOk (xs : List Nat) (p : Nat) : Prop := p < xs.length ∧ 97 ≤ xs.getD p 0 ∧ xs.getD p 0 ≤ 108
def fOk (xs : List Nat) (lo hi p : Nat) : Prop := p < xs.length ∧ 48 + lo ≤ xs.getD p 0 ∧ xs.getD p 0 ≤ 48 + hi
def tOk (xs : List Nat) (p : Nat) : Prop := p < xs.length ∧ (xs.getD p 0 = 45 ∨ (97 ≤ xs.getD p 0 ∧ xs.getD p 0 ≤ 108))
def tnV (x : Nat) : Nat := if x = 45 then 12 else x - 97
def addG (F : TFen) (k : Nat) : TFen := ((fG F + 1, fL F, fB F, fV F), (fun j => if j = fG F then k else fk F j), fl F, fw F, fb F, fv F)
def addN (F : TFen) (nt : Nat → Nat) (x : Nat) : Nat → Nat := fun j => if j = fG F then x else nt j
def addL (F : TFen) (a b c : Nat) : TFen := ((fG F, fL F + 1, fB F, fV F), fk F, (fun j => if j = 3 * fL F then a else if j = 3 * fL F + 1 then b else if j = 3 * fL F + 2 then c else fl F j), fw F, fb F, fv F)
def addB (F : TFen) (w k : Nat) : TFen := ((fG F, fL F, fB F + 1, fV F), fk F, fl F, (fun j => if j = fB F then w else fw F j), (fun j => if j = fB F then k else fb F j), fv F)
def addV (F : TFen) (a b c d : Nat) : TFen := ((fG F, fL F, fB F, fV F + 1), fk F, fl F, fw F, fb F, (fun j => if j = 4 * fV F then a else if j = 4 * fV F + 1 then b else if j = 4 * fV F + 2 then c else if j = 4 * fV F + 3 then d else fv F j))
abbrev TP : Type := Nat ⊕ (Nat × TFen × (Nat → Nat))
noncomputable section
def pG (xs : List Nat) (i : Nat) (F : TFen) (nt : Nat → Nat) : TP := @ite _ (nOk xs (i + 1)) (Classical.propDecidable _) (@ite _ (fOk xs 0 3 (i + 2)) (Classical.propDecidable _) (.inr (i + 3, addG F (xs.getD (i + 2) 0 - 48), addN F nt (xs.getD (i + 1) 0 - 97))) (.inl (i + 2))) (.inl (i + 1))
def pL (xs : List Nat) (i : Nat) (F : TFen) (nt : Nat → Nat) : TP := @ite _ (fOk xs 0 (fG F - 1) (i + 1)) (Classical.propDecidable _) (@ite _ (fOk xs 0 (fG F - 1) (i + 2)) (Classical.propDecidable _) (@ite _ (fOk xs 0 (fG F - 1) (i + 3)) (Classical.propDecidable _) (.inr (i + 4, addL F (xs.getD (i + 1) 0 - 48) (xs.getD (i + 2) 0 - 48) (xs.getD (i + 3) 0 - 48), nt)) (.inl (i + 3))) (.inl (i + 2))) (.inl (i + 1))
def pB (xs : List Nat) (i : Nat) (F : TFen) (nt : Nat → Nat) : TP := @ite _ (fOk xs 1 9 (i + 1)) (Classical.propDecidable _) (@ite _ (fOk xs 0 3 (i + 2)) (Classical.propDecidable _) (.inr (i + 3, addB F (xs.getD (i + 1) 0 - 48) (xs.getD (i + 2) 0 - 48), nt)) (.inl (i + 2))) (.inl (i + 1))
def pV (xs : List Nat) (i : Nat) (F : TFen) (nt : Nat → Nat) : TP := @ite _ (tOk xs (i + 1)) (Classical.propDecidable _) (@ite _ (tOk xs (i + 2)) (Classical.propDecidable _) (@ite _ (tOk xs (i + 3)) (Classical.propDecidable _) (@ite _ (tOk xs (i + 4)) (Classical.propDecidable _) (.inr (i + 5, addV F (tnV (xs.getD (i + 1) 0)) (tnV (xs.getD (i + 2) 0)) (tnV (xs.getD (i + 3) 0)) (tnV (xs.getD (i + 4) 0)), nt)) (.inl (i + 4))) (.inl (i + 3))) (.inl (i + 2))) (.inl (i + 1))
def pst (xs : List Nat) (i : Nat) (F : TFen) (nt : Nat → Nat) : TP :=
  if xs.getD i 0 = 71 ∧ fG F < 5 then pG xs i F nt
  else if xs.getD i 0 = 76 ∧ fL F < 3 ∧ 0 < fG F then pL xs i F nt
  else if xs.getD i 0 = 66 ∧ fB F < 5 then pB xs i F nt
  else if xs.getD i 0 = 86 ∧ fV F < 2 then pV xs i F nt
  else .inl i
def psr (xs : List Nat) : Nat → Nat → TFen → (Nat → Nat) → Int32 × TFen × (Nat → Nat)
  | 0, _, F, nt => (-9, F, nt)
  | k + 1, i, F, nt => if i = xs.length then (-9, F, nt) else match pst xs i F nt with
    | .inl p => (nI p, F, nt)
    | .inr q => psr xs k q.1 q.2.1 q.2.2
end
def okD (F : TFen) (nt : Nat → Nat) : Prop := okF F ∧ ∀ j, j < fG F → nt j < 12
def cDr (I : gII) (g : Nat) (F : TFen) (nt : Nat → Nat) : Prop := cFen I g F ∧ ∀ j, j < fG F → I (g + 1) j = nI (nt j)
def rDr (I : gII) (F : TFen) (nt : Nat → Nat) : Prop := (I 57 14 = nI (fG F) ∧ I 57 15 = nI (fL F) ∧ I 57 16 = nI (fB F) ∧ I 57 17 = nI (fV F)) ∧ (∀ j, j < fG F → I 64 (2 * j) = nI (nt j) ∧ I 64 (2 * j + 1) = nI (fk F j)) ∧ (∀ j, j < 3 * fL F → I 65 j = nI (fl F j)) ∧ (∀ j, j < fB F → I 66 (2 * j) = nI (fw F j) ∧ I 66 (2 * j + 1) = nI (fb F j)) ∧ (∀ j, j < 4 * fV F → I 67 j = nI (fv F j))
/-- what a step over a part leaves -/
theorem addG_ok {F : TFen} {nt : Nat → Nat} {x k : Nat} (h : okD F nt) (hG : fG F < 5) (hk : k < 4) (hx : x < 12) : okD (addG F k) (addN F nt x) := by
  obtain ⟨⟨a1, a2, a3, a4, a5, a6, a7, a8, a9⟩, b⟩ := h
  refine ⟨⟨by show fG F + 1 ≤ 5; omega, a2, a3, a4, fun j hj => ?_, fun j hj => ?_, a7, a8, a9⟩, fun j hj => ?_⟩
  · have hj : j < fG F + 1 := hj
    show (if j = fG F then k else fk F j) < 4
    split
    · exact hk
    · exact a5 j (by omega)
  · have := a6 j hj
    show fl F j < fG F + 1
    omega
  · have hj : j < fG F + 1 := hj
    show (if j = fG F then x else nt j) < 12
    split
    · exact hx
    · exact b j (by omega)
theorem addL_ok {F : TFen} {nt : Nat → Nat} {a b c : Nat} (h : okD F nt) (hL : fL F < 3) (ha : a < fG F) (hb : b < fG F) (hc : c < fG F) : okD (addL F a b c) nt := by
  obtain ⟨⟨a1, a2, a3, a4, a5, a6, a7, a8, a9⟩, bb⟩ := h
  refine ⟨⟨a1, by show fL F + 1 ≤ 3; omega, a3, a4, a5, fun j hj => ?_, a7, a8, a9⟩, bb⟩
  have hj : j < 3 * (fL F + 1) := hj
  show (if j = 3 * fL F then a else if j = 3 * fL F + 1 then b else if j = 3 * fL F + 2 then c else fl F j) < fG F
  split
  · exact ha
  · split
    · exact hb
    · split
      · exact hc
      · exact a6 j (by omega)
theorem addB_ok {F : TFen} {nt : Nat → Nat} {w k : Nat} (h : okD F nt) (hB : fB F < 5) (hw : 1 ≤ w ∧ w ≤ 9) (hk : k < 4) : okD (addB F w k) nt := by
  obtain ⟨⟨a1, a2, a3, a4, a5, a6, a7, a8, a9⟩, bb⟩ := h
  refine ⟨⟨a1, a2, by show fB F + 1 ≤ 5; omega, a4, a5, a6, fun j hj => ?_, fun j hj => ?_, a9⟩, bb⟩
  · have hj : j < fB F + 1 := hj
    show 1 ≤ (if j = fB F then w else fw F j) ∧ (if j = fB F then w else fw F j) ≤ 9
    split
    · exact hw
    · exact a7 j (by omega)
  · have hj : j < fB F + 1 := hj
    show (if j = fB F then k else fb F j) < 4
    split
    · exact hk
    · exact a8 j (by omega)
theorem addV_ok {F : TFen} {nt : Nat → Nat} {a b c d : Nat} (h : okD F nt) (hV : fV F < 2) (ha : a ≤ 12) (hb : b ≤ 12) (hc : c ≤ 12) (hd : d ≤ 12) : okD (addV F a b c d) nt := by
  obtain ⟨⟨a1, a2, a3, a4, a5, a6, a7, a8, a9⟩, bb⟩ := h
  refine ⟨⟨a1, a2, a3, by show fV F + 1 ≤ 2; omega, a5, a6, a7, a8, fun j hj => ?_⟩, bb⟩
  have hj : j < 4 * (fV F + 1) := hj
  show (if j = 4 * fV F then a else if j = 4 * fV F + 1 then b else if j = 4 * fV F + 2 then c else if j = 4 * fV F + 3 then d else fv F j) ≤ 12
  split
  · exact ha
  · split
    · exact hb
    · split
      · exact hc
      · split
        · exact hd
        · exact a9 j (by omega)
/-! letters -/
def bn (x : Nat) : Nat := if 97 ≤ x ∧ x ≤ 108 then 1 else 0
def bf (x lo hi : Nat) : Nat := if 48 + lo ≤ x ∧ x ≤ 48 + hi then 1 else 0
theorem isNote_v {I : gII} {L : gLL} {x : Nat} (hx : x < 256) : f_X1_isNote I L (nI x) = nI (bn x) := by
  unfold f_X1_isNote bn
  simp (disch := omega) only [n_le, n_lt, n_eq, n_eq0, n_0lt, n_le0, n_lt0, n_0le, n_gvp, n_gx, n_add, n_mul, decide_eq_true_eq, Option.bind_some, if_false, if_true, not_false_eq_true, not_true_eq_false]
  by_cases h1 : x < 97
  · rw [if_pos h1, if_neg (by omega)]
  · rw [if_neg h1]
    by_cases h2 : 108 < x
    · rw [if_pos h2, if_neg (by omega)]
    · rw [if_neg h2, if_pos (by omega)]
theorem inb48' : ∀ x, x < 256 → ∀ n, n < 6 → inb (nI x - nI 48) n = nI (if 48 ≤ x ∧ x < 48 + n then 1 else 0) := by decide +kernel
theorem in48' : ∀ x, x < 256 → ∀ lo, lo < 2 → ∀ hi, hi < 10 → f_X8_in (fun _ _ => 0) (fun _ _ => 0) (Int32.toInt64 (nI x - nI 48)) (Int32.toInt64 (nI lo)) (Int32.toInt64 (nI hi)) = nI (bf x lo hi) := by decide +kernel
theorem sub48 {x : Nat} (h : 48 ≤ x) : nI x - nI 48 = nI (x - 48) := n_sub h
theorem sub97 {x : Nat} (h : 97 ≤ x) : nI x - nI 97 = nI (x - 97) := n_sub h
