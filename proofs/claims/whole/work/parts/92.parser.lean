/-! THE TEXT, as the reference reads it -/
theorem gu2_id {α : Type} {f : Nat → Nat → α} {a j : Nat} : gu2 f a j (f a j) = f := by
  funext a' j'
  unfold gu2
  by_cases h : a' = a ∧ j' = j
  · rw [if_pos h, h.1, h.2]
  · rw [if_neg h]
def rLet (I : gII) (xs : List Nat) : Prop := I 57 20 = nI xs.length ∧ ∀ j, j < xs.length → I 68 j = nI (xs.getD j 0)
def rPr (I J : gII) : Prop := (∀ a, a ≠ 57 → ¬ (64 ≤ a ∧ a ≤ 67) → J a = I a) ∧ ∀ j, ¬ (14 ≤ j ∧ j ≤ 17) → j ≠ 21 → j ≠ 22 → J 57 j = I 57 j
theorem rP_refl {I : gII} : rPr I I := ⟨fun _ _ _ => rfl, fun _ _ _ _ => rfl⟩
theorem rP_trans {I J K : gII} (h : rPr I J) (k : rPr J K) : rPr I K := ⟨fun a a1 a2 => (k.1 a a1 a2).trans (h.1 a a1 a2), fun j j1 j2 j3 => (k.2 j j1 j2 j3).trans (h.2 j j1 j2 j3)⟩
theorem rP_57 {I : gII} {j : Nat} {v : Int32} (hj : (14 ≤ j ∧ j ≤ 17) ∨ j = 21 ∨ j = 22) : rPr I (gu2 I 57 j v) := ⟨fun a a1 _ => gu2_other a1, fun i i1 i2 i3 => g2n (by omega)⟩
theorem rP_ar {I : gII} {a j : Nat} {v : Int32} (ha : 64 ≤ a ∧ a ≤ 67) : rPr I (gu2 I a j v) := ⟨fun b _ b2 => gu2_other (by omega), fun i _ _ _ => by rw [gu2_other (by omega)]⟩
theorem rP_let {I J : gII} {xs : List Nat} (h : rPr I J) (ht : rLet I xs) : rLet J xs := ⟨by rw [h.2 20 (by omega) (by omega) (by omega)]; exact ht.1, fun j hj => by rw [h.1 68 (by omega) (by omega)]; exact ht.2 j hj⟩
theorem th1 {I : gII} {p n : Nat} (h20 : I 57 20 = nI n) (h21 : I 57 21 = nI p) (h22 : I 57 22 = -9) (hn : n ≤ 60) (hp : p ≤ n) : (if ¬ (I 57 22) = (-9 : Int32) then (nI 0) else (if (I 57 20) ≤ (I 57 21) then (nI 0) else (nI 1))) = nI (if p < n then 1 else 0) := by
  rw [h22, if_neg (fun h => h rfl), h20, h21]
  by_cases q : p < n
  · rw [if_pos q, if_neg (show ¬ nI n ≤ nI p by simp (disch := omega) only [n_le, n_lt, n_eq, n_eq0, n_0lt, n_le0, n_lt0, n_0le, n_gvp, n_gx, n_add, n_mul, decide_eq_true_eq, Option.bind_some, if_false, if_true, not_false_eq_true, not_true_eq_false]; omega)]
  · rw [if_neg q, if_pos (show nI n ≤ nI p by simp (disch := omega) only [n_le, n_lt, n_eq, n_eq0, n_0lt, n_le0, n_lt0, n_0le, n_gvp, n_gx, n_add, n_mul, decide_eq_true_eq, Option.bind_some, if_false, if_true, not_false_eq_true, not_true_eq_false]; omega)]
theorem th0 {I : gII} {q : Nat} (h22 : I 57 22 = nI q) (hq : q < 2147483648) : (if ¬ (I 57 22) = (-9 : Int32) then (nI 0) else (if (I 57 20) ≤ (I 57 21) then (nI 0) else (nI 1))) = nI 0 := by
  rw [h22, if_pos (m9 hq)]
theorem fig35 {I : gII} {L : gLL} {p : Nat} {v : Int32} (h21 : I 57 21 = nI p) (h22 : I 57 22 = -9) : r_X8_figure_35 v I L = some (v, gu2 I 57 22 (nI p), L) := by
  unfold r_X8_figure_35
  rw [h22, if_neg (fun h => h rfl), h21]
theorem fig35f {I : gII} {L : gLL} {q : Nat} {v : Int32} (h22 : I 57 22 = nI q) (hq : q < 2147483648) : r_X8_figure_35 v I L = some (v, I, L) := by
  have e : gu2 I 57 22 (I 57 22) = I := gu2_id
  unfold r_X8_figure_35
  rw [if_pos (show ¬ I 57 22 = -9 by rw [h22]; exact m9 hq), e]
theorem fig_f {I : gII} {L : gLL} {q : Nat} {lo hi : Int32} (h22 : I 57 22 = nI q) (hq : q < 2147483648) : r_X8_figure I L lo hi = some (lo, I, L) := by
  unfold r_X8_figure r_X8_figure_24
  rw [th0 h22 hq, if_pos z0, if_pos z0, fig35f h22 hq]
theorem fig_r {I : gII} {L : gLL} {p lo hi : Nat} {xs : List Nat} (h60 : xs.length ≤ 60) (hx : ∀ t ∈ xs, t < 256) (ht : rLet I xs) (h21 : I 57 21 = nI p) (h22 : I 57 22 = -9) (hp : p ≤ xs.length) (hlo : lo < 2) (hhi : hi < 10) : (fOk xs lo hi p → r_X8_figure I L (nI lo) (nI hi) = some (nI (xs.getD p 0 - 48), gu2 I 57 21 (nI (p + 1)), L)) ∧ (¬ fOk xs lo hi p → r_X8_figure I L (nI lo) (nI hi) = some (nI lo, gu2 I 57 22 (nI p), L)) := by
  by_cases q : p < xs.length
  · have x256 := xlt hx q
    have run : r_X8_figure I L (nI lo) (nI hi) = if ¬ nI (bf (xs.getD p 0) lo hi) = 0 then some (nI (xs.getD p 0) - nI 48, gu2 I 57 21 (nI (p + 1)), L) else some (nI lo, gu2 I 57 22 (nI p), L) := by
      unfold r_X8_figure r_X8_figure_24
      rw [th1 ht.1 h21 h22 h60 hp, if_pos q, if_neg z1, if_neg z1, fig35 h21 h22, h21, if_pos (show gvp (nI p) 60 = true by rw [n_gvp (by omega)]; simp; omega), n_gx (by omega), ht.2 p q, n_add]
      rw [show f_X8_in I L (Int32.toInt64 (nI (xs.getD p 0) - nI 48)) (Int32.toInt64 (nI lo)) (Int32.toInt64 (nI hi)) = f_X8_in (fun _ _ => 0) (fun _ _ => 0) (Int32.toInt64 (nI (xs.getD p 0) - nI 48)) (Int32.toInt64 (nI lo)) (Int32.toInt64 (nI hi)) from rfl, in48' _ x256 lo hlo hi hhi]
    refine ⟨fun h => ?_, fun h => ?_⟩
    · rw [run, bf1 h.2, if_pos z1, sub48 (by have := h.2.1; omega)]
    · rw [run, bf0 (fun w => h ⟨q, w⟩), if_neg zn0]
  · refine ⟨fun h => absurd h.1 q, fun _ => ?_⟩
    unfold r_X8_figure r_X8_figure_24
    rw [th1 ht.1 h21 h22 h60 hp, if_neg q, if_pos z0, if_pos z0, fig35 h21 h22]
theorem lt44 {I : gII} {L : gLL} {p : Nat} (h21 : I 57 21 = nI p) (h22 : I 57 22 = -9) : r_X8_letterTone_44 I L = some (nI 0, gu2 I 57 22 (nI p), L) := by
  unfold r_X8_letterTone_44
  rw [h22, if_neg (fun h => h rfl), h21]
theorem lt_f {I : gII} {L : gLL} {q : Nat} {b : Int32} (h22 : I 57 22 = nI q) (hq : q < 2147483648) : r_X8_letterTone I L b = some (nI 0, I, L) := by
  have e : gu2 I 57 22 (I 57 22) = I := gu2_id
  unfold r_X8_letterTone r_X8_letterTone_32 r_X8_letterTone_44
  rw [th0 h22 hq, if_pos z0, if_pos z0, if_pos (show ¬ I 57 22 = -9 by rw [h22]; exact m9 hq), e]
theorem lt32 {I : gII} {L : gLL} {p : Nat} {xs : List Nat} (h60 : xs.length ≤ 60) (hx : ∀ t ∈ xs, t < 256) (ht : rLet I xs) (h21 : I 57 21 = nI p) (h22 : I 57 22 = -9) (q : p < xs.length) : r_X8_letterTone_32 (nI 1) I L = if bn (xs.getD p 0) = 1 then some (nI (xs.getD p 0) - nI 97, gu2 I 57 21 (nI (p + 1)), L) else some (nI 0, gu2 I 57 22 (nI p), L) := by
  have x256 := xlt hx q
  have e68 : gu2 I 57 21 (nI (p + 1)) 68 p = nI (xs.getD p 0) := by rw [g2o (by omega), ht.2 p q]
  unfold r_X8_letterTone_32
  rw [if_neg z1, lt44 h21 h22, h21, if_pos (show gvp (nI p) 60 = true by rw [n_gvp (by omega)]; simp; omega), n_gx (by omega), ht.2 p q, in_c (by omega) (by omega), n_add, g2a, n_sub (by omega), show p + 1 - 1 = p by omega, if_pos (show gvp (nI p) 60 = true by rw [n_gvp (by omega)]; simp; omega), n_gx (by omega), e68]
  have ei : irg (nI (xs.getD p 0)) 97 108 = nI (bn (xs.getD p 0)) := by
    unfold irg bn
    simp (disch := omega) only [n_le, n_lt, n_eq, n_eq0, n_0lt, n_le0, n_lt0, n_0le, n_gvp, n_gx, n_add, n_mul, decide_eq_true_eq, Option.bind_some, if_false, if_true, not_false_eq_true, not_true_eq_false]
    by_cases h1 : xs.getD p 0 < 97
    · rw [if_pos h1, if_neg (by omega)]
    · rw [if_neg h1]
      by_cases h2 : 108 < xs.getD p 0
      · rw [if_pos h2, if_neg (by omega)]
      · rw [if_neg h2, if_pos (by omega)]
  rw [ei]
  have := bn_le (xs.getD p 0)
  by_cases w : bn (xs.getD p 0) = 1
  · rw [w, if_pos z1, if_pos rfl]
  · have w0 : bn (xs.getD p 0) = 0 := by omega
    rw [w0, if_neg zn0, if_neg (by decide)]
theorem lt_n {I : gII} {L : gLL} {p : Nat} {xs : List Nat} (h60 : xs.length ≤ 60) (hx : ∀ t ∈ xs, t < 256) (ht : rLet I xs) (h21 : I 57 21 = nI p) (h22 : I 57 22 = -9) (hp : p ≤ xs.length) : (nOk xs p → r_X8_letterTone I L (nI 0) = some (nI (xs.getD p 0 - 97), gu2 I 57 21 (nI (p + 1)), L)) ∧ (¬ nOk xs p → r_X8_letterTone I L (nI 0) = some (nI 0, gu2 I 57 22 (nI p), L)) := by
  by_cases q : p < xs.length
  · have run : r_X8_letterTone I L (nI 0) = r_X8_letterTone_32 (nI 1) I L := by
      unfold r_X8_letterTone
      rw [th1 ht.1 h21 h22 h60 hp, if_pos q, if_neg z1, if_pos z0]
    rw [run, lt32 h60 hx ht h21 h22 q]
    refine ⟨fun h => ?_, fun h => ?_⟩
    · rw [if_pos (bn1 h.2), sub97 h.2.1]
    · rw [if_neg (show ¬ bn (xs.getD p 0) = 1 by rw [bn0 (fun w => h ⟨q, w⟩)]; decide)]
  · refine ⟨fun h => absurd h.1 q, fun _ => ?_⟩
    unfold r_X8_letterTone r_X8_letterTone_32
    rw [th1 ht.1 h21 h22 h60 hp, if_neg q, if_pos z0, if_pos z0, lt44 h21 h22]
theorem lt_t {I : gII} {L : gLL} {p : Nat} {xs : List Nat} (h60 : xs.length ≤ 60) (hx : ∀ t ∈ xs, t < 256) (ht : rLet I xs) (h21 : I 57 21 = nI p) (h22 : I 57 22 = -9) (hp : p ≤ xs.length) : (tOk xs p → r_X8_letterTone I L (nI 1) = some (nI (tnV (xs.getD p 0)), gu2 I 57 21 (nI (p + 1)), L)) ∧ (¬ tOk xs p → r_X8_letterTone I L (nI 1) = some (nI 0, gu2 I 57 22 (nI p), L)) := by
  by_cases q : p < xs.length
  · have x256 := xlt hx q
    have run : r_X8_letterTone I L (nI 1) = if ¬ nI (xs.getD p 0) = nI 45 then r_X8_letterTone_32 (nI 1) I L else some (nI 12, gu2 I 57 21 (nI (p + 1)), L) := by
      unfold r_X8_letterTone
      rw [th1 ht.1 h21 h22 h60 hp, if_pos q, if_neg z1, if_neg z1, h21, if_pos (show gvp (nI p) 60 = true by rw [n_gvp (by omega)]; simp; omega), n_gx (by omega), ht.2 p q, n_add]
    rw [run]
    by_cases w : xs.getD p 0 = 45
    · rw [if_neg (show ¬ ¬ nI (xs.getD p 0) = nI 45 from fun h => h (by rw [w]))]
      refine ⟨fun _ => ?_, fun h => absurd ⟨q, Or.inl w⟩ h⟩
      unfold tnV
      rw [if_pos w]
    · rw [if_pos (show ¬ nI (xs.getD p 0) = nI 45 by rw [n_eq (by omega) (by omega)]; exact w), lt32 h60 hx ht h21 h22 q]
      refine ⟨fun h => ?_, fun h => ?_⟩
      · have h2 : 97 ≤ xs.getD p 0 ∧ xs.getD p 0 ≤ 108 := h.2.elim (fun h => absurd h w) id
        rw [if_pos (bn1 h2), sub97 h2.1]
        unfold tnV
        rw [if_neg w]
      · rw [if_neg (show ¬ bn (xs.getD p 0) = 1 by rw [bn0 (fun v => h ⟨q, Or.inr v⟩)]; decide)]
  · refine ⟨fun h => absurd h.1 q, fun _ => ?_⟩
    unfold r_X8_letterTone r_X8_letterTone_32
    rw [th1 ht.1 h21 h22 h60 hp, if_neg q, if_pos z0, if_pos z0, lt44 h21 h22]
/-- what a part's reading gives -/
def partR (xs : List Nat) (I J : gII) (r : TP) : Prop := rPr I J ∧ match r with
  | .inl p => p ≤ xs.length ∧ J 57 22 = nI p
  | .inr q => J 57 21 = nI q.1 ∧ J 57 22 = -9 ∧ rDr J q.2.1 q.2.2
theorem partG_r {I : gII} {L : gLL} {i : Nat} {xs : List Nat} {F : TFen} {nt : Nat → Nat} (h60 : xs.length ≤ 60) (hx : ∀ t ∈ xs, t < 256) (ht : rLet I xs) (h21 : I 57 21 = nI i) (h22 : I 57 22 = -9) (hin : i < xs.length) (hD : rDr I F nt) (hG : fG F < 5) : ∃ J, r_X8_readPart I L (nI 71) = some (0, J, L) ∧ partR xs I J (pG xs i F nt) := by
  obtain ⟨⟨d0, d1, d2, d3⟩, da, dl, db, dv⟩ := hD
  have e14 : ∀ {J : gII}, J 57 14 = nI (fG F) → gvp (nI 2 * J 57 14) 10 = true ∧ gx (nI 2 * J 57 14) = 2 * fG F ∧ gvp (nI 2 * J 57 14 + nI 1) 10 = true ∧ gx (nI 2 * J 57 14 + nI 1) = 2 * fG F + 1 := fun {J} h => by
    rw [h, n_mul, n_add]
    refine ⟨?_, n_gx (by omega), ?_, n_gx (by omega)⟩
    · rw [n_gvp (by omega)]
      simp
      omega
    · rw [n_gvp (by omega)]
      simp
      omega
  have r1 : rPr I (gu2 I 57 21 (nI (i + 1))) := rP_57 (by omega)
  have t1 := rP_let r1 ht
  have a14 : gu2 I 57 21 (nI (i + 1)) 57 14 = nI (fG F) := by simp (disch := omega) only [g2a, g2o, g2n, d0]
  have run : r_X8_readPart I L (nI 71) = (r_X8_letterTone (gu2 I 57 21 (nI (i + 1))) L (nI 0)).bind (fun z96 => (if gvp ((nI 2) * ((gu2 I 57 21 (nI (i + 1))) 57 14)) 10 = true then ((r_X8_figure (gu2 z96.2.1 64 (gx ((nI 2) * ((gu2 I 57 21 (nI (i + 1))) 57 14))) z96.1) z96.2.2 (nI 0) (nI 3)).bind (fun z98 => (if gvp (((nI 2) * ((gu2 z96.2.1 64 (gx ((nI 2) * ((gu2 I 57 21 (nI (i + 1))) 57 14))) z96.1) 57 14)) + (nI 1)) 10 = true then some (0, (gu2 (gu2 z98.2.1 64 (gx (((nI 2) * ((gu2 z96.2.1 64 (gx ((nI 2) * ((gu2 I 57 21 (nI (i + 1))) 57 14))) z96.1) 57 14)) + (nI 1))) z98.1) 57 14 (((gu2 z98.2.1 64 (gx (((nI 2) * ((gu2 z96.2.1 64 (gx ((nI 2) * ((gu2 I 57 21 (nI (i + 1))) 57 14))) z96.1) 57 14)) + (nI 1))) z98.1) 57 14) + (nI 1))), z98.2.2) else none))) else none)) := by
    unfold r_X8_readPart
    rw [if_neg (fun h => h rfl), d0, if_neg (show ¬ nI 5 ≤ nI (fG F) by simp (disch := omega) only [n_le, n_lt, n_eq, n_eq0, n_0lt, n_le0, n_lt0, n_0le, n_gvp, n_gx, n_add, n_mul, decide_eq_true_eq, Option.bind_some, if_false, if_true, not_false_eq_true, not_true_eq_false]; omega), h21, n_add]
  rw [run]
  obtain ⟨x1, x2, -, -⟩ := e14 a14
  have tail : ∀ (J : gII) (v : Int32), J 57 14 = nI (fG F) → (if gvp ((nI 2) * ((gu2 I 57 21 (nI (i + 1))) 57 14)) 10 = true then ((r_X8_figure (gu2 J 64 (gx ((nI 2) * ((gu2 I 57 21 (nI (i + 1))) 57 14))) v) L (nI 0) (nI 3)).bind (fun z98 => (if gvp (((nI 2) * ((gu2 J 64 (gx ((nI 2) * ((gu2 I 57 21 (nI (i + 1))) 57 14))) v) 57 14)) + (nI 1)) 10 = true then some (0, (gu2 (gu2 z98.2.1 64 (gx (((nI 2) * ((gu2 J 64 (gx ((nI 2) * ((gu2 I 57 21 (nI (i + 1))) 57 14))) v) 57 14)) + (nI 1))) z98.1) 57 14 (((gu2 z98.2.1 64 (gx (((nI 2) * ((gu2 J 64 (gx ((nI 2) * ((gu2 I 57 21 (nI (i + 1))) 57 14))) v) 57 14)) + (nI 1))) z98.1) 57 14) + (nI 1))), z98.2.2) else none))) else none) = ((r_X8_figure (gu2 J 64 (2 * fG F) v) L (nI 0) (nI 3)).bind (fun z98 => some ((0 : Int32), (gu2 (gu2 z98.2.1 64 (2 * fG F + 1) z98.1) 57 14 (((gu2 z98.2.1 64 (2 * fG F + 1) z98.1) 57 14) + (nI 1))), z98.2.2))) := fun J v hJ => by
    have b14 : gu2 J 64 (2 * fG F) v 57 14 = nI (fG F) := by simp (disch := omega) only [g2a, g2o, g2n, hJ]
    obtain ⟨-, -, y1, y2⟩ := e14 b14
    rw [if_pos x1, x2]
    simp only [y1, y2, if_true]
  obtain ⟨ly, ln⟩ := lt_n (L := L) h60 hx t1 (show gu2 I 57 21 (nI (i + 1)) 57 21 = nI (i + 1) from g2a) (by simp (disch := omega) only [g2a, g2o, g2n, h22]) (show i + 1 ≤ xs.length by omega)
  unfold pG
  by_cases p1 : nOk xs (i + 1)
  · rw [ly p1, Option.bind_some, if_pos p1]
    dsimp only
    rw [tail _ _ (by simp (disch := omega) only [g2a, g2o, g2n, d0])]
    generalize hJ1 : gu2 (gu2 (gu2 I 57 21 (nI (i + 1))) 57 21 (nI (i + 1 + 1))) 64 (2 * fG F) (nI (xs.getD (i + 1) 0 - 97)) = J1
    have r2 : rPr I J1 := by
      rw [← hJ1]
      exact rP_trans r1 (rP_trans (rP_57 (by omega)) (rP_ar (by omega)))
    have j21 : J1 57 21 = nI (i + 2) := by rw [← hJ1]; simp (disch := omega) only [g2a, g2o, g2n]
    have j22 : J1 57 22 = -9 := by rw [← hJ1]; simp (disch := omega) only [g2a, g2o, g2n, h22]
    obtain ⟨fy, fn⟩ := fig_r (L := L) (lo := 0) (hi := 3) h60 hx (rP_let r2 ht) j21 j22 (by have := p1.1; omega) (by omega) (by omega)
    by_cases p2 : fOk xs 0 3 (i + 2)
    · rw [fy p2, Option.bind_some, if_pos p2]
      dsimp only
      have e : gu2 (gu2 J1 57 21 (nI (i + 2 + 1))) 64 (2 * fG F + 1) (nI (xs.getD (i + 2) 0 - 48)) 57 14 = nI (fG F) := by
        rw [← hJ1]
        simp (disch := omega) only [g2a, g2o, g2n, d0]
      rw [e, n_add]
      refine ⟨_, rfl, rP_trans r2 (rP_trans (rP_57 (by omega)) (rP_trans (rP_ar (by omega)) (rP_57 (by omega)))), ?_, ?_, ⟨⟨?_, ?_, ?_, ?_⟩, ?_, ?_, ?_, ?_⟩⟩
      · simp (disch := omega) only [g2a, g2o, g2n]
      · simp (disch := omega) only [g2a, g2o, g2n, j22]
      · simp (disch := omega) only [g2a, g2o, g2n]
        rfl
      · rw [← hJ1]
        simp (disch := omega) only [g2a, g2o, g2n]
        exact d1
      · rw [← hJ1]
        simp (disch := omega) only [g2a, g2o, g2n]
        exact d2
      · rw [← hJ1]
        simp (disch := omega) only [g2a, g2o, g2n]
        exact d3
      · intro j hj
        have hj : j < fG F + 1 := hj
        show _ = nI (if j = fG F then _ else nt j) ∧ _ = nI (if j = fG F then _ else fk F j)
        rw [← hJ1]
        by_cases q : j = fG F
        · subst q
          rw [if_pos rfl, if_pos rfl]
          simp (disch := omega) only [g2a, g2o, g2n]
          exact ⟨trivial, trivial⟩
        · rw [if_neg q, if_neg q]
          simp (disch := omega) only [g2a, g2o, g2n]
          exact da j (by omega)
      · intro j hj
        rw [← hJ1]
        simp (disch := omega) only [g2a, g2o, g2n]
        exact dl j hj
      · intro j hj
        rw [← hJ1]
        simp (disch := omega) only [g2a, g2o, g2n]
        exact db j hj
      · intro j hj
        rw [← hJ1]
        simp (disch := omega) only [g2a, g2o, g2n]
        exact dv j hj
    · rw [fn p2, Option.bind_some, if_neg p2]
      have := p1.1
      refine ⟨_, rfl, rP_trans r2 (rP_trans (rP_57 (by omega)) (rP_trans (rP_ar (by omega)) (rP_57 (by omega)))), by omega, ?_⟩
      dsimp only
      simp (disch := omega) only [g2a, g2o, g2n]
  · rw [ln p1, Option.bind_some, if_neg p1]
    dsimp only
    rw [tail _ _ (by simp (disch := omega) only [g2a, g2o, g2n, d0]), fig_f (q := i + 1) (by simp (disch := omega) only [g2a, g2o, g2n]) (by omega), Option.bind_some]
    refine ⟨_, rfl, rP_trans r1 (rP_trans (rP_57 (by omega)) (rP_trans (rP_ar (by omega)) (rP_trans (rP_ar (by omega)) (rP_57 (by omega))))), by omega, ?_⟩
    dsimp only
    simp (disch := omega) only [g2a, g2o, g2n]
