/-! TONES AND SONGS, as the reference lays them -/
theorem bit_r {I : gII} {L : gLL} {a k : Nat} (ha : a < 2147483648) (hk : k < 32) : f_X8_bit I L (nI a) (nI k) = nI (a / 2 ^ k % 2) := by
  unfold f_X8_bit
  rw [bit_n ha hk]
  simp (disch := omega) only [n_eq]
  rcases (by omega : a / 2 ^ k % 2 = 0 ∨ a / 2 ^ k % 2 = 1) with h | h <;> simp [h]
theorem tone_r {I : gII} {L : gLL} {F : TFen} {V : TMom} {lv g w k : Nat} (hF : okF F) (hc : rFen I F) (hV : okM F V) (hM : rMom I 63 (27 * lv) V) (hlv : lv < 2) (hg : g < fG F) (hw : w ≤ 9) (hk : k < 4) : r_X8_toneOf I L (nI lv) (nI g) (nI k) (nI w) = some (nI (tone F V g w k), I, L) := by
  have hg5 : g < 5 := Nat.lt_of_lt_of_le hg hF.1
  have hkd := hF.2.2.2.2.1 g hg
  have ek := hc.2.2.2.2.1 g hg
  have hn := hV.1 g hg5
  have hp := hV.2.1 g hg5
  have hor := or_lt hV.2.2.1 hV.2.2.2.1
  have h32 := pow_le5 hF.1
  have hfr := hV.2.2.2.2.2.1
  obtain ⟨q0, q1, q2, q3, q4, q5, -, -⟩ := hM
  have q0 := q0 g hg5
  have q1 := q1 g hg5
  have key : r_X8_toneOf_31 (nI g) (nI k) (nI w) (nI (27 * lv)) I L = some (nI ((mn V g + (if k = 3 then w / 4 else w / 2) + 4 * mf V + 24 - ((if fk F g = 2 then mp V g else 0) + (if k = 2 then 5 else 0))) % 12), I, L) := by
    have r1 : ∀ A B C : Nat, B + C ≤ A + 24 → (nI A - nI B) - nI C + nI 24 = nI (A + 24 - (B + C)) := by
      intro A B C h
      rw [← n_sub h, ← n_add, ← n_add]
      grind
    have e80 : ∀ A B : Nat, A < 100 → B ≤ 3 → r_X8_toneOf_80 (nI k) (nI A) (nI B) I L = some (nI ((A + 24 - (B + (if k = 2 then 5 else 0))) % 12), I, L) := by
      intro A B hA hB
      unfold r_X8_toneOf_80
      simp (disch := omega) only [n_eq]
      have : (if ¬ k = 2 then nI 0 else nI 5) = nI (if k = 2 then 5 else 0) := by
        by_cases h : k = 2 <;> simp [h]
      rw [this, r1 A B _ (by split <;> omega), n_rem (by split <;> omega) (by omega) (by omega)]
    have ew : (if ¬ nI k = nI 3 then nI w / nI 2 else nI w / nI 4) = nI (if k = 3 then w / 4 else w / 2) := by
      simp (disch := omega) only [n_eq, n_div]
      by_cases h : k = 3 <;> simp [h]
    have efr : (if ¬ nI (mf V) = nI 1 then nI 0 else nI 4) = nI (4 * mf V) := by
      simp (disch := omega) only [n_eq]
      rcases (by omega : mf V = 0 ∨ mf V = 1) with h | h <;> simp [h]
    have hw4 : (if k = 3 then w / 4 else w / 2) ≤ 4 := by split <;> omega
    unfold r_X8_toneOf_31
    simp (disch := omega) only [n_add, n_gvp, n_gx, ek, q0, q5, q1, ew, efr, decide_eq_true_eq]
    rw [if_pos (by omega), if_pos (by omega), if_pos hg5]
    simp (disch := omega) only [n_eq]
    by_cases h : fk F g = 2
    · rw [if_neg (by simpa using h), if_pos (show 27 * lv + 5 + g < 54 by omega), e80 _ _ (by omega) hp, if_pos h]
    · rw [if_pos h, e80 _ _ (by omega) (by omega), if_neg h]
  unfold r_X8_toneOf r_X8_toneOf_29
  simp (disch := omega) only [n_mul, n_add, n_gvp, n_gx, q2, q3, n_or, bit_r, ek, key, n_eq0, n_eq, n_le, decide_eq_true_eq]
  rw [if_pos (by omega), if_pos (by omega), if_pos hg5]
  unfold tone
  by_cases h3 : (mo V ||| mi V) / 2 ^ g % 2 = 1
  · rw [if_pos (by omega)]
    by_cases h1 : fk F g = 3 ∧ w < 5
    · rw [if_pos h1]
    · rw [if_neg h1, if_pos h3]
  · rw [if_neg (by omega)]
    by_cases h1 : fk F g = 3
    · by_cases h2 : w < 5
      · rw [if_neg (by simpa using h1), if_neg (by omega), if_pos ⟨h1, h2⟩]
      · rw [if_neg (by simpa using h1), if_pos (by omega), if_neg (show ¬ (fk F g = 3 ∧ w < 5) from fun q => h2 q.2), if_neg h3]
    · rw [if_pos h1, if_neg (show ¬ (fk F g = 3 ∧ w < 5) from fun q => h1 q.1), if_neg h3]
/-- a row of songs of the reference -/
def rSong (I : gII) (row : Nat) (xs : List Nat) : Prop := I 57 24 = nI xs.length ∧ ∀ j, j < xs.length → I 69 (12 * row + j) = nI (xs.getD j 0)
theorem put_r {I : gII} {row t : Nat} {xs : List Nat} (hs : rSong I row xs) : rSong (gu2 (gu2 I 69 (12 * row + xs.length) (nI t)) 57 24 (nI (xs.length + 1))) row (xs ++ [t]) := by
  refine ⟨?_, ?_⟩
  · rw [gu2_self, if_pos rfl, List.length_append]
    rfl
  · intro j hj
    rw [gu2_other (by omega), gu2_self]
    rw [List.length_append] at hj
    have hj : j < xs.length + 1 := hj
    by_cases hq : j = xs.length
    · rw [if_pos (by omega), hq, getD_last]
    · rw [if_neg (by omega), hs.2 j (by omega), getD_app1 (by omega)]
theorem sing_rx {I : gII} {L : gLL} {row t c : Nat} {xs : List Nat} (hr : row < 2) (hs : rSong I row xs) (hl : xs.length + 2 ≤ 12) (ht : t ≤ 12) (hc : c ≤ 1) : ∃ I', r_X8_sing I L (nI row) (nI t) (nI c) = some (0, I', L) ∧ rSong I' row (xs ++ (if c = 1 ∧ t ≠ 12 then [t, (t + 1) % 12] else [t])) ∧ (∀ a, a ≠ 57 → a ≠ 69 → I' a = I a) ∧ (∀ j, j ≠ 24 → I' 57 j = I 57 j) ∧ ∀ j, ¬ (12 * row ≤ j ∧ j < 12 * row + 12) → I' 69 j = I 69 j := by
  have e := hs.1
  have s1 := put_r (t := t) hs
  have e1 : gu2 (gu2 I 69 (12 * row + xs.length) (nI t)) 57 24 (nI (xs.length + 1)) 57 24 = nI (xs.length + 1) := by
    rw [gu2_self, if_pos rfl]
  have e0 : gu2 I 69 (12 * row + xs.length) (nI t) 57 24 = nI xs.length := by
    rw [gu2_other (by omega)]
    exact e
  have e2 : gu2 (gu2 (gu2 I 69 (12 * row + xs.length) (nI t)) 57 24 (nI (xs.length + 1))) 69 (12 * row + (xs.length + 1)) (nI ((t + 1) % 12)) 57 24 = nI (xs.length + 1) := by
    rw [gu2_other (by omega)]
    exact e1
  unfold r_X8_sing r_X8_sing_41
  simp (disch := omega) only [e, n_mul, n_add, n_gvp, n_gx, e0, e1, n_rem, e2, n_eq0, n_eq, decide_eq_true_eq]
  rw [if_pos (by omega)]
  by_cases h1 : c = 0
  · rw [if_pos h1, if_neg (by omega)]
    exact ⟨_, rfl, s1, fun a q1 q2 => by rw [gu2_other q1, gu2_other q2], fun j hj => by rw [gu2_self, if_neg hj, gu2_other (by omega)], fun j hj => by rw [gu2_other (by omega), gu2_self, if_neg (by omega)]⟩
  · rw [if_neg h1]
    by_cases h2 : t = 12
    · rw [if_pos h2, if_neg (by omega)]
      exact ⟨_, rfl, s1, fun a q1 q2 => by rw [gu2_other q1, gu2_other q2], fun j hj => by rw [gu2_self, if_neg hj, gu2_other (by omega)], fun j hj => by rw [gu2_other (by omega), gu2_self, if_neg (by omega)]⟩
    · rw [if_neg h2, if_pos (by omega), if_pos (by omega)]
      have s2 := put_r (t := (t + 1) % 12) s1
      rw [List.length_append, List.append_assoc] at s2
      exact ⟨_, rfl, s2, fun a q1 q2 => by rw [gu2_other q1, gu2_other q2, gu2_other q1, gu2_other q2], fun j hj => by rw [gu2_self, if_neg hj, gu2_other (by omega), gu2_self, if_neg hj, gu2_other (by omega)], fun j hj => by rw [gu2_other (by omega), gu2_self, if_neg (by omega), gu2_other (by omega), gu2_self, if_neg (by omega)]⟩
theorem rFen_kept {I I' : gII} {F : TFen} (h57 : ∀ j, j ≤ 3 → I' 57 j = I 57 j) (h : ∀ a, 58 ≤ a → a ≤ 62 → I' a = I a) (hc : rFen I F) : rFen I' F := by
  unfold rFen at *
  rw [h57 0 (by omega), h57 1 (by omega), h57 2 (by omega), h57 3 (by omega), h 58 (by omega) (by omega), h 59 (by omega) (by omega), h 60 (by omega) (by omega), h 61 (by omega) (by omega), h 62 (by omega) (by omega)]
  exact hc
theorem rMom_kept {I I' : gII} {a b : Nat} {V : TMom} (h : I' a = I a) (hc : rMom I a b V) : rMom I' a b V := by
  unfold rMom at *
  rw [h]
  exact hc
/-- one gate, as the reference lays it -/
theorem lay_gate {I : gII} {L : gLL} {F : TFen} {V : TMom} {lv row b l i m : Nat} {xs : List Nat} (hF : okF F) (hc : rFen I F) (hV : okM F V) (hM : rMom I 63 (27 * lv) V) (hlv : lv < 2) (hrow : row < 2) (hb : b < fB F) (hl3 : l < fL F) (hi : i < 3) (hs : rSong I row xs) (hl : xs.length + 4 ≤ 12) :
    ∃ I', r_X8_laySong_5 (m + 1) (nI lv) (nI row) (nI b) (nI l) (nI i) I L = r_X8_laySong_5 m (nI lv) (nI row) (nI b) (nI l) (nI (i + 1)) I' L ∧ rSong I' row (xs ++ spart F V b (fl F (3 * l + i))) ∧ (∀ a, a ≠ 57 → a ≠ 69 → I' a = I a) ∧ (∀ j, j ≠ 24 → I' 57 j = I 57 j) ∧ ∀ j, ¬ (12 * row ≤ j ∧ j < 12 * row + 12) → I' 69 j = I 69 j := by
  have hb5 : b < 5 := Nat.lt_of_lt_of_le hb hF.2.2.1
  have hl5 : l < 3 := Nat.lt_of_lt_of_le hl3 hF.2.1
  have hw := hF.2.2.2.2.2.2.1 b hb
  have hfb := hF.2.2.2.2.2.2.2.1 b hb
  have hg := hF.2.2.2.2.2.1 (3 * l + i) (by omega)
  have hg5 : fl F (3 * l + i) < 5 := Nat.lt_of_lt_of_le hg hF.1
  have hkd := hF.2.2.2.2.1 _ hg
  have e3 := hc.2.2.2.2.2.1 (3 * l + i) (by omega)
  have e4 := hc.2.2.2.2.2.2.1 b hb
  have e5 := hc.2.2.2.2.2.2.2.1 b hb
  have ek := hc.2.2.2.2.1 _ hg
  have ht := tone_le F V (fl F (3 * l + i)) (fw F b) (fb F b)
  have hu := upart_len F V b (fl F (3 * l + i))
  have eu : ∀ c, c = (if fb F b = 1 then 1 else 0) → (if c = 1 ∧ tone F V (fl F (3 * l + i)) (fw F b) (fb F b) ≠ 12 then [tone F V (fl F (3 * l + i)) (fw F b) (fb F b), (tone F V (fl F (3 * l + i)) (fw F b) (fb F b) + 1) % 12] else [tone F V (fl F (3 * l + i)) (fw F b) (fb F b)]) = upart F V b (fl F (3 * l + i)) := by
    intro c hcc
    unfold upart
    by_cases h : fb F b = 1
    · rw [hcc, if_pos h]
      simp [h]
    · rw [hcc, if_neg h]
      simp [h]
  have step : ∀ c, c = (if fb F b = 1 then 1 else 0) → ∃ I', r_X8_laySong_39 (r_X8_laySong_5 m) (nI lv) (nI row) (nI b) (nI l) (nI i) (nI (fl F (3 * l + i))) (nI (tone F V (fl F (3 * l + i)) (fw F b) (fb F b))) (nI c) I L = r_X8_laySong_5 m (nI lv) (nI row) (nI b) (nI l) (nI (i + 1)) I' L ∧ rSong I' row (xs ++ spart F V b (fl F (3 * l + i))) ∧ (∀ a, a ≠ 57 → a ≠ 69 → I' a = I a) ∧ (∀ j, j ≠ 24 → I' 57 j = I 57 j) ∧ ∀ j, ¬ (12 * row ≤ j ∧ j < 12 * row + 12) → I' 69 j = I 69 j := by
    intro c hcc
    have hc1 : c ≤ 1 := by rw [hcc]; split <;> omega
    obtain ⟨I1, e1, s1, k1, j1, w1⟩ := sing_rx (L := L) hrow hs (by omega) ht hc1
    rw [eu c hcc] at s1
    have ek1 : I1 58 (fl F (3 * l + i)) = nI (fk F (fl F (3 * l + i))) := by
      rw [k1 58 (by omega) (by omega)]
      exact ek
    unfold r_X8_laySong_39 r_X8_laySong_56 spart
    rw [e1]
    simp (disch := omega) only [Option.bind_some, n_gvp, n_gx, ek1, n_eq, n_add, decide_eq_true_eq]
    rw [if_pos hg5]
    by_cases hk : fk F (fl F (3 * l + i)) = 1
    · rw [if_neg (by simpa using hk), if_pos hk]
      obtain ⟨I2, e2, s2, k2, j2, w2⟩ := sing_rx (L := L) hrow s1 (by rw [List.length_append]; omega) ht hc1
      rw [eu c hcc, List.append_assoc] at s2
      rw [e2]
      exact ⟨I2, rfl, s2, fun a q1 q2 => (k2 a q1 q2).trans (k1 a q1 q2), fun j hj => (j2 j hj).trans (j1 j hj), fun j hj => (w2 j hj).trans (w1 j hj)⟩
    · rw [if_pos hk, if_neg hk]
      exact ⟨I1, rfl, s1, k1, j1, w1⟩
  rw [r_X8_laySong_5]
  simp (disch := omega) only [n_le, n_mul, n_add, n_gvp, n_gx, e3, e4, e5, decide_eq_true_eq]
  rw [if_neg (by omega), if_pos (by omega), if_pos hb5, if_pos hb5, tone_r hF hc hV hM hlv hg hw.2 hfb]
  simp (disch := omega) only [Option.bind_some, e5, n_eq]
  rw [if_pos hb5]
  by_cases hk : fb F b = 1
  · rw [if_neg (by simpa using hk)]
    exact step 1 (by rw [if_pos hk])
  · rw [if_pos hk]
    exact step 0 (by rw [if_neg hk])
/-- the SONG of a BEAST in a LANE, as the reference lays it -/
theorem lay_rx {I : gII} {L : gLL} {F : TFen} {V : TMom} {lv row b l : Nat} (hF : okF F) (hc : rFen I F) (hV : okM F V) (hM : rMom I 63 (27 * lv) V) (hlv : lv < 2) (hrow : row < 2) (hb : b < fB F) (hl3 : l < fL F) :
    ∃ I', r_X8_laySong I L (nI lv) (nI row) (nI b) (nI l) = some (nI (song F V b l).length, I', L) ∧ rSong I' row (song F V b l) ∧ (∀ a, a ≠ 57 → a ≠ 69 → I' a = I a) ∧ (∀ j, j ≠ 24 → I' 57 j = I 57 j) ∧ ∀ j, ¬ (12 * row ≤ j ∧ j < 12 * row + 12) → I' 69 j = I 69 j := by
  have l0 := spart_len F V b (fl F (3 * l + 0))
  have l1 := spart_len F V b (fl F (3 * l + 1))
  have s0 : rSong (gu2 I 57 24 (nI 0)) row [] := ⟨by rw [gu2_self, if_pos rfl]; rfl, fun j hj => by simp at hj⟩
  have k0 : ∀ a, a ≠ 57 → a ≠ 69 → gu2 I 57 24 (nI 0) a = I a := fun a h _ => gu2_other h
  have j0 : ∀ j, j ≠ 24 → gu2 I 57 24 (nI 0) 57 j = I 57 j := fun j h => by rw [gu2_self, if_neg h]
  have keepF : ∀ {I1 I2 : gII}, (∀ a, a ≠ 57 → a ≠ 69 → I2 a = I1 a) → (∀ j, j ≠ 24 → I2 57 j = I1 57 j) → rFen I1 F → rFen I2 F := fun k j h => rFen_kept (fun q hq => j q (by omega)) (fun a h1 h2 => k a (by omega) (by omega)) h
  have c0 := keepF k0 j0 hc
  have m0 := rMom_kept (k0 63 (by omega) (by omega)) hM
  obtain ⟨I1, e1, s1, k1, j1, w1⟩ := lay_gate (L := L) (i := 0) (m := 99) hF c0 hV m0 hlv hrow hb hl3 (by omega) s0 (by simp)
  have c1 := keepF k1 j1 c0
  have m1 := rMom_kept (k1 63 (by omega) (by omega)) m0
  obtain ⟨I2, e2, s2, k2, j2, w2⟩ := lay_gate (L := L) (i := 1) (m := 98) hF c1 hV m1 hlv hrow hb hl3 (by omega) s1 (by rw [List.length_append]; show 0 + _ + 4 ≤ 12; omega)
  have c2 := keepF k2 j2 c1
  have m2 := rMom_kept (k2 63 (by omega) (by omega)) m1
  obtain ⟨I3, e3, s3, k3, j3, w3⟩ := lay_gate (L := L) (i := 2) (m := 97) hF c2 hV m2 hlv hrow hb hl3 (by omega) s2 (by rw [List.length_append, List.length_append]; show 0 + _ + _ + 4 ≤ 12; omega)
  have es : ([] ++ spart F V b (fl F (3 * l + 0)) ++ spart F V b (fl F (3 * l + 1)) ++ spart F V b (fl F (3 * l + 2))) = song F V b l := by
    simp [song]
  rw [es] at s3
  refine ⟨I3, ?_, s3, fun a q1 q2 => (k3 a q1 q2).trans ((k2 a q1 q2).trans ((k1 a q1 q2).trans (k0 a q1 q2))), fun j hj => (j3 j hj).trans ((j2 j hj).trans ((j1 j hj).trans (j0 j hj))), fun j hj => (w3 j hj).trans ((w2 j hj).trans ((w1 j hj).trans (by rw [gu2_other (by decide)])))⟩
  unfold r_X8_laySong
  rw [e1, e2, e3, r_X8_laySong_5]
  simp (disch := omega) only [n_le]
  rw [if_pos (by omega), s3.1]
theorem lay_r {I : gII} {L : gLL} {F : TFen} {V : TMom} {lv row b l : Nat} (hF : okF F) (hc : rFen I F) (hV : okM F V) (hM : rMom I 63 (27 * lv) V) (hlv : lv < 2) (hrow : row < 2) (hb : b < fB F) (hl3 : l < fL F) :
    ∃ I', r_X8_laySong I L (nI lv) (nI row) (nI b) (nI l) = some (nI (song F V b l).length, I', L) ∧ rSong I' row (song F V b l) ∧ (∀ a, a ≠ 57 → a ≠ 69 → I' a = I a) ∧ (∀ j, j ≠ 24 → I' 57 j = I 57 j) := by
  obtain ⟨I', e, s, k, j, -⟩ := lay_rx (L := L) hF hc hV hM hlv hrow hb hl3
  exact ⟨I', e, s, k, j⟩
