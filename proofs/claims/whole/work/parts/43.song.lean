/-! SONGS -/
def upart (F : TFen) (V : TMom) (b g : Nat) : List Nat := if fb F b = 1 ∧ tone F V g (fw F b) (fb F b) ≠ 12 then [tone F V g (fw F b) (fb F b), (tone F V g (fw F b) (fb F b) + 1) % 12] else [tone F V g (fw F b) (fb F b)]
def spart (F : TFen) (V : TMom) (b g : Nat) : List Nat := if fk F g = 1 then upart F V b g ++ upart F V b g else upart F V b g
def song (F : TFen) (V : TMom) (b l : Nat) : List Nat := spart F V b (fl F (3 * l)) ++ spart F V b (fl F (3 * l + 1)) ++ spart F V b (fl F (3 * l + 2))
theorem upart_len (F : TFen) (V : TMom) (b g : Nat) : (upart F V b g).length ≤ 2 := by
  unfold upart
  split <;> simp
theorem spart_len (F : TFen) (V : TMom) (b g : Nat) : (spart F V b g).length ≤ 4 := by
  have := upart_len F V b g
  unfold spart
  split
  · rw [List.length_append]
    omega
  · omega
theorem song_len (F : TFen) (V : TMom) (b l : Nat) : (song F V b l).length ≤ 12 := by
  have h1 := spart_len F V b (fl F (3 * l))
  have h2 := spart_len F V b (fl F (3 * l + 1))
  have h3 := spart_len F V b (fl F (3 * l + 2))
  unfold song
  rw [List.length_append, List.length_append]
  omega
theorem upart_le (F : TFen) (V : TMom) (b g : Nat) : ∀ t ∈ upart F V b g, t ≤ 12 := by
  have h := tone_le F V g (fw F b) (fb F b)
  unfold upart
  intro t ht
  split at ht
  · simp only [List.mem_cons, List.not_mem_nil, or_false] at ht
    rcases ht with rfl | rfl
    · exact h
    · omega
  · simp only [List.mem_cons, List.not_mem_nil, or_false] at ht
    rw [ht]
    exact h
theorem spart_le (F : TFen) (V : TMom) (b g : Nat) : ∀ t ∈ spart F V b g, t ≤ 12 := by
  have h := upart_le F V b g
  unfold spart
  intro t ht
  split at ht
  · rcases List.mem_append.mp ht with q | q
    · exact h t q
    · exact h t q
  · exact h t ht
theorem song_le (F : TFen) (V : TMom) (b l : Nat) : ∀ t ∈ song F V b l, t ≤ 12 := by
  intro t ht
  unfold song at ht
  rcases List.mem_append.mp ht with q | q
  · rcases List.mem_append.mp q with q | q
    · exact spart_le _ _ _ _ t q
    · exact spart_le _ _ _ _ t q
  · exact spart_le _ _ _ _ t q
/-! what doesn't change -/
theorem cFen_kept {I I' : gII} {f : Nat} {F : TFen} (h : ∀ a, f ≤ a → a ≤ f + 6 → I' a = I a) (hc : cFen I f F) : cFen I' f F := by
  unfold cFen at *
  rw [h f (by omega) (by omega), h (f + 2) (by omega) (by omega), h (f + 3) (by omega) (by omega), h (f + 4) (by omega) (by omega), h (f + 5) (by omega) (by omega), h (f + 6) (by omega) (by omega)]
  exact hc
theorem cMom_kept {I I' : gII} {L L' : gLL} {m : Nat} {V : TMom} (hI : I' m = I m) (hL : L' m = L m) (hc : cMom I L m V) : cMom I' L' m V := by
  unfold cMom at *
  rw [hI, hL]
  exact hc
/-- a Song of the class at the cell s -/
def cSong (I : gII) (s : Nat) (xs : List Nat) : Prop := I s 1 = nI xs.length ∧ ∀ j, j < xs.length → I (s + 1) j = nI (xs.getD j 0)
theorem getD_app1 {xs ys : List Nat} {j : Nat} (h : j < xs.length) : (xs ++ ys).getD j 0 = xs.getD j 0 := by
  simp [List.getD_eq_getElem?_getD, List.getElem?_append_left h]
theorem getD_last {xs : List Nat} {t : Nat} : (xs ++ [t]).getD xs.length 0 = t := by
  simp [List.getD_eq_getElem?_getD]
theorem add_c {I : gII} {L : gLL} {s t : Nat} {xs : List Nat} (hs : cSong I s xs) (hl : xs.length < 12) : ∃ I', r_X6_add I L s (nI t) = some (0, I', L) ∧ cSong I' s (xs ++ [t]) ∧ ∀ a, a ≠ s → a ≠ s + 1 → I' a = I a := by
  have e := hs.1
  unfold r_X6_add r_X6_add_16
  simp (disch := omega) only [e, n_le, n_gvp, n_gx]
  rw [if_neg (by omega), if_pos (by simpa using hl)]
  have ne : s ≠ s + 1 := by omega
  have e2 : gu2 I (s + 1) xs.length (nI t) s 1 = nI xs.length := by
    rw [gu2_other ne]
    exact e
  rw [e2, n_add]
  refine ⟨_, rfl, ⟨?_, ?_⟩, ?_⟩
  · rw [gu2_self, if_pos rfl, List.length_append]
    rfl
  · intro j hj
    rw [gu2_other (by omega), gu2_self]
    rw [List.length_append] at hj
    have hj : j < xs.length + 1 := hj
    by_cases hq : j = xs.length
    · rw [if_pos hq, hq, getD_last]
    · rw [if_neg hq, hs.2 j (by omega), getD_app1 (by omega)]
  · intro a h1 h2
    rw [gu2_other h1, gu2_other h2]
theorem gso_apart {f m s : Nat} (hf : gfe f = true) (hm : gmo m = true) (hs : gso s = true) : (∀ a, f ≤ a → a ≤ f + 6 → a ≠ s ∧ a ≠ s + 1) ∧ m ≠ s ∧ m ≠ s + 1 := by
  have h1 := gfe_or hf
  have h2 := gmo_or hm
  have h3 := gso_or hs
  refine ⟨fun a q1 q2 => ?_, ?_, ?_⟩ <;> omega
/-- one time round the inner loop -/
theorem sing_in {I : gII} {L : gLL} {F : TFen} {V : TMom} {f mm s b g i v8 m : Nat} {v3 v5 : Int32} {xs : List Nat} {K5 : Int32 → Int32 → Int32 → gII → gLL → Option gRs} (hfe : gfe f = true) (hmo : gmo mm = true) (hso : gso s = true) (hF : okF F) (hc : cFen I f F) (hb : b < fB F) (hi : i < v8) (h8 : v8 ≤ 2) (hs : cSong I s xs) (hl : xs.length + 2 ≤ 12) :
    ∃ I', r_X1_sing_42 f mm s K5 (m + 1) (nI b) v3 v5 (nI (tone F V g (fw F b) (fb F b))) (nI v8) (nI i) I L = r_X1_sing_42 f mm s K5 m (nI b) v3 v5 (nI (tone F V g (fw F b) (fb F b))) (nI v8) (nI (i + 1)) I' L ∧ cSong I' s (xs ++ upart F V b g) ∧ ∀ a, a ≠ s → a ≠ s + 1 → I' a = I a := by
  obtain ⟨ap, -, -⟩ := gso_apart hfe hmo hso
  have hb5 : b < 5 := Nat.lt_of_lt_of_le hb hF.2.2.1
  have ht := tone_le F V g (fw F b) (fb F b)
  have hfb := hF.2.2.2.2.2.2.2.1 b hb
  generalize htt : tone F V g (fw F b) (fb F b) = t at ht
  obtain ⟨I1, e1, s1, k1⟩ := add_c (L := L) (t := t) hs (by omega)
  have ef : I1 (f + 5) b = nI (fb F b) := by
    rw [k1 (f + 5) (ap (f + 5) (by omega) (by omega)).1 (ap (f + 5) (by omega) (by omega)).2]
    exact hc.2.2.2.2.2.2.2.1 b hb
  have hstep : ∀ I2, r_X1_sing_64 f mm s K5 (r_X1_sing_42 f mm s K5 m) (nI b) v3 v5 (nI t) (nI v8) (nI i) I2 L = r_X1_sing_42 f mm s K5 m (nI b) v3 v5 (nI t) (nI v8) (nI (i + 1)) I2 L := fun I2 => by
    unfold r_X1_sing_64
    rw [n_add]
  rw [r_X1_sing_42]
  simp (disch := omega) only [n_le]
  rw [if_neg (by omega), e1]
  simp (disch := omega) only [Option.bind_some, n_gvp, n_gx, ef, n_eq, hstep]
  rw [if_pos (by simpa using hb5)]
  unfold upart
  rw [htt]
  by_cases h1 : fb F b = 1
  · by_cases h2 : t = 12
    · rw [if_neg (by simpa using h1), if_pos h2, if_neg (by simp [h2])]
      exact ⟨I1, rfl, s1, k1⟩
    · rw [if_neg (by simpa using h1), if_neg h2, if_pos ⟨h1, h2⟩, n_add, n_rem (by omega) (by omega) (by omega)]
      obtain ⟨I2, e2, s2, k2⟩ := add_c (L := L) (t := (t + 1) % 12) s1 (by rw [List.length_append]; show xs.length + 1 < 12; omega)
      rw [e2]
      simp only [Option.bind_some]
      rw [hstep]
      refine ⟨I2, rfl, ?_, fun a q1 q2 => (k2 a q1 q2).trans (k1 a q1 q2)⟩
      rw [List.append_assoc] at s2
      exact s2
  · rw [if_pos h1, if_neg (fun q => h1 q.1)]
    exact ⟨I1, rfl, s1, k1⟩
/-- the inner loop, once or twice -/
theorem sing_inner {I : gII} {L : gLL} {F : TFen} {V : TMom} {f mm s b g : Nat} {v3 v5 : Int32} {xs : List Nat} {K5 : Int32 → Int32 → Int32 → gII → gLL → Option gRs} (hfe : gfe f = true) (hmo : gmo mm = true) (hso : gso s = true) (hF : okF F) (hc : cFen I f F) (hb : b < fB F) (hs : cSong I s xs) (hl : xs.length + 4 ≤ 12) :
    ∃ I', r_X1_sing_39 f mm s K5 (nI b) v3 v5 (nI (tone F V g (fw F b) (fb F b))) (nI (if fk F g = 1 then 2 else 1)) I L = K5 (nI b) v3 (v5 + nI 1) I' L ∧ cSong I' s (xs ++ spart F V b g) ∧ ∀ a, a ≠ s → a ≠ s + 1 → I' a = I a := by
  obtain ⟨ap, -, -⟩ := gso_apart hfe hmo hso
  have hu := upart_len F V b g
  have fend : ∀ (m v8 i : Nat) (I2 : gII), v8 ≤ i → i ≤ 2 → r_X1_sing_42 f mm s K5 (m + 1) (nI b) v3 v5 (nI (tone F V g (fw F b) (fb F b))) (nI v8) (nI i) I2 L = K5 (nI b) v3 (v5 + nI 1) I2 L := by
    intro m v8 i I2 h1 h2
    rw [r_X1_sing_42]
    simp (disch := omega) only [n_le]
    rw [if_pos h1]
  unfold r_X1_sing_39 spart
  by_cases hk : fk F g = 1
  · rw [if_pos hk, if_pos hk]
    obtain ⟨I1, e1, s1, k1⟩ := sing_in (L := L) (V := V) (g := g) (i := 0) (v8 := 2) (m := 99) (v3 := v3) (v5 := v5) (K5 := K5) hfe hmo hso hF hc hb (by omega) (by omega) hs (by omega)
    have hc1 : cFen I1 f F := cFen_kept (fun a q1 q2 => k1 a (ap a q1 q2).1 (ap a q1 q2).2) hc
    obtain ⟨I2, e2, s2, k2⟩ := sing_in (L := L) (V := V) (g := g) (i := 1) (v8 := 2) (m := 98) (v3 := v3) (v5 := v5) (K5 := K5) hfe hmo hso hF hc1 hb (by omega) (by omega) s1 (by rw [List.length_append]; omega)
    refine ⟨I2, ?_, ?_, fun a q1 q2 => (k2 a q1 q2).trans (k1 a q1 q2)⟩
    · rw [e1, e2]
      exact fend 97 2 2 I2 (by omega) (by omega)
    · rw [List.append_assoc] at s2
      exact s2
  · rw [if_neg hk, if_neg hk]
    obtain ⟨I1, e1, s1, k1⟩ := sing_in (L := L) (V := V) (g := g) (i := 0) (v8 := 1) (m := 99) (v3 := v3) (v5 := v5) (K5 := K5) hfe hmo hso hF hc hb (by omega) (by omega) hs (by omega)
    refine ⟨I1, ?_, s1, k1⟩
    rw [e1]
    exact fend 98 1 1 I1 (by omega) (by omega)
/-- one gate -/
theorem sing_gate {I : gII} {L : gLL} {F : TFen} {V : TMom} {f mm s b l i m : Nat} {xs : List Nat} (hfe : gfe f = true) (hmo : gmo mm = true) (hso : gso s = true) (hF : okF F) (hc : cFen I f F) (hV : okM F V) (hM : cMom I L mm V) (hb : b < fB F) (hl3 : l < fL F) (hi : i < 3) (hs : cSong I s xs) (hl : xs.length + 4 ≤ 12) :
    ∃ I', r_X1_sing_5 f mm s (m + 1) (nI b) (nI l) (nI i) I L = r_X1_sing_5 f mm s m (nI b) (nI l) (nI (i + 1)) I' L ∧ cSong I' s (xs ++ spart F V b (fl F (3 * l + i))) ∧ ∀ a, a ≠ s → a ≠ s + 1 → I' a = I a := by
  have hb5 : b < 5 := Nat.lt_of_lt_of_le hb hF.2.2.1
  have hl5 : l < 3 := Nat.lt_of_lt_of_le hl3 hF.2.1
  have hw := hF.2.2.2.2.2.2.1 b hb
  have hfb := hF.2.2.2.2.2.2.2.1 b hb
  have hg := hF.2.2.2.2.2.1 (3 * l + i) (by omega)
  have hg5 : fl F (3 * l + i) < 5 := Nat.lt_of_lt_of_le hg hF.1
  have hkd := hF.2.2.2.2.1 _ hg
  have e3 : I (f + 3) (l * 3 + i) = nI (fl F (3 * l + i)) := by
    rw [show l * 3 + i = 3 * l + i by omega]
    exact hc.2.2.2.2.2.1 (3 * l + i) (by omega)
  have e4 := hc.2.2.2.2.2.2.1 b hb
  have e5 := hc.2.2.2.2.2.2.2.1 b hb
  have ek := hc.2.2.2.2.1 _ hg
  rw [r_X1_sing_5]
  simp (disch := omega) only [n_le, n_mul, n_add, n_gvp, n_gx, e3, e4, e5, decide_eq_true_eq]
  rw [if_neg (by omega), if_pos (by omega), if_pos hb5, if_pos hb5, tone_c hF hc hV hM hg hw.2 hfb]
  simp (disch := omega) only [Option.bind_some, n_gvp, n_gx, ek, n_eq, decide_eq_true_eq]
  rw [if_pos hg5]
  obtain ⟨I1, e1, s1, k1⟩ := sing_inner (L := L) (V := V) (g := fl F (3 * l + i)) (v3 := nI l) (v5 := nI i) (K5 := r_X1_sing_5 f mm s m) hfe hmo hso hF hc hb hs hl
  refine ⟨I1, ?_, s1, k1⟩
  rw [n_add] at e1
  by_cases hk : fk F (fl F (3 * l + i)) = 1
  · rw [if_neg (by simpa using hk)]
    rw [if_pos hk] at e1
    exact e1
  · rw [if_pos hk]
    rw [if_neg hk] at e1
    exact e1
/-- the SONG of a BEAST in a LANE, as the class lays it -/
theorem sing_c {I : gII} {L : gLL} {F : TFen} {V : TMom} {f mm s b l : Nat} (hfe : gfe f = true) (hmo : gmo mm = true) (hso : gso s = true) (hF : okF F) (hc : cFen I f F) (hV : okM F V) (hM : cMom I L mm V) (hb : b < fB F) (hl3 : l < fL F) :
    ∃ I', r_X1_sing I L f mm (nI b) (nI l) s = some (0, I', L) ∧ cSong I' s (song F V b l) ∧ ∀ a, a ≠ s → a ≠ s + 1 → I' a = I a := by
  obtain ⟨ap, am, am1⟩ := gso_apart hfe hmo hso
  have l0 := spart_len F V b (fl F (3 * l + 0))
  have l1 := spart_len F V b (fl F (3 * l + 1))
  have k0 : ∀ a, a ≠ s → a ≠ s + 1 → gu2 I s 1 (nI 0) a = I a := fun a h _ => gu2_other h
  have s0 : cSong (gu2 I s 1 (nI 0)) s [] := ⟨by rw [gu2_self, if_pos rfl]; rfl, fun j hj => by simp at hj⟩
  have keepF : ∀ {I1 I2 : gII}, (∀ a, a ≠ s → a ≠ s + 1 → I2 a = I1 a) → cFen I1 f F → cFen I2 f F := fun k h => cFen_kept (fun a q1 q2 => k a (ap a q1 q2).1 (ap a q1 q2).2) h
  have keepM : ∀ {I1 I2 : gII}, (∀ a, a ≠ s → a ≠ s + 1 → I2 a = I1 a) → cMom I1 L mm V → cMom I2 L mm V := fun k h => cMom_kept (k mm am am1) rfl h
  have c0 := keepF k0 hc
  have m0 := keepM k0 hM
  obtain ⟨I1, e1, s1, k1⟩ := sing_gate (i := 0) (m := 99) hfe hmo hso hF c0 hV m0 hb hl3 (by omega) s0 (by simp)
  have c1 := keepF k1 c0
  have m1 := keepM k1 m0
  obtain ⟨I2, e2, s2, k2⟩ := sing_gate (i := 1) (m := 98) hfe hmo hso hF c1 hV m1 hb hl3 (by omega) s1 (by rw [List.length_append]; show 0 + _ + 4 ≤ 12; omega)
  have c2 := keepF k2 c1
  have m2 := keepM k2 m1
  obtain ⟨I3, e3, s3, k3⟩ := sing_gate (i := 2) (m := 97) hfe hmo hso hF c2 hV m2 hb hl3 (by omega) s2 (by rw [List.length_append, List.length_append]; show 0 + _ + _ + 4 ≤ 12; omega)
  refine ⟨I3, ?_, ?_, fun a q1 q2 => (k3 a q1 q2).trans ((k2 a q1 q2).trans ((k1 a q1 q2).trans (k0 a q1 q2)))⟩
  · unfold r_X1_sing
    rw [e1, e2, e3, r_X1_sing_5]
    simp (disch := omega) only [n_le]
    rw [if_pos (by omega)]
  · unfold song
    simpa using s3
