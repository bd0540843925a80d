/-! A TRIAL IS LAID; TONES AS BITS; HAS; WEIGHTS -/
theorem gloop {σ ρ : Type} (R : Nat → Nat → σ → ρ) (P : Nat → σ → Prop) {n : Nat}
    (hs : ∀ m j s, j < n → P j s → ∃ s', R (m + 1) j s = R m (j + 1) s' ∧ P (j + 1) s') : ∀ {d j N : Nat} {s : σ}, j + d = n → d < N → P j s → ∃ m s', R N j s = R (m + 1) n s' ∧ P n s' := by
  intro d
  induction d with
  | zero =>
    intro j N s hj hN hp
    have hj : j = n := hj
    subst hj
    obtain ⟨m, rfl⟩ : ∃ m, N = m + 1 := ⟨N - 1, by omega⟩
    exact ⟨m, s, rfl, hp⟩
  | succ d ih =>
    intro j N s hj hN hp
    obtain ⟨m, rfl⟩ : ∃ m, N = m + 1 := ⟨N - 1, by omega⟩
    obtain ⟨s', e, hp'⟩ := hs m j s (by omega) hp
    rw [e]
    exact ih (by omega) (by omega) hp'
def rK (I I' : gII) : Prop := (∀ a, a ≠ 57 → a ≠ 69 → I' a = I a) ∧ ∀ j, j ≠ 24 → I' 57 j = I 57 j
theorem rK_refl {I : gII} : rK I I := ⟨fun _ _ _ => rfl, fun _ _ => rfl⟩
theorem rK_trans {I I' I'' : gII} (h : rK I I') (k : rK I' I'') : rK I I'' := ⟨fun a a1 a2 => (k.1 a a1 a2).trans (h.1 a a1 a2), fun j hj => (k.2 j hj).trans (h.2 j hj)⟩
theorem rK_fen {I I' : gII} {F : TFen} (h : rK I I') (hc : rFen I F) : rFen I' F := rFen_kept (fun j hj => h.2 j (by omega)) (fun a q1 q2 => h.1 a (by omega) (by omega)) hc
theorem rK_mom {I I' : gII} {V : TMom} {B : Nat} (h : rK I I') (hc : rMom I 63 B V) : rMom I' 63 B V := rMom_kept (h.1 63 (by decide) (by decide)) hc
theorem rK_same {I I' : gII} {L : gLL} (h : rK I I') : rSame I I' L L := rSame_lay h.1 h.2
def cK (I I' : gII) : Prop := ∀ a, (a < 44 ∧ a ≠ 19) ∨ 57 ≤ a → I' a = I a
theorem cK_refl {I : gII} : cK I I := fun _ _ => rfl
theorem cK_trans {I I' I'' : gII} (h : cK I I') (k : cK I' I'') : cK I I'' := fun a q => (k a q).trans (h a q)
theorem cK_fen {I I' : gII} {F : TFen} {f g : Nat} (hw : gfw f g) (h : cK I I') (hc : cFen I f F) : cFen I' f F := by
  have hf := gfe_or hw.f
  exact cFen_kept (fun a q1 q2 => h a (by omega)) hc
theorem cK_mom {I I' : gII} {L : gLL} {V : TMom} (h : cK I I') (hc : cMom I L 18 V) : cMom I' L 18 V := cMom_kept (h 18 (by omega)) rfl hc
theorem trial_r {I : gII} {L : gLL} {V : TMom} (hl : (ms V).length ≤ 12) (hM : rMom I 63 0 V) : ∃ I', r_X8_layTrial I L = some (0, I', L) ∧ rMom I' 63 27 V ∧ (∀ a, a ≠ 63 → I' a = I a) ∧ ∀ j, j < 27 → I' 63 j = I 63 j := by
  have h := gloopE (fun m j (t : gII) => r_X8_layTrial_2 m (nI j) t L) (fun j t => (∀ i, i < j → t 63 (27 + i) = I 63 i) ∧ (∀ i, i < 27 → t 63 i = I 63 i) ∧ ∀ a, a ≠ 63 → t a = I a) (fun z => ∃ I', z = (0, I', L) ∧ (∀ i, i < 27 → I' 63 (27 + i) = I 63 i) ∧ (∀ i, i < 27 → I' 63 i = I 63 i) ∧ ∀ a, a ≠ 63 → I' a = I a) (n := 27)
    (fun m j t hj hp => Or.inl ⟨gu2 t 63 (27 + j) (I 63 j), by
      show r_X8_layTrial_2 (m + 1) (nI j) t L = r_X8_layTrial_2 m (nI (j + 1)) _ L
      have h1 : 27 + j < 54 := by omega
      have h2 : j < 54 := by omega
      have h3 := hp.2.1 j hj
      rw [r_X8_layTrial_2]
      simp (disch := omega) only [n_le, n_lt, n_eq, n_eq0, n_0lt, n_le0, n_lt0, n_0le, n_gvp, n_gx, n_add, n_mul, decide_eq_true_eq, Option.bind_some, if_false, if_true, not_false_eq_true, not_true_eq_false, h1, h2, h3]
      rw [if_neg (by omega)], fun i hi => by
        rw [gu2_self]
        by_cases qq : i = j
        · rw [if_pos (by omega), qq]
        · rw [if_neg (by omega)]
          exact hp.1 i (by omega), fun i hi => by
        rw [g2n (by omega)]
        exact hp.2.1 i hi, fun a ha => (gu2_other ha).trans (hp.2.2 a ha)⟩)
    (fun m t hp => ⟨(0, t, L), by
      show r_X8_layTrial_2 (m + 1) (nI 27) t L = _
      rw [r_X8_layTrial_2, if_pos (by decide)], t, rfl, hp.1, hp.2.1, hp.2.2⟩) (d := 27) (j := 0) (N := 100) (s := I) rfl (by omega) ⟨fun i hi => by omega, fun i _ => rfl, fun a _ => rfl⟩
  obtain ⟨z, e, I', rfl, h1, h2, h3⟩ := h
  exact ⟨I', e, rMom_copy hl (fun i hi => by rw [h1 i hi, Nat.zero_add]) hM, h3, h2⟩
def orN (xs : List Nat) : Nat → Nat
  | 0 => 0
  | j + 1 => orN xs j ||| 2 ^ xs.getD j 0
def tset (xs : List Nat) : Nat := orN xs xs.length % 4096
theorem p13 {t : Nat} (h : t ≤ 12) : (2 : Nat) ^ t < 8192 := Nat.lt_of_le_of_lt (Nat.pow_le_pow_right (by decide) h) (by decide)
theorem orN_lt {xs : List Nat} (h : ∀ t ∈ xs, t ≤ 12) : ∀ j, j ≤ xs.length → orN xs j < 8192
  | 0, _ => by simp [orN]
  | j + 1, hj => Nat.or_lt_two_pow (n := 13) (orN_lt h j (by omega)) (p13 (h _ (getD_in (by omega))))
theorem and4097' : ∀ a, a < 128 → ∀ c, c < 64 → nI (64 * a + c) &&& (-4097 : Int32) = nI ((64 * a + c) % 4096) := by decide +kernel
theorem and4097 (b : Nat) (h : b < 8192) : nI b &&& (-4097 : Int32) = nI (b % 4096) := by
  have := and4097' (b / 64) (by omega) (b % 64) (by omega)
  rwa [show 64 * (b / 64) + b % 64 = b by omega] at this
theorem tset_lt (xs : List Nat) : tset xs < 4096 := Nat.mod_lt _ (by decide)
theorem toneBits_c {I : gII} {L : gLL} {s : Nat} {xs : List Nat} (hs : cSong I s xs) (hx : xs.length ≤ 12) (lx : ∀ u ∈ xs, u ≤ 12) : r_X6_toneBits I L s = some (nI (tset xs), I, L) := by
  have h := gloopE (fun m j (c : Int32) => r_X6_toneBits_4 s m c (nI j) I L) (fun j c => c = nI (orN xs j)) (fun z => z = (nI (tset xs), I, L)) (n := xs.length)
    (fun m j c hj hp => Or.inl ⟨nI (orN xs (j + 1)), by
      show r_X6_toneBits_4 s (m + 1) c (nI j) I L = r_X6_toneBits_4 s m _ (nI (j + 1)) I L
      have h12 : j < 12 := by omega
      have ex := hs.2 j hj
      have bx := lx _ (getD_in (d := 0) hj)
      have p := p13 bx
      rw [hp, r_X6_toneBits_4, hs.1]
      simp (disch := omega) only [n_le, n_lt, n_eq, n_eq0, n_0lt, n_le0, n_lt0, n_0le, n_gvp, n_gx, n_add, n_mul, decide_eq_true_eq, Option.bind_some, if_false, if_true, not_false_eq_true, not_true_eq_false, h12, ex, n_shl, n_or, Nat.one_mul]
      rw [if_neg (by omega)]
      rfl, rfl⟩)
    (fun m c hp => ⟨(nI (tset xs), I, L), by
      show r_X6_toneBits_4 s (m + 1) c (nI _) I L = _
      rw [hp, r_X6_toneBits_4, hs.1, if_pos (by simp (disch := omega) only [n_le, n_lt, n_eq, n_eq0, n_0lt, n_le0, n_lt0, n_0le, n_gvp, n_gx, n_add, n_mul, decide_eq_true_eq, Option.bind_some, if_false, if_true, not_false_eq_true, not_true_eq_false]; omega), and4097 _ (orN_lt lx _ (Nat.le_refl _))]
      rfl, rfl⟩) (d := xs.length) (j := 0) (N := 100) (s := nI 0) (by omega) (by omega) rfl
  obtain ⟨z, e, rfl⟩ := h
  exact e
theorem tonesIn_r {I : gII} {L : gLL} {row : Nat} {xs : List Nat} (hrow : row < 2) (hs : ∀ j, j < xs.length → I 69 (12 * row + j) = nI (xs.getD j 0)) (hx : xs.length ≤ 12) (lx : ∀ u ∈ xs, u ≤ 12) : r_X8_tonesIn I L (nI row) (nI xs.length) = some (nI (tset xs), I, L) := by
  have h := gloopE (fun m j (c : Int32) => r_X8_tonesIn_4 m (nI row) (nI xs.length) c (nI j) I L) (fun j c => c = nI (orN xs j)) (fun z => z = (nI (tset xs), I, L)) (n := xs.length)
    (fun m j c hj hp => Or.inl ⟨nI (orN xs (j + 1)), by
      show r_X8_tonesIn_4 (m + 1) (nI row) (nI xs.length) c (nI j) I L = r_X8_tonesIn_4 m (nI row) (nI xs.length) _ (nI (j + 1)) I L
      have h24 : 12 * row + j < 24 := by omega
      have ex := hs j hj
      have bx := lx _ (getD_in (d := 0) hj)
      have p := p13 bx
      rw [hp, r_X8_tonesIn_4]
      simp (disch := omega) only [n_le, n_lt, n_eq, n_eq0, n_0lt, n_le0, n_lt0, n_0le, n_gvp, n_gx, n_add, n_mul, decide_eq_true_eq, Option.bind_some, if_false, if_true, not_false_eq_true, not_true_eq_false, h24, ex, n_shl, n_or, Nat.one_mul]
      rw [if_neg (by omega)]
      rfl, rfl⟩)
    (fun m c hp => ⟨(nI (tset xs), I, L), by
      show r_X8_tonesIn_4 (m + 1) (nI row) (nI xs.length) c (nI _) I L = _
      rw [hp, r_X8_tonesIn_4, if_pos (by simp (disch := omega) only [n_le, n_lt, n_eq, n_eq0, n_0lt, n_le0, n_lt0, n_0le, n_gvp, n_gx, n_add, n_mul, decide_eq_true_eq, Option.bind_some, if_false, if_true, not_false_eq_true, not_true_eq_false]; omega), and4097 _ (orN_lt lx _ (Nat.le_refl _))]
      rfl, rfl⟩) (d := xs.length) (j := 0) (N := 100) (s := nI 0) (by omega) (by omega) rfl
  obtain ⟨z, e, rfl⟩ := h
  exact e
def verN (F : TFen) (v : Nat) : Nat := (2 ^ fv F (4 * v) ||| 2 ^ fv F (4 * v + 1) ||| 2 ^ fv F (4 * v + 2) ||| 2 ^ fv F (4 * v + 3)) % 4096
theorem verseBits_c {I : gII} {L : gLL} {F : TFen} {f v : Nat} (hF : okF F) (hc : cFen I f F) (hv : v < fV F) : r_X1_verseBits I L f (nI v) = some (nI (verN F v), I, L) := by
  have hV2 := hF.2.2.2.1
  have b0 := hF.2.2.2.2.2.2.2.2 (4 * v) (by omega)
  have b1 := hF.2.2.2.2.2.2.2.2 (4 * v + 1) (by omega)
  have b2 := hF.2.2.2.2.2.2.2.2 (4 * v + 2) (by omega)
  have b3 := hF.2.2.2.2.2.2.2.2 (4 * v + 3) (by omega)
  have e0 := hc.2.2.2.2.2.2.2.2 (4 * v) (by omega)
  have e1 := hc.2.2.2.2.2.2.2.2 (4 * v + 1) (by omega)
  have e2 := hc.2.2.2.2.2.2.2.2 (4 * v + 2) (by omega)
  have e3 := hc.2.2.2.2.2.2.2.2 (4 * v + 3) (by omega)
  have p0 := p13 b0
  have p1 := p13 b1
  have p2 := p13 b2
  have p3 := p13 b3
  unfold r_X1_verseBits
  rw [show (100 : Nat) = 95 + 1 + 1 + 1 + 1 + 1 from rfl, r_X1_verseBits_4]
  simp (disch := omega) only [n_le, n_lt, n_eq, n_eq0, n_0lt, n_le0, n_lt0, n_0le, n_gvp, n_gx, n_add, n_mul, decide_eq_true_eq, Option.bind_some, if_false, if_true, not_false_eq_true, not_true_eq_false, show v * 4 + 0 = 4 * v from by omega, e0, n_shl, n_or, Nat.one_mul, Nat.zero_or]
  rw [if_neg (by omega), if_pos (by omega), r_X1_verseBits_4]
  simp (disch := omega) only [n_le, n_lt, n_eq, n_eq0, n_0lt, n_le0, n_lt0, n_0le, n_gvp, n_gx, n_add, n_mul, decide_eq_true_eq, Option.bind_some, if_false, if_true, not_false_eq_true, not_true_eq_false, show v * 4 + (0 + 1) = 4 * v + 1 from by omega, e1, n_shl, n_or, Nat.one_mul]
  rw [if_neg (by omega), if_pos (by omega), r_X1_verseBits_4]
  simp (disch := omega) only [n_le, n_lt, n_eq, n_eq0, n_0lt, n_le0, n_lt0, n_0le, n_gvp, n_gx, n_add, n_mul, decide_eq_true_eq, Option.bind_some, if_false, if_true, not_false_eq_true, not_true_eq_false, show v * 4 + (0 + 1 + 1) = 4 * v + 2 from by omega, e2, n_shl, n_or, Nat.one_mul]
  rw [if_neg (by omega), if_pos (by omega), r_X1_verseBits_4]
  simp (disch := omega) only [n_le, n_lt, n_eq, n_eq0, n_0lt, n_le0, n_lt0, n_0le, n_gvp, n_gx, n_add, n_mul, decide_eq_true_eq, Option.bind_some, if_false, if_true, not_false_eq_true, not_true_eq_false, show v * 4 + (0 + 1 + 1 + 1) = 4 * v + 3 from by omega, e3, n_shl, n_or, Nat.one_mul]
  rw [if_neg (by omega), if_pos (by omega), r_X1_verseBits_4]
  simp (disch := omega) only [n_le, n_lt, n_eq, n_eq0, n_0lt, n_le0, n_lt0, n_0le, n_gvp, n_gx, n_add, n_mul, decide_eq_true_eq, Option.bind_some, if_false, if_true, not_false_eq_true, not_true_eq_false]
  rw [if_pos (by omega), and4097 _ (Nat.or_lt_two_pow (n := 13) (Nat.or_lt_two_pow (Nat.or_lt_two_pow p0 p1) p2) p3)]
  rfl
theorem has14_r {I : gII} {L : gLL} {F : TFen} {l v : Nat} (hF : okF F) (hc : rFen I F) (hv : v < fV F) : r_X8_has_14 100 (nI v) (nI l) (nI 0) (nI 0) I L = r_X8_has_40 100 (nI l) (nI (verN F v)) (nI 0) (nI 0) I L := by
  have hV2 := hF.2.2.2.1
  have b0 := hF.2.2.2.2.2.2.2.2 (4 * v) (by omega)
  have b1 := hF.2.2.2.2.2.2.2.2 (4 * v + 1) (by omega)
  have b2 := hF.2.2.2.2.2.2.2.2 (4 * v + 2) (by omega)
  have b3 := hF.2.2.2.2.2.2.2.2 (4 * v + 3) (by omega)
  have e0 := hc.2.2.2.2.2.2.2.2 (4 * v) (by omega)
  have e1 := hc.2.2.2.2.2.2.2.2 (4 * v + 1) (by omega)
  have e2 := hc.2.2.2.2.2.2.2.2 (4 * v + 2) (by omega)
  have e3 := hc.2.2.2.2.2.2.2.2 (4 * v + 3) (by omega)
  have p0 := p13 b0
  have p1 := p13 b1
  have p2 := p13 b2
  have p3 := p13 b3
  rw [show r_X8_has_14 100 = r_X8_has_14 (95 + 1 + 1 + 1 + 1 + 1) from rfl, r_X8_has_14]
  simp (disch := omega) only [n_le, n_lt, n_eq, n_eq0, n_0lt, n_le0, n_lt0, n_0le, n_gvp, n_gx, n_add, n_mul, decide_eq_true_eq, Option.bind_some, if_false, if_true, not_false_eq_true, not_true_eq_false, Nat.add_zero, e0, n_shl, n_or, Nat.one_mul, Nat.zero_or]
  rw [if_neg (by omega), if_pos (by omega), r_X8_has_14]
  simp (disch := omega) only [n_le, n_lt, n_eq, n_eq0, n_0lt, n_le0, n_lt0, n_0le, n_gvp, n_gx, n_add, n_mul, decide_eq_true_eq, Option.bind_some, if_false, if_true, not_false_eq_true, not_true_eq_false, Nat.zero_add, e1, n_shl, n_or, Nat.one_mul]
  rw [if_neg (by omega), if_pos (by omega), r_X8_has_14]
  simp (disch := omega) only [n_le, n_lt, n_eq, n_eq0, n_0lt, n_le0, n_lt0, n_0le, n_gvp, n_gx, n_add, n_mul, decide_eq_true_eq, Option.bind_some, if_false, if_true, not_false_eq_true, not_true_eq_false, show 4 * v + (1 + 1) = 4 * v + 2 from by omega, e2, n_shl, n_or, Nat.one_mul]
  rw [if_neg (by omega), if_pos (by omega), r_X8_has_14]
  simp (disch := omega) only [n_le, n_lt, n_eq, n_eq0, n_0lt, n_le0, n_lt0, n_0le, n_gvp, n_gx, n_add, n_mul, decide_eq_true_eq, Option.bind_some, if_false, if_true, not_false_eq_true, not_true_eq_false, show 4 * v + (1 + 1 + 1) = 4 * v + 3 from by omega, e3, n_shl, n_or, Nat.one_mul]
  rw [if_neg (by omega), if_pos (by omega), r_X8_has_14]
  simp (disch := omega) only [n_le, n_lt, n_eq, n_eq0, n_0lt, n_le0, n_lt0, n_0le, n_gvp, n_gx, n_add, n_mul, decide_eq_true_eq, Option.bind_some, if_false, if_true, not_false_eq_true, not_true_eq_false]
  rw [if_pos (by omega), and4097 _ (Nat.or_lt_two_pow (n := 13) (Nat.or_lt_two_pow (Nat.or_lt_two_pow p0 p1) p2) p3)]
  rfl
def hasN (F : TFen) (V : TMom) (l w : Nat) : Nat → Nat
  | 0 => 0
  | b + 1 => hasN F V l w b ||| (if nI w &&& (nI (tset (song F V b l)) ^^^ (-1 : Int32)) = 0 then 2 ^ b else 0)
theorem has21_c {I : gII} {L : gLL} {F : TFen} {V : TMom} {f g l w : Nat} (hw : gfw f g) (hF : okF F) (hc : cFen I f F) (hV : okM F V) (hM : cMom I L 18 V) (hl : l < fL F) : ∃ I', r_X7_has_21 f g 100 (nI l) (nI w) (nI 0) (nI 0) I L = some (nI (hasN F V l w (fB F)), I', L) := by
  have hB := hF.2.2.1
  have h := gloopE (fun m j (s : Int32 × gII) => r_X7_has_21 f g m (nI l) (nI w) s.1 (nI j) s.2 L) (fun j s => s.1 = nI (hasN F V l w j) ∧ cK I s.2) (fun z => ∃ I', z = (nI (hasN F V l w (fB F)), I', L)) (n := fB F)
    (fun m j s hj hp => by
      have hc' := cK_fen hw hp.2 hc
      have hM' := cK_mom hp.2 hM
      obtain ⟨I1, e1, s1, k1⟩ := sing_c (s := 53) hw.f rfl rfl hF hc' hV hM' hj hl
      have p2 : 2 ^ j ≤ 32 := pow_le5 (by omega)
      refine Or.inl ⟨(nI (hasN F V l w (j + 1)), I1), ?_, rfl, cK_trans hp.2 (fun a q => k1 a (by omega) (by omega))⟩
      show r_X7_has_21 f g (m + 1) (nI l) (nI w) s.1 (nI j) s.2 L = r_X7_has_21 f g m (nI l) (nI w) (nI (hasN F V l w j ||| (if nI w &&& (nI (tset (song F V j l)) ^^^ (-1 : Int32)) = 0 then 2 ^ j else 0))) (nI (j + 1)) I1 L
      rw [hp.1, r_X7_has_21, hc'.2.2.1, e1]
      simp only [Option.bind_some]
      rw [toneBits_c s1 (song_len _ _ _ _) (song_le _ _ _ _)]
      unfold r_X7_has_49
      simp (disch := omega) only [n_le, n_lt, n_eq, n_eq0, n_0lt, n_le0, n_lt0, n_0le, n_gvp, n_gx, n_add, n_mul, decide_eq_true_eq, Option.bind_some, if_false, if_true, not_false_eq_true, not_true_eq_false]
      rw [if_neg (by omega)]
      by_cases q : nI w &&& (nI (tset (song F V j l)) ^^^ (-1 : Int32)) = 0
      · rw [if_neg (by simpa using q), if_pos q, n_shl (by omega) (by omega), Nat.one_mul, n_or]
      · rw [if_pos q, if_neg q, Nat.or_zero])
    (fun m s hp => ⟨(nI (hasN F V l w (fB F)), s.2, L), by
      show r_X7_has_21 f g (m + 1) (nI l) (nI w) s.1 (nI _) s.2 L = _
      rw [hp.1, r_X7_has_21, (cK_fen hw hp.2 hc).2.2.1, if_pos (by simp (disch := omega) only [n_le, n_lt, n_eq, n_eq0, n_0lt, n_le0, n_lt0, n_0le, n_gvp, n_gx, n_add, n_mul, decide_eq_true_eq, Option.bind_some, if_false, if_true, not_false_eq_true, not_true_eq_false]; omega)], s.2, rfl⟩) (d := fB F) (j := 0) (N := 100) (s := (nI 0, I)) (by omega) (by omega) ⟨rfl, cK_refl⟩
  obtain ⟨z, e, I', rfl⟩ := h
  exact ⟨I', e⟩
theorem has40_r {I : gII} {L : gLL} {F : TFen} {V : TMom} {l w : Nat} (hF : okF F) (hc : rFen I F) (hV : okM F V) (hM : rMom I 63 0 V) (hl : l < fL F) : ∃ I', r_X8_has_40 100 (nI l) (nI w) (nI 0) (nI 0) I L = some (nI (hasN F V l w (fB F)), I', L) ∧ rK I I' := by
  have hB := hF.2.2.1
  have h := gloopE (fun m j (s : Int32 × gII) => r_X8_has_40 m (nI l) (nI w) s.1 (nI j) s.2 L) (fun j s => s.1 = nI (hasN F V l w j) ∧ rK I s.2) (fun z => ∃ I', z = (nI (hasN F V l w (fB F)), I', L) ∧ rK I I') (n := fB F)
    (fun m j s hj hp => by
      have hc' := rK_fen hp.2 hc
      have hM' := rK_mom hp.2 hM
      obtain ⟨I1, e1, s1, k1, j1⟩ := lay_r (L := L) (lv := 0) (row := 0) hF hc' hV (by simpa using hM') (by omega) (by omega) hj hl
      have p2 : 2 ^ j ≤ 32 := pow_le5 (by omega)
      refine Or.inl ⟨(nI (hasN F V l w (j + 1)), I1), ?_, rfl, rK_trans hp.2 ⟨k1, j1⟩⟩
      show r_X8_has_40 (m + 1) (nI l) (nI w) s.1 (nI j) s.2 L = r_X8_has_40 m (nI l) (nI w) (nI (hasN F V l w j ||| (if nI w &&& (nI (tset (song F V j l)) ^^^ (-1 : Int32)) = 0 then 2 ^ j else 0))) (nI (j + 1)) I1 L
      rw [hp.1, r_X8_has_40, hc'.2.2.1, e1]
      simp only [Option.bind_some]
      rw [tonesIn_r (by omega) s1.2 (song_len _ _ _ _) (song_le _ _ _ _)]
      unfold r_X8_has_64
      simp (disch := omega) only [n_le, n_lt, n_eq, n_eq0, n_0lt, n_le0, n_lt0, n_0le, n_gvp, n_gx, n_add, n_mul, decide_eq_true_eq, Option.bind_some, if_false, if_true, not_false_eq_true, not_true_eq_false]
      rw [if_neg (by omega)]
      by_cases q : nI w &&& (nI (tset (song F V j l)) ^^^ (-1 : Int32)) = 0
      · rw [if_neg (by simpa using q), if_pos q, n_shl (by omega) (by omega), Nat.one_mul, n_or]
      · rw [if_pos q, if_neg q, n_or])
    (fun m s hp => ⟨(nI (hasN F V l w (fB F)), s.2, L), by
      show r_X8_has_40 (m + 1) (nI l) (nI w) s.1 (nI _) s.2 L = _
      rw [hp.1, r_X8_has_40, (rK_fen hp.2 hc).2.2.1, if_pos (by simp (disch := omega) only [n_le, n_lt, n_eq, n_eq0, n_0lt, n_le0, n_lt0, n_0le, n_gvp, n_gx, n_add, n_mul, decide_eq_true_eq, Option.bind_some, if_false, if_true, not_false_eq_true, not_true_eq_false]; omega)], s.2, rfl, hp.2⟩) (d := fB F) (j := 0) (N := 100) (s := (nI 0, I)) (by omega) (by omega) ⟨rfl, rK_refl⟩
  obtain ⟨z, e, I', rfl, k⟩ := h
  exact ⟨I', e, k⟩
theorem ag_has (x y : Int32) : mAg (fun f g I L => r_X7_has f g I L x y) (fun I L => r_X8_has I L x y) := by
  refine mAg_ask (fun f g I L z hw e a q => by
    have := cHold_lt hw q
    exact w_X7_has (by omega) e) (fun S hS => ?_)
  have hF := hS.2.1
  have hV := hS.2.2.1
  have hV2 := hF.2.2.2.1
  have hL := hF.2.1
  rcases inb_cases x (n := fV (sF S)) (by omega) with e | ⟨v, hv, rfl, e⟩
  · refine ⟨-1, fun f g I L hw hc => ⟨I, L, ?_⟩, fun I L hr => ⟨I, L, ?_, rSame_refl⟩⟩
    · show r_X7_has f g I L x y = _
      unfold r_X7_has r_X7_has_10
      rw [isVerse_c hc.2.1, e, if_pos z0]
    · show r_X8_has I L x y = _
      unfold r_X8_has r_X8_has_8
      rw [isVerse_m hF hr.2.1, Option.bind_some, e, if_pos z0]
  rcases inb_cases y (n := fL (sF S)) (by omega) with e2 | ⟨l, hl, rfl, e2⟩
  · refine ⟨-1, fun f g I L hw hc => ⟨I, L, ?_⟩, fun I L hr => ⟨I, L, ?_, rSame_refl⟩⟩
    · show r_X7_has f g I L (nI v) y = _
      unfold r_X7_has r_X7_has_10
      rw [isVerse_c hc.2.1, isLane_c hc.2.1, e, e2, if_neg z1, if_neg (by simp [z0])]
    · show r_X8_has I L (nI v) y = _
      unfold r_X8_has r_X8_has_8
      rw [isVerse_m hF hr.2.1, Option.bind_some, e, if_neg z1, isLane_m hF hr.2.1, Option.bind_some, e2, if_neg (by simp [z0])]
  refine ⟨nI (hasN (sF S) (sV S) l (verN (sF S) v) (fB (sF S))), fun f g I L hw hc => ?_, fun I L hr => ?_⟩
  · show ∃ I' L', r_X7_has f g I L (nI v) (nI l) = _
    obtain ⟨I1, e1⟩ := has21_c (w := verN (sF S) v) hw hF hc.2.1 hV hc.2.2.1 hl
    refine ⟨I1, L, ?_⟩
    unfold r_X7_has
    rw [isVerse_c hc.2.1, isLane_c hc.2.1, e, e2, if_neg z1, if_pos z1, verseBits_c hF hc.2.1 hv, Option.bind_some]
    exact e1
  · show ∃ I' L', r_X8_has I L (nI v) (nI l) = _ ∧ _
    obtain ⟨I1, e1, k1⟩ := has40_r (L := L) (w := verN (sF S) v) hF hr.2.1 hV hr.2.2.1 hl
    refine ⟨I1, L, ?_, rK_same k1⟩
    unfold r_X8_has
    rw [isVerse_m hF hr.2.1, Option.bind_some, e, if_neg z1, isLane_m hF hr.2.1, Option.bind_some, e2, if_pos z1]
    exact (has14_r hF hr.2.1 hv).trans e1
