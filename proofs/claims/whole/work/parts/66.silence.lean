/-! SILENCE -/
def oilV (V : TMom) (s : Nat) : TMom := mQ V (mo V) (mi V ||| s) (mh V) (mf V)
theorem oilV_ok {F : TFen} {V : TMom} {s : Nat} (hV : okM F V) (hs : s < 2 ^ fG F) : okM F (oilV V s) := mQ_ok hV hV.2.2.1 (Nat.or_lt_two_pow hV.2.2.2.1 hs) hV.2.2.2.2.1 hV.2.2.2.2.2.1
theorem or_bit (x y g : Nat) : (x ||| y) / 2 ^ g % 2 = if x / 2 ^ g % 2 = 1 ∨ y / 2 ^ g % 2 = 1 then 1 else 0 := by
  rw [Nat.or_div_two_pow, show (2 : Nat) = 2 ^ 1 from rfl, Nat.or_mod_two_pow]
  simp only [Nat.pow_one]
  rcases (by omega : x / 2 ^ g % 2 = 0 ∨ x / 2 ^ g % 2 = 1) with a | a <;> rcases (by omega : y / 2 ^ g % 2 = 0 ∨ y / 2 ^ g % 2 = 1) with b | b <;> rw [a, b] <;> decide
/-- a TONE when some GATES are OILED too -/
theorem tone_oil {F : TFen} {V : TMom} {s g w k : Nat} : tone F (oilV V s) g w k = if s / 2 ^ g % 2 = 1 then 12 else tone F V g w k := by
  unfold tone
  have e1 : mo (oilV V s) = mo V := rfl
  have e2 : mi (oilV V s) = mi V ||| s := rfl
  have e3 : mn (oilV V s) = mn V := rfl
  have e4 : mf (oilV V s) = mf V := rfl
  have e5 : mp (oilV V s) = mp V := rfl
  rw [e1, e2, e3, e4, e5, ← Nat.or_assoc, or_bit (mo V ||| mi V) s g]
  by_cases h1 : fk F g = 3 ∧ w < 5
  · rw [if_pos h1, if_pos h1]
    split <;> rfl
  · rw [if_neg h1, if_neg h1]
    by_cases h2 : s / 2 ^ g % 2 = 1
    · rw [if_pos h2, if_pos (Or.inr h2), if_pos rfl]
    · rw [if_neg h2]
      by_cases h3 : (mo V ||| mi V) / 2 ^ g % 2 = 1
      · rw [if_pos (Or.inl h3), if_pos rfl, if_pos h3]
      · have h4 : ¬ ((mo V ||| mi V) / 2 ^ g % 2 = 1 ∨ s / 2 ^ g % 2 = 1) := fun q => q.elim h3 h2
        rw [if_neg h4, if_neg (by decide), if_neg h3]
theorem cnt0 : ∀ (xs : List Nat), cnt xs = 0 ↔ ∀ t ∈ xs, t = 12
  | [] => by simp [cnt]
  | t :: ts => by
    have ih := cnt0 ts
    show (if t = 12 then 0 else 1) + cnt ts = 0 ↔ _
    by_cases q : t = 12
    · rw [if_pos q, Nat.zero_add, ih]
      constructor
      · intro h u hu
        rcases List.mem_cons.mp hu with rfl | hu
        · exact q
        · exact h u hu
      · intro h u hu
        exact h u (List.mem_cons_of_mem _ hu)
    · rw [if_neg q]
      constructor
      · intro h
        omega
      · intro h
        exact absurd (h t (List.mem_cons_self ..)) q
theorem upart12 {F : TFen} {V : TMom} {b g : Nat} : (∀ t ∈ upart F V b g, t = 12) ↔ tone F V g (fw F b) (fb F b) = 12 := by
  unfold upart
  split
  · rename_i q
    constructor
    · intro h
      exact h _ (List.mem_cons_self ..)
    · intro h
      exact absurd h q.2
  · simp
theorem spart12 {F : TFen} {V : TMom} {b g : Nat} : (∀ t ∈ spart F V b g, t = 12) ↔ tone F V g (fw F b) (fb F b) = 12 := by
  unfold spart
  split
  · rw [← upart12 (F := F) (V := V) (b := b) (g := g)]
    constructor
    · intro h t ht
      exact h t (List.mem_append_left _ ht)
    · intro h t ht
      rcases List.mem_append.mp ht with q | q <;> exact h t q
  · exact upart12
theorem song12 {F : TFen} {V : TMom} {b l : Nat} : cnt (song F V b l) = 0 ↔ ∀ g, hasG F l g = true → tone F V g (fw F b) (fb F b) = 12 := by
  rw [cnt0]
  unfold song hasG
  constructor
  · intro h g hg
    simp only [Bool.or_eq_true, decide_eq_true_eq] at hg
    rw [← spart12]
    intro t ht
    apply h t
    rcases hg with (hg | hg) | hg
    · rw [hg]
      exact List.mem_append_left _ (List.mem_append_left _ ht)
    · rw [hg]
      exact List.mem_append_left _ (List.mem_append_right _ ht)
    · rw [hg]
      exact List.mem_append_right _ ht
  · intro h t ht
    rcases List.mem_append.mp ht with q | q
    · rcases List.mem_append.mp q with q | q
      · exact spart12.mpr (h _ (by simp)) t q
      · exact spart12.mpr (h _ (by simp)) t q
    · exact spart12.mpr (h _ (by simp)) t q
theorem hasG_lt {F : TFen} {l g : Nat} (hF : okF F) (hl : l < fL F) (h : hasG F l g = true) : g < fG F := by
  unfold hasG at h
  simp only [Bool.or_eq_true, decide_eq_true_eq] at h
  rcases h with (h | h) | h
  · rw [← h]
    exact hF.2.2.2.2.2.1 _ (by omega)
  · rw [← h]
    exact hF.2.2.2.2.2.1 _ (by omega)
  · rw [← h]
    exact hF.2.2.2.2.2.1 _ (by omega)
theorem sumTo0 {h : Nat → Nat} : ∀ n, sumTo n h = 0 ↔ ∀ i, i < n → h i = 0
  | 0 => by simp [sumTo]
  | n + 1 => by
    have ih := sumTo0 (h := h) n
    show sumTo n h + h n = 0 ↔ _
    constructor
    · intro q i hi
      by_cases qq : i = n
      · rw [qq]
        omega
      · exact ih.mp (by omega) i (by omega)
    · intro q
      rw [ih.mpr (fun i hi => q i (by omega)), q n (by omega)]
/-- some BEAST sounds at a GATE -/
def sdN (F : TFen) (V : TMom) (g : Nat) : Nat → Bool
  | 0 => false
  | b + 1 => sdN F V g b || decide (tone F V g (fw F b) (fb F b) ≠ 12)
theorem sdN_iff {F : TFen} {V : TMom} {g : Nat} : ∀ n, sdN F V g n = true ↔ ∃ b, b < n ∧ tone F V g (fw F b) (fb F b) ≠ 12
  | 0 => by simp [sdN]
  | n + 1 => by
    have ih := sdN_iff (F := F) (V := V) (g := g) n
    show (sdN F V g n || decide (tone F V g (fw F n) (fb F n) ≠ 12)) = true ↔ _
    rw [Bool.or_eq_true, ih, decide_eq_true_eq]
    constructor
    · rintro (⟨b, hb, h⟩ | h)
      · exact ⟨b, by omega, h⟩
      · exact ⟨n, by omega, h⟩
    · rintro ⟨b, hb, h⟩
      by_cases q : b = n
      · exact Or.inr (q ▸ h)
      · exact Or.inl ⟨b, by omega, h⟩
theorem sounds_c {I : gII} {L : gLL} {F : TFen} {V : TMom} {f g gg : Nat} (hF : okF F) (hc : cFen I f F) (hV : okM F V) (hM : cMom I L 18 V) (hg : gg < fG F) : r_X7_sounds f g I L (nI gg) = some (nI (bI (sdN F V gg (fB F))), I, L) := by
  have hB := hF.2.2.1
  have h := gloopE (fun m j (_ : Unit) => r_X7_sounds_2 f g m (nI gg) (nI j) I L) (fun j _ => sdN F V gg j = false) (fun z => z = (nI (bI (sdN F V gg (fB F))), I, L)) (n := fB F)
    (fun m j _ hj hp => by
      have h5 : j < 5 := by omega
      have hjn : ¬ fB F ≤ j := by omega
      have hw9 := hF.2.2.2.2.2.2.1 j hj
      have hk4 := hF.2.2.2.2.2.2.2.1 j hj
      have tl := tone_le F V gg (fw F j) (fb F j)
      have run : r_X7_sounds_2 f g (m + 1) (nI gg) (nI j) I L = if tone F V gg (fw F j) (fb F j) = 12 then r_X7_sounds_2 f g m (nI gg) (nI (j + 1)) I L else some (nI 1, I, L) := by
        rw [r_X7_sounds_2, hc.2.2.1]
        simp (disch := omega) only [n_le, n_lt, n_eq, n_eq0, n_0lt, n_le0, n_lt0, n_0le, n_gvp, n_gx, n_add, n_mul, decide_eq_true_eq, Option.bind_some, if_false, if_true, not_false_eq_true, not_true_eq_false, h5, hjn, hc.2.2.2.2.2.2.1 j hj, hc.2.2.2.2.2.2.2.1 j hj]
        rw [tone_c hF hc hV hM hg hw9.2 hk4]
        simp (disch := omega) only [n_le, n_lt, n_eq, n_eq0, n_0lt, n_le0, n_lt0, n_0le, n_gvp, n_gx, n_add, n_mul, decide_eq_true_eq, Option.bind_some, if_false, if_true, not_false_eq_true, not_true_eq_false]
      by_cases q : tone F V gg (fw F j) (fb F j) = 12
      · refine Or.inl ⟨(), run.trans (if_pos q), ?_⟩
        show (sdN F V gg j || decide (tone F V gg (fw F j) (fb F j) ≠ 12)) = false
        rw [hp]
        simp [q]
      · refine Or.inr ⟨_, run.trans (if_neg q), ?_⟩
        rw [(sdN_iff (fB F)).mpr ⟨j, hj, q⟩]
        rfl)
    (fun m _ hp => ⟨(nI 0, I, L), by
      show r_X7_sounds_2 f g (m + 1) (nI gg) (nI (fB F)) I L = _
      rw [r_X7_sounds_2, hc.2.2.1, if_pos (by simp (disch := omega) only [n_le, n_lt, n_eq, n_eq0, n_0lt, n_le0, n_lt0, n_0le, n_gvp, n_gx, n_add, n_mul, decide_eq_true_eq, Option.bind_some, if_false, if_true, not_false_eq_true, not_true_eq_false]; omega)], by rw [hp]; rfl⟩) (d := fB F) (j := 0) (N := 100) (s := ()) (by omega) (by omega) rfl
  obtain ⟨z, e, rfl⟩ := h
  exact e
theorem lanes3 : ∀ p q r : Bool, ∀ n, n ≤ 3 → ∀ l, l < n → ((if n = 0 then 0 else if n = 1 then (0 ||| if p then 1 else 0) else if n = 2 then ((0 ||| if p then 1 else 0) ||| if q then 2 else 0) else (((0 ||| if p then 1 else 0) ||| if q then 2 else 0) ||| if r then 4 else 0)) / 2 ^ l % 2 : Nat) = if (if l = 0 then p else if l = 1 then q else r) then 1 else 0 := by decide +kernel
theorem lanesN_bit {F : TFen} {g l n : Nat} (hn : n ≤ 3) (hl : l < n) : lanesN F g n / 2 ^ l % 2 = if hasG F l g then 1 else 0 := by
  have h := lanes3 (hasG F 0 g) (hasG F 1 g) (hasG F 2 g) n hn l hl
  have e : lanesN F g n = (if n = 0 then 0 else if n = 1 then (0 ||| if hasG F 0 g then 1 else 0) else if n = 2 then ((0 ||| if hasG F 0 g then 1 else 0) ||| if hasG F 1 g then 2 else 0) else (((0 ||| if hasG F 0 g then 1 else 0) ||| if hasG F 1 g then 2 else 0) ||| if hasG F 2 g then 4 else 0)) := by
    rcases (by omega : n = 0 ∨ n = 1 ∨ n = 2 ∨ n = 3) with rfl | rfl | rfl | rfl <;> rfl
  rw [e, h]
  rcases (by omega : l = 0 ∨ l = 1 ∨ l = 2) with rfl | rfl | rfl <;> rfl
/-- the GATES of a LANE that still sound -/
def silN (F : TFen) (V : TMom) (l : Nat) : Nat → Nat
  | 0 => 0
  | g + 1 => silN F V l g ||| (if hasG F l g && sdN F V g (fB F) then 2 ^ g else 0)
theorem silN_lt (F : TFen) (V : TMom) (l : Nat) : ∀ n, silN F V l n < 2 ^ n
  | 0 => Nat.one_pos
  | n + 1 => by
    have h := silN_lt F V l n
    have h2 : (2 : Nat) ^ n < 2 ^ (n + 1) := Nat.pow_lt_pow_right (by decide) (by omega)
    show silN F V l n ||| _ < 2 ^ (n + 1)
    refine Nat.or_lt_two_pow (by omega) ?_
    split
    · exact h2
    · exact Nat.pow_pos (by decide)
theorem pow_bit {n g : Nat} : 2 ^ n / 2 ^ g % 2 = if g = n then 1 else 0 := by
  rcases Nat.lt_trichotomy g n with q | q | q
  · rw [if_neg (by omega), Nat.pow_div (by omega) (by decide), show n - g = (n - g - 1) + 1 by omega, Nat.pow_succ]
    omega
  · rw [if_pos q, q, Nat.div_self (Nat.pow_pos (by decide))]
  · rw [if_neg (by omega), Nat.div_eq_of_lt (Nat.pow_lt_pow_right (by decide) q)]
theorem silN_bit {F : TFen} {V : TMom} {l g : Nat} : ∀ n, silN F V l n / 2 ^ g % 2 = if g < n ∧ (hasG F l g && sdN F V g (fB F)) = true then 1 else 0
  | 0 => by simp [silN]
  | n + 1 => by
    have ih := silN_bit (F := F) (V := V) (l := l) (g := g) n
    show (silN F V l n ||| _) / 2 ^ g % 2 = _
    rw [or_bit, ih]
    by_cases q : g = n
    · subst q
      have f : ¬ (g < g ∧ (hasG F l g && sdN F V g (fB F)) = true) := fun h => absurd h.1 (Nat.lt_irrefl _)
      rw [if_neg f]
      by_cases w : (hasG F l g && sdN F V g (fB F)) = true
      · rw [if_pos w, pow_bit, if_pos rfl, if_pos (Or.inr rfl), if_pos ⟨by omega, w⟩]
      · have f1 : ¬ ((0 : Nat) = 1 ∨ 0 / 2 ^ g % 2 = 1) := by simp
        rw [if_neg w, if_neg f1, if_neg (fun h => w h.2)]
    · have e : (if (hasG F l n && sdN F V n (fB F)) = true then 2 ^ n else 0) / 2 ^ g % 2 = 0 := by
        split
        · rw [pow_bit, if_neg q]
        · simp
      rw [e]
      by_cases w : g < n ∧ (hasG F l g && sdN F V g (fB F)) = true
      · rw [if_pos w, if_pos (Or.inl rfl), if_pos ⟨by omega, w.2⟩]
      · rw [if_neg w, if_neg (by omega), if_neg (fun h => w ⟨by omega, h.2⟩)]
theorem silence11_c {I : gII} {L : gLL} {F : TFen} {V : TMom} {f g l : Nat} (hF : okF F) (hc : cFen I f F) (hV : okM F V) (hM : cMom I L 18 V) (hl : l < fL F) : r_X7_silence_11 f g 100 (nI l) (nI 0) (nI 0) I L = some (nI (silN F V l (fG F)), I, L) := by
  have hG := hF.1
  have hL := hF.2.1
  have h := gloopE (fun m j (c : Int32) => r_X7_silence_11 f g m (nI l) c (nI j) I L) (fun j c => c = nI (silN F V l j)) (fun z => z = (nI (silN F V l (fG F)), I, L)) (n := fG F)
    (fun m j c hj hp => Or.inl ⟨nI (silN F V l (j + 1)), by
      show r_X7_silence_11 f g (m + 1) (nI l) c (nI j) I L = r_X7_silence_11 f g m (nI l) (nI (silN F V l j ||| (if hasG F l j && sdN F V j (fB F) then 2 ^ j else 0))) (nI (j + 1)) I L
      have hjn : ¬ fG F ≤ j := by omega
      have p2 : 2 ^ j ≤ 32 := pow_le5 (by omega)
      have lt := lanesN_lt F j (fL F)
      have lt3 : 2 ^ fL F ≤ 32 := pow_le5 (by omega)
      rw [hp, r_X7_silence_11, hc.1, lanesWith_c hF hc (by omega)]
      unfold r_X7_silence_35
      simp (disch := omega) only [n_le, n_lt, n_eq, n_eq0, n_0lt, n_le0, n_lt0, n_0le, n_gvp, n_gx, n_add, n_mul, decide_eq_true_eq, Option.bind_some, if_false, if_true, not_false_eq_true, not_true_eq_false, hjn, bit_n]
      rw [lanesN_bit hL hl, sounds_c hF hc hV hM hj]
      simp only [Option.bind_some]
      have ff : ¬ false = true := by decide
      cases hasG F l j with
      | false => rw [if_pos (by decide), Bool.false_and, if_neg ff, Nat.or_zero]
      | true =>
        rw [if_neg (by decide)]
        cases sdN F V j (fB F) with
        | false => rw [if_pos (show nI (bI false) = 0 from z0), Bool.and_false, if_neg ff, Nat.or_zero]
        | true =>
          rw [if_neg (show ¬ nI (bI true) = 0 from z1), n_shl (by omega) (by omega), n_or, Nat.one_mul]
          rfl, rfl⟩)
    (fun m c hp => ⟨_, by
      show r_X7_silence_11 f g (m + 1) (nI l) c (nI (fG F)) I L = _
      rw [hp, r_X7_silence_11, hc.1, if_pos (by simp (disch := omega) only [n_le, n_lt, n_eq, n_eq0, n_0lt, n_le0, n_lt0, n_0le, n_gvp, n_gx, n_add, n_mul, decide_eq_true_eq, Option.bind_some, if_false, if_true, not_false_eq_true, not_true_eq_false]; omega)], rfl⟩) (d := fG F) (j := 0) (N := 100) (s := nI 0) (by omega) (by omega) rfl
  obtain ⟨z, e, rfl⟩ := h
  exact e
theorem rT_lay {I I' : gII} (k : ∀ a, a ≠ 57 → a ≠ 69 → I' a = I a) (j : ∀ j, j ≠ 24 → I' 57 j = I 57 j) : rT I I' := ⟨fun a a1 _ a3 => k a a1 a3, j, fun i _ => by rw [k 63 (by decide) (by decide)]⟩
theorem isSilent_r {I : gII} {L : gLL} {F : TFen} {V : TMom} {l s : Nat} (hF : okF F) (hc : rFen I F) (hV : okM F V) (hM : rMom I 63 0 V) (hl : l < fL F) (hs : s < 2 ^ fG F) : ∃ I', r_X8_isSilent I L (nI l) (nI s) = some (nI (if sumTo (fB F) (fun b => cnt (song F (oilV V s) b l)) = 0 then 1 else 0), I', L) ∧ rT I I' := by
  have hB := hF.2.2.1
  obtain ⟨I1, e1, m1, k1, j1⟩ := trial_r (L := L) hV.2.2.2.2.2.2.2 hM
  have t1 := rT_trial k1 j1
  have m38 : I1 63 38 = nI (mi V) := m1.2.2.2.1
  have m2 : rMom (gu2 I1 63 38 (nI (mi V ||| s))) 63 27 (oilV V s) := rMom_i m1
  have t2 := rT_trans t1 (rT_put (I := I1) (k := 38) (x := nI (mi V ||| s)) (by omega))
  have hok := oilV_ok hV hs
  have hh := gloopE (fun m j (q : Nat × gII) => r_X8_isSilent_14 m (nI l) (nI q.1) (nI j) q.2 L) (fun j q => q.1 = sumTo j (fun b => cnt (song F (oilV V s) b l)) ∧ rT I q.2 ∧ rMom q.2 63 27 (oilV V s)) (fun z => ∃ I', z = (nI (if sumTo (fB F) (fun b => cnt (song F (oilV V s) b l)) = 0 then 1 else 0), I', L) ∧ rT I I') (n := fB F)
    (fun m j q hj hp => by
      have hc' := rT_fen hp.2.1 hc
      obtain ⟨I2, e2, s2, k2, j2⟩ := lay_r (L := L) (lv := 1) (row := 0) hF hc' hok hp.2.2 (by omega) (by omega) hj hl
      refine Or.inl ⟨(q.1 + cnt (song F (oilV V s) j l), I2), ?_, by rw [hp.1]; rfl, rT_trans hp.2.1 (rT_lay k2 j2), rMom_kept (k2 63 (by decide) (by decide)) hp.2.2⟩
      show r_X8_isSilent_14 (m + 1) (nI l) (nI q.1) (nI j) q.2 L = r_X8_isSilent_14 m (nI l) (nI (q.1 + cnt (song F (oilV V s) j l))) (nI (j + 1)) I2 L
      rw [r_X8_isSilent_14, hc'.2.2.1, if_neg (by simp (disch := omega) only [n_le, n_lt, n_eq, n_eq0, n_0lt, n_le0, n_lt0, n_0le, n_gvp, n_gx, n_add, n_mul, decide_eq_true_eq, Option.bind_some, if_false, if_true, not_false_eq_true, not_true_eq_false]; omega), e2]
      simp only [Option.bind_some]
      rw [loud_r (by omega) (song_le _ _ _ _) (song_len _ _ _ _) s2.2]
      simp only [Option.bind_some]
      rw [n_add, n_add])
    (fun m q hp => by
      have bd : sumTo (fB F) (fun b => cnt (song F (oilV V s) b l)) ≤ fB F * 12 := sumTo_le _ (fun i _ => Nat.le_trans (cnt_le _) (song_len _ _ _ _))
      refine ⟨_, ?_, q.2, rfl, hp.2.1⟩
      show r_X8_isSilent_14 (m + 1) (nI l) (nI q.1) (nI (fB F)) q.2 L = _
      rw [r_X8_isSilent_14, (rT_fen hp.2.1 hc).2.2.1, if_pos (by simp (disch := omega) only [n_le, n_lt, n_eq, n_eq0, n_0lt, n_le0, n_lt0, n_0le, n_gvp, n_gx, n_add, n_mul, decide_eq_true_eq, Option.bind_some, if_false, if_true, not_false_eq_true, not_true_eq_false]; omega), hp.1]
      unfold r_X8_isSilent_37
      simp (disch := omega) only [n_le, n_lt, n_eq, n_eq0, n_0lt, n_le0, n_lt0, n_0le, n_gvp, n_gx, n_add, n_mul, decide_eq_true_eq, Option.bind_some, if_false, if_true, not_false_eq_true, not_true_eq_false]
      by_cases w : sumTo (fB F) (fun b => cnt (song F (oilV V s) b l)) = 0
      · rw [if_neg (fun h => h w), if_pos w, if_pos (by decide)]
      · rw [if_pos w, if_neg w, if_pos (by decide)]) (d := fB F) (j := 0) (N := 100) (s := (0, gu2 I1 63 38 (nI (mi V ||| s)))) (by omega) (by omega) ⟨rfl, t2, m2⟩
  obtain ⟨z, e, I', rfl, t⟩ := hh
  refine ⟨I', ?_, t⟩
  unfold r_X8_isSilent
  rw [e1]
  simp only [Option.bind_some]
  rw [n_gx (by omega), m38, n_or]
  exact e
theorem sub_all : ∀ A, A < 32 → ∀ s, s < 32 → (∀ g, g < 5 → A / 2 ^ g % 2 = 1 → s / 2 ^ g % 2 = 1) → A ≤ s ∧ popn 13 A ≤ popn 13 s := by decide +kernel
theorem silent_iff {F : TFen} {V : TMom} {l s : Nat} (hF : okF F) (hl : l < fL F) : sumTo (fB F) (fun b => cnt (song F (oilV V s) b l)) = 0 ↔ ∀ g, g < 5 → silN F V l (fG F) / 2 ^ g % 2 = 1 → s / 2 ^ g % 2 = 1 := by
  have hG := hF.1
  rw [sumTo0]
  constructor
  · intro h g hg hA
    rw [silN_bit] at hA
    by_cases q : g < fG F ∧ (hasG F l g && sdN F V g (fB F)) = true
    · rw [Bool.and_eq_true] at q
      obtain ⟨b, hb, ht⟩ := (sdN_iff (fB F)).mp q.2.2
      have := song12.mp (h b hb) g q.2.1
      rw [tone_oil] at this
      by_cases w : s / 2 ^ g % 2 = 1
      · exact w
      · rw [if_neg w] at this
        exact absurd this ht
    · rw [if_neg q] at hA
      omega
  · intro h b hb
    rw [song12]
    intro g hg
    have lt := hasG_lt hF hl hg
    rw [tone_oil]
    by_cases w : s / 2 ^ g % 2 = 1
    · rw [if_pos w]
    · rw [if_neg w]
      by_cases t : tone F V g (fw F b) (fb F b) = 12
      · exact t
      · exfalso
        apply w
        apply h g (by omega)
        rw [silN_bit, if_pos ⟨lt, by rw [hg, (sdN_iff (fB F)).mpr ⟨b, hb, t⟩]; rfl⟩]
theorem m9 {k : Nat} (hk : k < 2147483648) : ¬ (nI k : Int32) = -9 := fun h => by
  have e := n_ti hk
  rw [h] at e
  have : (-9 : Int32).toInt = -9 := by decide
  omega
theorem zi0 : ((nI 0 : Int32) = 0) = True := by simp [z0]
theorem zi1 : ((nI 1 : Int32) = 0) = False := by simp [z1]
theorem sil24 {K : Int32 → Int32 → Int32 → gII → gLL → Option gRs} {I : gII} {L : gLL} {F : TFen} {V : TMom} {l s : Nat} {v2 : Int32} (hF : okF F) (hc : rFen I F) (hV : okM F V) (hM : rMom I 63 0 V) (hl : l < fL F) (hs : s < 2 ^ fG F) : ∃ I', r_X8_silence_24 K (nI l) v2 (nI s) I L = K (nI l) (if sumTo (fB F) (fun b => cnt (song F (oilV V s) b l)) = 0 then nI s else v2) (nI (s + 1)) I' L ∧ rT I I' := by
  obtain ⟨I1, e1, t1⟩ := isSilent_r (L := L) hF hc hV hM hl hs
  refine ⟨I1, ?_, t1⟩
  unfold r_X8_silence_24 r_X8_silence_38
  rw [if_neg z1, e1]
  simp only [Option.bind_some]
  rw [n_add]
  by_cases w : sumTo (fB F) (fun b => cnt (song F (oilV V s) b l)) = 0
  · rw [if_pos w, if_pos w, if_neg z1]
  · rw [if_neg w, if_neg w, if_pos z0]
theorem sil10a {m l s g : Nat} {I : gII} {L : gLL} (h : I 57 0 = nI g) (hg : g ≤ 5) (hs : s < 2 ^ g) : r_X8_silence_10 (m + 1) (nI l) (-9) (nI s) I L = r_X8_silence_24 (r_X8_silence_10 m) (nI l) (-9) (nI s) I L := by
  have p32 := pow_le5 hg
  rw [r_X8_silence_10, h, n_shl (by omega) (by omega), Nat.one_mul, if_neg (by simp (disch := omega) only [n_le, n_lt, n_eq, n_eq0, n_0lt, n_le0, n_lt0, n_0le, n_gvp, n_gx, n_add, n_mul, decide_eq_true_eq, Option.bind_some, if_false, if_true, not_false_eq_true, not_true_eq_false]; omega), if_pos rfl]
theorem sil10b {m l s g A : Nat} {I : gII} {L : gLL} (h : I 57 0 = nI g) (hg : g ≤ 5) (hs : s < 2 ^ g) (hA : A < 2 ^ g) : r_X8_silence_10 (m + 1) (nI l) (nI A) (nI s) I L = if popn 13 A ≤ popn 13 s then r_X8_silence_10 m (nI l) (nI A) (nI (s + 1)) I L else r_X8_silence_24 (r_X8_silence_10 m) (nI l) (nI A) (nI s) I L := by
  have p32 := pow_le5 hg
  have pl1 := popn_le 13 s
  have pl2 := popn_le 13 A
  have o1 : r_X8_ones I L (nI s) = some (nI (popn 13 s), I, L) := ones_r (by omega)
  have o2 : r_X8_ones I L (nI A) = some (nI (popn 13 A), I, L) := ones_r (by omega)
  generalize popn 13 s = ps at o1 pl1
  generalize popn 13 A = pa at o2 pl2
  rw [r_X8_silence_10, h, n_shl (by omega) (by omega), Nat.one_mul, if_neg (by simp (disch := omega) only [n_le, n_lt, n_eq, n_eq0, n_0lt, n_le0, n_lt0, n_0le, n_gvp, n_gx, n_add, n_mul, decide_eq_true_eq, Option.bind_some, if_false, if_true, not_false_eq_true, not_true_eq_false]; omega), if_neg (m9 (by omega)), o1, Option.bind_some, o2, Option.bind_some]
  unfold r_X8_silence_38
  rw [if_pos z0, n_add]
  by_cases q : pa ≤ ps
  · rw [if_pos (show nI pa ≤ nI ps by rw [n_le (by omega) (by omega)]; exact q), if_pos q]
  · rw [if_neg (show ¬ nI pa ≤ nI ps by rw [n_le (by omega) (by omega)]; exact q), if_neg q]
theorem silence10_r {I : gII} {L : gLL} {F : TFen} {V : TMom} {l : Nat} (hF : okF F) (hc : rFen I F) (hV : okM F V) (hM : rMom I 63 0 V) (hl : l < fL F) : ∃ I', r_X8_silence_10 100 (nI l) (-9) (nI 0) I L = some (nI (silN F V l (fG F)), I', L) ∧ rT I I' := by
  have hG := hF.1
  have p32 := pow_le5 hG
  have hA := silN_lt F V l (fG F)
  have hml := hV.2.2.2.2.2.2.2
  have hh := gloopE (fun m j (q : Int32 × gII) => r_X8_silence_10 m (nI l) q.1 (nI j) q.2 L) (fun j q => (j ≤ silN F V l (fG F) → q.1 = -9) ∧ (silN F V l (fG F) < j → q.1 = nI (silN F V l (fG F))) ∧ rT I q.2) (fun z => ∃ I', z = (nI (silN F V l (fG F)), I', L) ∧ rT I I') (n := 2 ^ fG F)
    (fun m j q hj hp => by
      have hc' := rT_fen hp.2.2 hc
      have hM' := rT_mom0 hml hp.2.2 hM
      by_cases q1 : j ≤ silN F V l (fG F)
      · obtain ⟨I1, e1, t1⟩ := sil24 (K := r_X8_silence_10 m) (L := L) (v2 := -9) hF hc' hV hM' hl hj
        have tt := rT_trans hp.2.2 t1
        have run := (sil10a (m := m) (l := l) (L := L) hc'.1 hG hj).trans e1
        by_cases q2 : j = silN F V l (fG F)
        · have w : sumTo (fB F) (fun b => cnt (song F (oilV V j) b l)) = 0 := (silent_iff hF hl).mpr (fun g _ h => by rw [q2]; exact h)
          rw [if_pos w] at run
          refine Or.inl ⟨(nI j, I1), ?_, fun h => by omega, fun _ => congrArg nI q2, tt⟩
          show r_X8_silence_10 (m + 1) (nI l) q.1 (nI j) q.2 L = _
          rw [hp.1 q1]
          exact run
        · have w : ¬ sumTo (fB F) (fun b => cnt (song F (oilV V j) b l)) = 0 := fun h => by
            have := (sub_all _ (by omega) j (by omega) ((silent_iff hF hl).mp h)).1
            omega
          rw [if_neg w] at run
          refine Or.inl ⟨(-9, I1), ?_, fun _ => rfl, fun h => by omega, tt⟩
          show r_X8_silence_10 (m + 1) (nI l) q.1 (nI j) q.2 L = _
          rw [hp.1 q1]
          exact run
      · have q1' : silN F V l (fG F) < j := by omega
        obtain ⟨I1, e1, t1⟩ := sil24 (K := r_X8_silence_10 m) (L := L) (v2 := nI (silN F V l (fG F))) hF hc' hV hM' hl hj
        have tt := rT_trans hp.2.2 t1
        have run := sil10b (m := m) (l := l) (L := L) hc'.1 hG hj hA
        by_cases q2 : popn 13 (silN F V l (fG F)) ≤ popn 13 j
        · rw [if_pos q2] at run
          refine Or.inl ⟨(nI (silN F V l (fG F)), q.2), ?_, fun h => by omega, fun _ => rfl, hp.2.2⟩
          show r_X8_silence_10 (m + 1) (nI l) q.1 (nI j) q.2 L = _
          rw [hp.2.1 q1']
          exact run
        · have w : ¬ sumTo (fB F) (fun b => cnt (song F (oilV V j) b l)) = 0 := fun h => by
            have := (sub_all _ (by omega) j (by omega) ((silent_iff hF hl).mp h)).2
            omega
          rw [if_neg q2, e1, if_neg w] at run
          refine Or.inl ⟨(nI (silN F V l (fG F)), I1), ?_, fun h => by omega, fun _ => rfl, tt⟩
          show r_X8_silence_10 (m + 1) (nI l) q.1 (nI j) q.2 L = _
          rw [hp.2.1 q1']
          exact run)
    (fun m q hp => by
      refine ⟨(nI (silN F V l (fG F)), q.2, L), ?_, q.2, rfl, hp.2.2⟩
      show r_X8_silence_10 (m + 1) (nI l) q.1 (nI (2 ^ fG F)) q.2 L = _
      rw [hp.2.1 hA, r_X8_silence_10, (rT_fen hp.2.2 hc).1, n_shl (by omega) (by omega), Nat.one_mul, if_pos (by simp (disch := omega) only [n_le, n_lt, n_eq, n_eq0, n_0lt, n_le0, n_lt0, n_0le, n_gvp, n_gx, n_add, n_mul, decide_eq_true_eq, Option.bind_some, if_false, if_true, not_false_eq_true, not_true_eq_false]; omega)]) (d := 2 ^ fG F) (j := 0) (N := 100) (s := (-9, I)) (by omega) (by omega) ⟨fun _ => rfl, fun h => absurd h (Nat.not_lt_zero _), rT_refl⟩
  obtain ⟨z, e, I', rfl, t⟩ := hh
  exact ⟨I', e, t⟩
theorem ag_silence (x : Int32) : mAg (fun f g I L => r_X7_silence f g I L x) (fun I L => r_X8_silence I L x) := by
  refine mAg_ask (fun f g I L z hw e a q => w_X7_silence id e) (fun S hS => ?_)
  have hF := hS.2.1
  have hV := hS.2.2.1
  have hL := hF.2.1
  rcases inb_cases x (n := fL (sF S)) (by omega) with e | ⟨l, hl, rfl, e⟩
  · refine ⟨-1, fun f g I L hw hc => ⟨I, L, ?_⟩, fun I L hr => ⟨I, L, ?_, rSame_refl⟩⟩
    · show r_X7_silence f g I L x = _
      unfold r_X7_silence
      rw [isLane_c hc.2.1, e, if_neg zn0]
    · show r_X8_silence I L x = _
      unfold r_X8_silence
      rw [isLane_m hF hr.2.1, Option.bind_some, e, if_neg zn0]
  · refine ⟨nI (silN (sF S) (sV S) l (fG (sF S))), fun f g I L hw hc => ⟨I, L, ?_⟩, fun I L hr => ?_⟩
    · show r_X7_silence f g I L (nI l) = _
      unfold r_X7_silence
      rw [isLane_c hc.2.1, e, if_pos z1]
      exact silence11_c hF hc.2.1 hV hc.2.2.1 hl
    · show ∃ I' L', r_X8_silence I L (nI l) = _ ∧ _
      obtain ⟨I', e2, t⟩ := silence10_r (L := L) hF hr.2.1 hV hr.2.2.1 hl
      refine ⟨I', L, ?_, rT_same t⟩
      unfold r_X8_silence
      rw [isLane_m hF hr.2.1, Option.bind_some, e, if_pos z1]
      exact e2
