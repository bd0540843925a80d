/-! what is SUNG and a drive, in the reference -/
theorem rMom_sung {I I' : gII} {B t : Nat} {V : TMom} (hM : rMom I 63 B V) (h : ∀ j, B ≤ j → j < B + 14 → I' 63 j = I 63 j) (h14 : I' 63 (B + 14) = nI (ms (addS V t)).length) (hs : ∀ j, j < (ms (addS V t)).length → I' 63 (B + 15 + j) = nI ((ms (addS V t)).getD ((ms (addS V t)).length - 1 - j) 0)) : rMom I' 63 B (addS V t) := by
  obtain ⟨r0, r5, r10, r11, r12, r13, r14, rs⟩ := hM
  exact ⟨fun k hk => (h _ (by omega) (by omega)).trans (r0 k hk), fun k hk => (h _ (by omega) (by omega)).trans (r5 k hk), (h _ (by omega) (by omega)).trans r10, (h _ (by omega) (by omega)).trans r11, (h _ (by omega) (by omega)).trans r12, (h _ (by omega) (by omega)).trans r13, h14, hs⟩
theorem shift_r {t B k : Nat} {L : gLL} (hB : B ≤ 27) : ∀ {d j : Nat} {I : gII}, j + d = 11 → ∃ I1, r_X8_addSung_14 (d + (k + 1)) (nI t) (nI B) (nI j) I L = r_X8_addSung_14 (k + 1) (nI t) (nI B) (nI 11) I1 L ∧ (∀ i, j ≤ i → i < 11 → I1 63 (B + 15 + i) = I 63 (B + 15 + i + 1)) ∧ (∀ i, ¬ (B + 15 + j ≤ i ∧ i < B + 26) → I1 63 i = I 63 i) ∧ ∀ a, a ≠ 63 → I1 a = I a := by
  intro d
  induction d with
  | zero =>
    intro j I hj
    have hj : j = 11 := hj
    subst hj
    exact ⟨I, by rw [Nat.zero_add], fun i h1 h2 => by omega, fun i _ => rfl, fun a _ => rfl⟩
  | succ d ih =>
    intro j I hj
    obtain ⟨I1, e, h1, h2, h3⟩ := ih (j := j + 1) (I := gu2 I 63 (B + 15 + j) (I 63 (B + 15 + j + 1))) (by omega)
    refine ⟨I1, ?_, ?_, ?_, fun a ha => (h3 a ha).trans (gu2_other ha)⟩
    · rw [show d + 1 + (k + 1) = (d + (k + 1)) + 1 by omega, r_X8_addSung_14]
      simp (disch := omega) only [n_le, n_add, n_gvp, n_gx, decide_eq_true_eq]
      rw [if_neg (by omega), if_pos (by omega), if_pos (by omega)]
      exact e
    · intro i q1 q2
      by_cases hi : i = j
      · subst hi
        rw [h2 _ (by omega), gu2_self, if_pos rfl]
      · rw [h1 i (by omega) q2, gu2_self, if_neg (by omega)]
    · intro i q
      rw [h2 i (by omega), gu2_self, if_neg (by omega)]
theorem addSung_r {I : gII} {L : gLL} {F : TFen} {V : TMom} {lv t : Nat} (hlv : lv < 2) (hV : okM F V) (hM : rMom I 63 (27 * lv) V) : ∃ I', r_X8_addSung I L (nI lv) (nI t) = some (0, I', L) ∧ rMom I' 63 (27 * lv) (addS V t) ∧ (∀ a, a ≠ 63 → I' a = I a) ∧ ∀ j, ¬ (27 * lv + 14 ≤ j ∧ j < 27 * lv + 27) → I' 63 j = I 63 j := by
  have hlen := hV.2.2.2.2.2.2.2
  have hl2 := addS_len V t hlen
  have r14 := hM.2.2.2.2.2.2.1
  have rs := hM.2.2.2.2.2.2.2
  have h1 : 27 * lv + 14 < 54 := by omega
  by_cases hn : (ms V).length = 12
  · obtain ⟨I1, e, q1, q2, q3⟩ := shift_r (t := t) (k := 88) (L := L) (B := 27 * lv) (by omega) (d := 11) (j := 0) (I := I) rfl
    have e : r_X8_addSung_14 100 (nI t) (nI (27 * lv)) (nI 0) I L = r_X8_addSung_14 89 (nI t) (nI (27 * lv)) (nI 11) I1 L := e
    have v : ∀ j, gu2 (gu2 (gu2 I1 63 (27 * lv + 14) (nI 11)) 63 (27 * lv + 26) (nI t)) 63 (27 * lv + 14) (nI 12) 63 j = if j = 27 * lv + 14 then nI 12 else if j = 27 * lv + 26 then nI t else I1 63 j := fun j => by
      simp only [gu2_self]
      split
      · rfl
      · split
        · rfl
        · rfl
    refine ⟨gu2 (gu2 (gu2 I1 63 (27 * lv + 14) (nI 11)) 63 (27 * lv + 26) (nI t)) 63 (27 * lv + 14) (nI 12), ?_, rMom_sung hM ?_ ?_ ?_, ?_, ?_⟩
    · unfold r_X8_addSung
      simp (disch := omega) only [n_mul, n_add, n_gvp, n_gx, decide_eq_true_eq, r14, n_eq]
      rw [if_pos h1, if_neg (by omega), e, r_X8_addSung_14]
      have h2 : 27 * lv + 15 + 11 < 54 := by omega
      have h3 : ¬ 27 * lv + 14 = 27 * lv + 15 + 11 := by omega
      simp (disch := omega) only [n_le, n_add, n_gvp, n_gx, decide_eq_true_eq, h1, if_true, gu2_self, h2, h3, if_false, Nat.le_refl]
    · intro j a1 a2
      rw [v j, if_neg (by omega), if_neg (by omega), q2 j (by omega)]
    · rw [v, if_pos rfl, hl2, hn]
      rfl
    · intro j hj
      rw [hl2, hn] at hj ⊢
      have hj : j < 12 := hj
      show _ = nI (((t :: ms V).take 12).getD (min (12 + 1) 12 - 1 - j) 0)
      rw [take_getD (by omega), v, if_neg (by omega)]
      by_cases h11 : j = 11
      · subst h11
        rw [if_pos (by omega)]
        rfl
      · rw [if_neg (by omega), q1 j (by omega) (by omega), show 27 * lv + 15 + j + 1 = 27 * lv + 15 + (j + 1) by omega, rs (j + 1) (by omega), hn, show min (12 + 1) 12 - 1 - j = (12 - 1 - (j + 1)) + 1 by omega]
        rfl
    · intro a ha
      rw [gu2_other ha, gu2_other ha, gu2_other ha, q3 a ha]
    · intro j hj
      rw [v j, if_neg (by omega), if_neg (by omega), q2 j (by omega)]
  · have v : ∀ j, gu2 (gu2 I 63 (27 * lv + 15 + (ms V).length) (nI t)) 63 (27 * lv + 14) (nI ((ms V).length + 1)) 63 j = if j = 27 * lv + 14 then nI ((ms V).length + 1) else if j = 27 * lv + 15 + (ms V).length then nI t else I 63 j := fun j => by
      simp only [gu2_self]
    refine ⟨gu2 (gu2 I 63 (27 * lv + 15 + (ms V).length) (nI t)) 63 (27 * lv + 14) (nI ((ms V).length + 1)), ?_, rMom_sung hM ?_ ?_ ?_, ?_, ?_⟩
    · unfold r_X8_addSung
      have h2 : 27 * lv + 15 + (ms V).length < 54 := by omega
      have h3 : ¬ 27 * lv + 14 = 27 * lv + 15 + (ms V).length := by omega
      simp (disch := omega) only [n_mul, n_add, n_gvp, n_gx, decide_eq_true_eq, r14, n_eq, gu2_self, h1, h2, h3, if_true, if_false, hn, not_false_eq_true]
    · intro j a1 a2
      rw [v j, if_neg (by omega), if_neg (by omega)]
    · rw [v, if_pos rfl, hl2]
      congr 1
      omega
    · intro j hj
      rw [hl2] at hj ⊢
      show _ = nI (((t :: ms V).take 12).getD (min ((ms V).length + 1) 12 - 1 - j) 0)
      rw [take_getD (by omega), v, if_neg (by omega)]
      by_cases h11 : j = (ms V).length
      · rw [if_pos (by omega), show min ((ms V).length + 1) 12 - 1 - j = 0 by omega]
        rfl
      · rw [if_neg (by omega), rs j (by omega), show min ((ms V).length + 1) 12 - 1 - j = ((ms V).length - 1 - j) + 1 by omega]
        rfl
    · intro a ha
      rw [gu2_other ha, gu2_other ha]
    · intro j hj
      rw [v j, if_neg (by omega), if_neg (by omega)]
theorem drive13 {F : TFen} {lv n k : Nat} {v2 v3 v4 : Int32} {L : gLL} (hlv : lv < 2) : ∀ {ys : List Nat} {j : Nat} {I : gII} {V : TMom}, okM F V → rMom I 63 (27 * lv) V → (∀ t ∈ ys, t ≤ 12) → j + ys.length = n → n ≤ 12 → (∀ i, i < ys.length → I 69 (j + i) = nI (ys.getD i 0)) →
    ∃ I', r_X8_driveOn_13 (ys.length + 1 + k) (nI lv) v2 v3 v4 (nI n) (nI j) I L = r_X8_driveOn_27 100 v2 v3 v4 (nI n) (nI 0) I' L ∧ rMom I' 63 (27 * lv) (singS V ys) ∧ (∀ a, a ≠ 63 → I' a = I a) ∧ ∀ j, ¬ (27 * lv ≤ j ∧ j < 27 * lv + 27) → I' 63 j = I 63 j := by
  intro ys
  induction ys with
  | nil =>
    intro j I V hV hM _ hj hn _
    have hj : j = n := hj
    refine ⟨I, ?_, hM, fun a _ => rfl, fun j _ => rfl⟩
    rw [show ([] : List Nat).length + 1 + k = k + 1 by simp; omega, r_X8_driveOn_13]
    simp (disch := omega) only [n_le]
    rw [if_pos (by omega)]
  | cons t ys ih =>
    intro j I V hV hM ht hj hn e2
    have hj' : j + (ys.length + 1) = n := hj
    have e20 : I 69 j = nI t := e2 0 (by simp)
    have t12 := ht t (List.mem_cons_self ..)
    obtain ⟨I1, e1, m1, k1, j1⟩ := addSung_r (L := L) (t := t) hlv hV hM
    obtain ⟨I', r, c, kk, jj⟩ := ih (j := j + 1) (I := I1) (V := addS V t) (addS_ok hV t12) m1 (fun u hu => ht u (List.mem_cons_of_mem _ hu)) (by omega) hn (fun i hi => by
      rw [k1 69 (by decide), show j + 1 + i = j + (i + 1) by omega, e2 (i + 1) (by simpa using hi)]
      rfl)
    refine ⟨I', ?_, c, fun a ha => (kk a ha).trans (k1 a ha), fun i hi => (jj i hi).trans (j1 i (by omega))⟩
    rw [show (t :: ys).length + 1 + k = (ys.length + 1 + k) + 1 by simp; omega, r_X8_driveOn_13]
    simp (disch := omega) only [n_le, n_gvp, n_gx, n_add, decide_eq_true_eq]
    rw [if_neg (by omega), if_pos (by omega), e20, e1]
    exact r
/-- how many of them are no silence -/
def cnt : List Nat → Nat
  | [] => 0
  | t :: ts => (if t = 12 then 0 else 1) + cnt ts
theorem cnt_le : ∀ (xs : List Nat), cnt xs ≤ xs.length
  | [] => Nat.le_refl 0
  | t :: ts => by
    have := cnt_le ts
    show (if t = 12 then 0 else 1) + cnt ts ≤ ts.length + 1
    split <;> omega
theorem loud4 {row n k : Nat} {I : gII} {L : gLL} (hrow : row < 2) : ∀ {ys : List Nat} {j c : Nat}, (∀ t ∈ ys, t ≤ 12) → j + ys.length = n → n ≤ 12 → c ≤ j → (∀ i, i < ys.length → I 69 (12 * row + (j + i)) = nI (ys.getD i 0)) →
    r_X8_loud_4 (ys.length + 1 + k) (nI row) (nI n) (nI c) (nI j) I L = some (nI (c + cnt ys), I, L) := by
  intro ys
  induction ys with
  | nil =>
    intro j c _ hj hn _ _
    have hj : j = n := hj
    rw [show ([] : List Nat).length + 1 + k = k + 1 by simp; omega, r_X8_loud_4]
    simp (disch := omega) only [n_le]
    rw [if_pos (by omega)]
    rfl
  | cons t ys ih =>
    intro j c ht hj hn hc e2
    have hj' : j + (ys.length + 1) = n := hj
    have e20 : I 69 (12 * row + j) = nI t := e2 0 (by simp)
    have t12 := ht t (List.mem_cons_self ..)
    have nx : ∀ c', c' ≤ j + 1 → r_X8_loud_4 (ys.length + 1 + k) (nI row) (nI n) (nI c') (nI (j + 1)) I L = some (nI (c' + cnt ys), I, L) := fun c' hc' => ih (fun u hu => ht u (List.mem_cons_of_mem _ hu)) (by omega) hn hc' (fun i hi => by
      rw [show j + 1 + i = j + (i + 1) by omega, e2 (i + 1) (by simpa using hi)]
      rfl)
    rw [show (t :: ys).length + 1 + k = (ys.length + 1 + k) + 1 by simp; omega, r_X8_loud_4]
    unfold r_X8_loud_21
    simp (disch := omega) only [n_le, n_gvp, n_gx, n_add, n_mul, decide_eq_true_eq, e20, n_eq]
    rw [if_neg (by omega), if_pos (by omega)]
    show _ = some (nI (c + ((if t = 12 then 0 else 1) + cnt ys)), I, L)
    by_cases h : t = 12
    · rw [if_neg (by omega), nx _ (by omega), if_pos h]
      congr 3
      omega
    · rw [if_pos h, nx _ (by omega), if_neg h]
      congr 3
      omega
theorem loud_r {row : Nat} {I : gII} {L : gLL} {xs : List Nat} (hrow : row < 2) (ht : ∀ t ∈ xs, t ≤ 12) (hn : xs.length ≤ 12) (h : ∀ j, j < xs.length → I 69 (12 * row + j) = nI (xs.getD j 0)) : r_X8_loud I L (nI row) (nI xs.length) = some (nI (cnt xs), I, L) := by
  have e := loud4 (k := 99 - xs.length) (L := L) (j := 0) (c := 0) (n := xs.length) hrow ht (by omega) hn (by omega) (fun i hi => by rw [Nat.zero_add]; exact h i hi)
  rw [show xs.length + 1 + (99 - xs.length) = 100 by omega, Nat.zero_add] at e
  exact e
theorem rMom_pass {I : gII} {B g : Nat} {V : TMom} (hg : g < 5) (hM : rMom I 63 B V) : rMom (gu2 I 63 (B + 5 + g) (nI (if mp V g < 3 then mp V g + 1 else mp V g))) 63 B (passS V g) := by
  obtain ⟨r0, r5, r10, r11, r12, r13, r14, rs⟩ := hM
  have o : ∀ j, ¬ j = B + 5 + g → gu2 I 63 (B + 5 + g) (nI (if mp V g < 3 then mp V g + 1 else mp V g)) 63 j = I 63 j := fun j hj => by rw [gu2_self, if_neg hj]
  refine ⟨fun k hk => (o _ (by omega)).trans (r0 k hk), fun k hk => ?_, (o _ (by omega)).trans r10, (o _ (by omega)).trans r11, (o _ (by omega)).trans r12, (o _ (by omega)).trans r13, (o _ (by omega)).trans r14, fun j hj => (o _ (by omega)).trans (rs j hj)⟩
  show _ = nI (if k = g then (if mp V g < 3 then mp V g + 1 else mp V g) else mp V k)
  by_cases h : k = g
  · subst h
    rw [gu2_self, if_pos rfl, if_pos rfl]
  · rw [if_neg h, o _ (by omega), r5 k hk]
theorem drive27 {F : TFen} {lv i l k : Nat} {v2 v5 : Int32} {I : gII} {L : gLL} {V : TMom} (hlv : lv < 2) (hF : okF F) (hl : l < fL F) (hi : i < 3) (e3 : ∀ j, j < 3 * fL F → I 59 j = nI (fl F j)) (hV : okM F V) (hM : rMom I 63 (27 * lv) V) :
    ∃ I', r_X8_driveOn_27 (k + 1) v2 (nI l) (nI (27 * lv)) v5 (nI i) I L = r_X8_driveOn_27 k v2 (nI l) (nI (27 * lv)) v5 (nI (i + 1)) I' L ∧ rMom I' 63 (27 * lv) (passS V (fl F (3 * l + i))) ∧ (∀ a, a ≠ 63 → I' a = I a) ∧ ∀ j, ¬ (27 * lv ≤ j ∧ j < 27 * lv + 27) → I' 63 j = I 63 j := by
  have hL := hF.2.1
  have hlt := hF.2.2.2.2.2.1 (3 * l + i) (by omega)
  have hG := hF.1
  have e59 := e3 (3 * l + i) (by omega)
  have hp := hV.2.1 (fl F (3 * l + i)) (by omega)
  have ep := hM.2.1 (fl F (3 * l + i)) (by omega)
  refine ⟨_, ?_, rMom_pass (by omega) hM, fun a ha => gu2_other ha, fun j hj => by rw [gu2_self, if_neg (by omega)]⟩
  rw [r_X8_driveOn_27]
  unfold r_X8_driveOn_57
  simp (disch := omega) only [n_le, n_mul, n_gvp, n_gx, n_add, decide_eq_true_eq, e59, ep]
  have h9 : 3 * l + i < 9 := by omega
  have h54 : 27 * lv + 5 + fl F (3 * l + i) < 54 := by omega
  rw [if_neg (by omega)]
  simp only [h9, h54, if_true]
  by_cases h : mp V (fl F (3 * l + i)) < 3
  · rw [if_neg (by omega), if_pos h]
  · rw [if_pos (by omega), if_neg h]
    rfl
theorem rMom_home {I : gII} {B b : Nat} {V : TMom} (hM : rMom I 63 B V) : rMom (gu2 I 63 (B + 12) (nI (mh V ||| 2 ^ b))) 63 B (homeS V b) := by
  obtain ⟨r0, r5, r10, r11, r12, r13, r14, rs⟩ := hM
  have o : ∀ j, ¬ j = B + 12 → gu2 I 63 (B + 12) (nI (mh V ||| 2 ^ b)) 63 j = I 63 j := fun j hj => by rw [gu2_self, if_neg hj]
  exact ⟨fun k hk => (o _ (by omega)).trans (r0 k hk), fun k hk => (o _ (by omega)).trans (r5 k hk), (o _ (by omega)).trans r10, (o _ (by omega)).trans r11, by rw [gu2_self, if_pos rfl]; rfl, (o _ (by omega)).trans r13, (o _ (by omega)).trans r14, fun j hj => (o _ (by omega)).trans (rs j hj)⟩
theorem driveOn_r {I : gII} {L : gLL} {F : TFen} {V : TMom} {lv b l : Nat} (hlv : lv < 2) (hF : okF F) (hc : rFen I F) (hV : okM F V) (hM : rMom I 63 (27 * lv) V) (hb : b < fB F) (hl : l < fL F) :
    ∃ I', r_X8_driveOn I L (nI lv) (nI b) (nI l) = some (nI (cnt (song F V b l)), I', L) ∧ rMom I' 63 (27 * lv) (driveS F V b l) ∧ rSong I' 0 (song F V b l) ∧ (∀ a, a ≠ 57 → a ≠ 63 → a ≠ 69 → I' a = I a) ∧ (∀ j, j ≠ 24 → I' 57 j = I 57 j) ∧ ∀ j, ¬ (27 * lv ≤ j ∧ j < 27 * lv + 27) → I' 63 j = I 63 j := by
  have hle := song_le F V b l
  have hlen := song_len F V b l
  obtain ⟨I1, e1, s1, k1, j1⟩ := lay_r (L := L) (row := 0) hF hc hV hM hlv (by omega) hb hl
  have hM1 : rMom I1 63 (27 * lv) V := rMom_kept (k1 63 (by decide) (by decide)) hM
  obtain ⟨I2, e2, c2, k2, j2⟩ := drive13 (F := F) (k := 99 - (song F V b l).length) (v2 := nI b) (v3 := nI l) (v4 := nI (27 * lv)) (n := (song F V b l).length) (L := L) hlv (ys := song F V b l) (j := 0) hV hM1 hle (by omega) hlen (fun i hi => by
    have := s1.2 i hi
    rw [Nat.mul_zero, Nat.zero_add] at this
    rw [Nat.zero_add]
    exact this)
  rw [show (song F V b l).length + 1 + (99 - (song F V b l).length) = 100 by omega] at e2
  have l2 : ∀ j, j < 3 * fL F → I2 59 j = nI (fl F j) := fun j hj => by
    rw [k2 59 (by decide), k1 59 (by decide) (by decide)]
    exact hc.2.2.2.2.2.1 j hj
  have ok2 := singS_ok hV hle
  obtain ⟨I3, e3, c3, k3, j3⟩ := drive27 (i := 0) (k := 99) (v2 := nI b) (v5 := nI (song F V b l).length) (L := L) hlv hF hl (by omega) l2 ok2 c2
  have l3 : ∀ j, j < 3 * fL F → I3 59 j = nI (fl F j) := fun j hj => by
    rw [k3 59 (by decide)]
    exact l2 j hj
  obtain ⟨I4, e4, c4, k4, j4⟩ := drive27 (i := 1) (k := 98) (v2 := nI b) (v5 := nI (song F V b l).length) (L := L) hlv hF hl (by omega) l3 (passS_ok ok2) c3
  have l4 : ∀ j, j < 3 * fL F → I4 59 j = nI (fl F j) := fun j hj => by
    rw [k4 59 (by decide)]
    exact l3 j hj
  obtain ⟨I5, e5, c5, k5, j5⟩ := drive27 (i := 2) (k := 97) (v2 := nI b) (v5 := nI (song F V b l).length) (L := L) hlv hF hl (by omega) l4 (passS_ok (passS_ok ok2)) c4
  have c5 : rMom I5 63 (27 * lv) (passL F (singS V (song F V b l)) l) := c5
  have kk : ∀ a, a ≠ 63 → I5 a = I1 a := fun a ha => (k5 a ha).trans ((k4 a ha).trans ((k3 a ha).trans (k2 a ha)))
  have hB := hF.2.2.1
  have h2 : 2 ^ b ≤ 32 := pow_le5 (by omega)
  have c6 := rMom_home (b := b) c5
  have e12 := c5.2.2.2.2.1
  have s6 : rSong (gu2 I5 63 (27 * lv + 12) (nI (mh (passL F (singS V (song F V b l)) l) ||| 2 ^ b))) 0 (song F V b l) := ⟨by rw [gu2_other (by decide), kk 57 (by decide)]; exact s1.1, fun j hj => by rw [gu2_other (by decide), kk 69 (by decide)]; exact s1.2 j hj⟩
  refine ⟨_, ?_, c6, s6, fun a a1 a2 a3 => (gu2_other a2).trans ((kk a a2).trans (k1 a a1 a3)), fun j hj => by rw [gu2_other (by decide), kk 57 (by decide)]; exact j1 j hj, fun j hj => ?_⟩
  · unfold r_X8_driveOn
    rw [e1]
    show r_X8_driveOn_13 100 (nI lv) (nI b) (nI l) (nI 27 * nI lv) (nI (song F V b l).length) (nI 0) I1 L = _
    rw [n_mul, e2, e3, e4, e5, r_X8_driveOn_27]
    have h54 : 27 * lv + 12 < 54 := by omega
    simp (disch := omega) only [n_le, n_add, n_gvp, n_gx, decide_eq_true_eq, h54, if_true, e12, n_shl, n_or, Nat.one_mul]
    rw [if_pos (by omega), loud_r (by omega) hle hlen s6.2]
    rfl
  · rw [gu2_self, if_neg (by omega), j5 j hj, j4 j hj, j3 j hj, j2 j hj, k1 63 (by decide) (by decide)]
theorem count4 {s n k : Nat} {I : gII} {L : gLL} (h1 : I s 1 = nI n) : ∀ {ys : List Nat} {j c : Nat}, (∀ t ∈ ys, t ≤ 12) → j + ys.length = n → n ≤ 12 → c ≤ j → (∀ i, i < ys.length → I (s + 1) (j + i) = nI (ys.getD i 0)) →
    r_X6_toneCount_4 s (ys.length + 1 + k) (nI c) (nI j) I L = some (nI (c + cnt ys), I, L) := by
  intro ys
  induction ys with
  | nil =>
    intro j c _ hj hn _ _
    have hj : j = n := hj
    rw [show ([] : List Nat).length + 1 + k = k + 1 by simp; omega, r_X6_toneCount_4, h1]
    simp (disch := omega) only [n_le]
    rw [if_pos (by omega)]
    rfl
  | cons t ys ih =>
    intro j c ht hj hn hc e2
    have hj' : j + (ys.length + 1) = n := hj
    have e20 : I (s + 1) j = nI t := e2 0 (by simp)
    have t12 := ht t (List.mem_cons_self ..)
    have nx : ∀ c', c' ≤ j + 1 → r_X6_toneCount_4 s (ys.length + 1 + k) (nI c') (nI (j + 1)) I L = some (nI (c' + cnt ys), I, L) := fun c' hc' => ih (fun u hu => ht u (List.mem_cons_of_mem _ hu)) (by omega) hn hc' (fun i hi => by
      rw [show j + 1 + i = j + (i + 1) by omega, e2 (i + 1) (by simpa using hi)]
      rfl)
    rw [show (t :: ys).length + 1 + k = (ys.length + 1 + k) + 1 by simp; omega, r_X6_toneCount_4, h1]
    unfold r_X6_toneCount_18
    simp (disch := omega) only [n_le, n_gvp, n_gx, n_add, n_mul, decide_eq_true_eq, e20, n_eq]
    rw [if_neg (by omega), if_pos (by omega)]
    show _ = some (nI (c + ((if t = 12 then 0 else 1) + cnt ys)), I, L)
    by_cases h : t = 12
    · rw [if_pos h, nx _ (by omega), if_pos h]
      congr 3
      omega
    · rw [if_neg h, nx _ (by omega), if_neg h]
      congr 3
      omega
theorem count_c {s : Nat} {I : gII} {L : gLL} {xs : List Nat} (ht : ∀ t ∈ xs, t ≤ 12) (hn : xs.length ≤ 12) (h : cSong I s xs) : r_X6_toneCount I L s = some (nI (cnt xs), I, L) := by
  have e := count4 (k := 99 - xs.length) (L := L) (j := 0) (c := 0) (n := xs.length) h.1 ht (by omega) hn (by omega) (fun i hi => by rw [Nat.zero_add]; exact h.2 i hi)
  rw [show xs.length + 1 + (99 - xs.length) = 100 by omega, Nat.zero_add] at e
  exact e
