/-! ACTS: the Moments that were, newest first -/
theorem become_c {I : gII} {L : gLL} {V : TMom} {m m2 : Nat} (h : cMom I L m2 V) : cMom (i_X4_become I L m m2) (l_X4_become I L m m2) m V := by
  obtain ⟨m0, m1, m2', m3, m4, m5, m7, S, mS, hS1, hS2⟩ := h
  by_cases e : m = m2
  · subst e
    unfold i_X4_become l_X4_become
    refine ⟨?_, ?_, ?_, ?_, ?_, ?_, ?_, S, ?_, hS1, hS2⟩ <;> simp [gu2, *]
  · have e2 : ¬ m2 = m := fun q => e q.symm
    unfold i_X4_become l_X4_become
    refine ⟨?_, ?_, ?_, ?_, ?_, ?_, ?_, S, ?_, hS1, hS2⟩ <;> simp [gu2, *]
/-- the class holds As (newest first) in its ring -/
def cActs (I : gII) (L : gLL) (As : List TMom) : Prop := As.length ≤ 14 ∧ I 20 2 = nI As.length ∧ ∃ p, p < 14 ∧ I 20 1 = nI p ∧ ∀ j V, As[j]? = some V → cMom I L (22 + (p + As.length - 1 - j) % 14) V
theorem addAct_c {I : gII} {L : gLL} {V : TMom} {As : List TMom} (h : cActs I L As) (hM : cMom I L 18 V) : ∃ I' L', r_X0_add I L 18 = some (0, I', L') ∧ cActs I' L' ((V :: As).take 14) ∧ ∀ a, a ≠ 20 → ¬ (22 ≤ a ∧ a < 36) → I' a = I a ∧ L' a = L a := by
  obtain ⟨hl, h2, p, hp, h1, hA⟩ := h
  have hq : (p + As.length) % 14 < 14 := Nat.mod_lt _ (by decide)
  have b := become_c (m := 22 + (p + As.length) % 14) hM
  have k20 : i_X4_become I L (22 + (p + As.length) % 14) 18 20 = I 20 := wi_X4_become (by omega)
  have hr : r_X0_add I L 18 = some (0, (if 14 ≤ As.length then gu2 (i_X4_become I L (22 + (p + As.length) % 14) 18) 20 1 (nI ((p + 1) % 14)) else gu2 (i_X4_become I L (22 + (p + As.length) % 14) 18) 20 2 (nI (As.length + 1))), l_X4_become I L (22 + (p + As.length) % 14) 18) := by
    unfold r_X0_add
    rw [h1, h2, n_add, n_rem (by omega) (by omega) (by omega), n_gvp (by omega), n_gx (by omega), if_pos (by simpa using hq), k20, h1, h2, n_add, n_add, n_rem (by omega) (by omega) (by omega)]
    simp (disch := omega) only [n_le]
  have old : ∀ j W, j < 13 → As[j]? = some W → cMom (i_X4_become I L (22 + (p + As.length) % 14) 18) (l_X4_become I L (22 + (p + As.length) % 14) 18) (22 + (p + As.length - 1 - j) % 14) W := fun j W hj hW => by
    have hjl : j < As.length := (List.getElem?_eq_some_iff.mp hW).1
    exact cMom_kept (wi_X4_become (by omega)) (wl_X4_become (by omega)) (hA j W hW)
  by_cases hc : 14 ≤ As.length
  · rw [if_pos hc] at hr
    refine ⟨_, _, hr, ⟨by simp; omega, ?_, (p + 1) % 14, Nat.mod_lt _ (by decide), by rw [gu2_self, if_pos rfl], ?_⟩, fun a a1 a2 => ⟨(gu2_other a1).trans (wi_X4_become (by omega)), wl_X4_become (by omega)⟩⟩
    · rw [gu2_self, if_neg (by decide), k20, h2]
      congr 1
      simp
      omega
    · intro j W hW
      have hlen : ((V :: As).take 14).length = 14 := by simp; omega
      have hj : j < 14 := by have := (List.getElem?_eq_some_iff.mp hW).1; omega
      rw [List.getElem?_take_of_lt hj] at hW
      rw [hlen]
      cases j with
      | zero =>
        cases hW
        rw [show ((p + 1) % 14 + 14 - 1 - 0) % 14 = (p + As.length) % 14 by omega]
        exact cMom_kept (gu2_other (by omega)) rfl b
      | succ j =>
        have hW : As[j]? = some W := hW
        rw [show ((p + 1) % 14 + 14 - 1 - (j + 1)) % 14 = (p + As.length - 1 - j) % 14 by omega]
        exact cMom_kept (gu2_other (by omega)) rfl (old j W (by omega) hW)
  · rw [if_neg hc] at hr
    refine ⟨_, _, hr, ⟨by simp; omega, ?_, p, hp, by rw [gu2_self, if_neg (by decide), k20, h1], ?_⟩, fun a a1 a2 => ⟨(gu2_other a1).trans (wi_X4_become (by omega)), wl_X4_become (by omega)⟩⟩
    · rw [gu2_self, if_pos rfl]
      congr 1
      simp
      omega
    · intro j W hW
      have hlen : ((V :: As).take 14).length = As.length + 1 := by simp; omega
      have hj : j < As.length + 1 := by have := (List.getElem?_eq_some_iff.mp hW).1; omega
      rw [List.getElem?_take_of_lt (by omega)] at hW
      rw [hlen]
      cases j with
      | zero =>
        cases hW
        exact cMom_kept (gu2_other (by omega)) rfl b
      | succ j =>
        have hW : As[j]? = some W := hW
        rw [show (p + (As.length + 1) - 1 - (j + 1)) % 14 = (p + As.length - 1 - j) % 14 by omega]
        exact cMom_kept (gu2_other (by omega)) rfl (old j W (by omega) hW)
/-- the reference holds As (newest first) in its row -/
def rActs (I : gII) (As : List TMom) : Prop := As.length ≤ 14 ∧ I 57 25 = nI As.length ∧ ∃ q, q < 14 ∧ I 57 26 = nI q ∧ ∀ j V, As[j]? = some V → rMom I 70 (27 * ((q + 13 - j) % 14)) V
theorem rMom_copy {I I' : gII} {a a' b b' : Nat} {V : TMom} (hl : (ms V).length ≤ 12) (h : ∀ i, i < 27 → I' a' (b' + i) = I a (b + i)) (hM : rMom I a b V) : rMom I' a' b' V := by
  obtain ⟨r0, r5, r10, r11, r12, r13, r14, rs⟩ := hM
  refine ⟨fun k hk => (h k (by omega)).trans (r0 k hk), fun k hk => ?_, (h 10 (by omega)).trans r10, (h 11 (by omega)).trans r11, (h 12 (by omega)).trans r12, (h 13 (by omega)).trans r13, (h 14 (by omega)).trans r14, fun j hj => ?_⟩
  · rw [Nat.add_assoc, h (5 + k) (by omega), ← Nat.add_assoc]
    exact r5 k hk
  · rw [Nat.add_assoc, h (15 + j) (by omega), ← Nat.add_assoc]
    exact rs j hj
theorem keep2 {q k : Nat} {L : gLL} (hq : q < 14) : ∀ {d j : Nat} {I : gII}, j + d = 27 → I 57 26 = nI q → ∃ I1, r_X8_keepAct_2 (d + (k + 1)) (nI j) I L = r_X8_keepAct_2 (k + 1) (nI 27) I1 L ∧ (∀ i, j ≤ i → i < 27 → I1 70 (27 * q + i) = I 63 i) ∧ (∀ i, ¬ (27 * q + j ≤ i ∧ i < 27 * q + 27) → I1 70 i = I 70 i) ∧ ∀ a, a ≠ 70 → I1 a = I a := by
  intro d
  induction d with
  | zero =>
    intro j I hj _
    have hj : j = 27 := hj
    subst hj
    exact ⟨I, by rw [Nat.zero_add], fun i h1 h2 => by omega, fun i _ => rfl, fun a _ => rfl⟩
  | succ d ih =>
    intro j I hj h26
    obtain ⟨I1, e, h1, h2, h3⟩ := ih (j := j + 1) (I := gu2 I 70 (27 * q + j) (I 63 j)) (by omega) (by rw [gu2_other (by decide)]; exact h26)
    refine ⟨I1, ?_, ?_, ?_, fun a ha => (h3 a ha).trans (gu2_other ha)⟩
    · rw [show d + 1 + (k + 1) = (d + (k + 1)) + 1 by omega, r_X8_keepAct_2, h26]
      simp (disch := omega) only [n_le, n_add, n_mul, n_gvp, n_gx, decide_eq_true_eq]
      rw [if_neg (by omega), if_pos (by omega), if_pos (by omega)]
      exact e
    · intro i q1 q2
      by_cases hi : i = j
      · subst hi
        rw [h2 _ (by omega), gu2_self, if_pos rfl]
      · rw [h1 i (by omega) q2, gu2_other (by decide)]
    · intro i hi
      rw [h2 i (by omega), gu2_self, if_neg (by omega)]
theorem keepAct_r {I : gII} {L : gLL} {F : TFen} {V : TMom} {As : List TMom} (hok : ∀ W ∈ As, okM F W) (hV : okM F V) (h : rActs I As) (hM : rMom I 63 0 V) : ∃ I', r_X8_keepAct I L = some (0, I', L) ∧ rActs I' ((V :: As).take 14) ∧ (∀ a, a ≠ 57 → a ≠ 70 → I' a = I a) ∧ ∀ j, j ≠ 25 → j ≠ 26 → I' 57 j = I 57 j := by
  obtain ⟨hl, h25, q, hq, h26, hA⟩ := h
  obtain ⟨I1, e, c1, c2, c3⟩ := keep2 (k := 72) (L := L) hq (d := 27) (j := 0) (I := I) rfl h26
  have e : r_X8_keepAct_2 100 (nI 0) I L = r_X8_keepAct_2 73 (nI 27) I1 L := e
  have k57 := c3 57 (by decide)
  have hr : r_X8_keepAct I L = some (0, gu2 (gu2 I1 57 26 (nI ((q + 1) % 14))) 57 25 (nI (min (As.length + 1) 14)), L) := by
    unfold r_X8_keepAct
    have g25 : gu2 I1 57 26 (nI ((q + 1) % 14)) 57 25 = nI As.length := by rw [gu2_self, if_neg (by decide), k57, h25]
    rw [e, r_X8_keepAct_2, if_pos (by decide), k57, h26, n_add, n_rem (by omega) (by omega) (by omega), g25, n_add]
    unfold r_X8_keepAct_39
    simp (disch := omega) only [n_le]
    by_cases hc : 14 ≤ As.length
    · rw [if_pos hc, show min (As.length + 1) 14 = 14 by omega]
    · rw [if_neg hc, show min (As.length + 1) 14 = As.length + 1 by omega]
  have hlen : ((V :: As).take 14).length = min (As.length + 1) 14 := by simp; omega
  refine ⟨_, hr, ⟨by omega, by rw [gu2_self, if_pos rfl, hlen], (q + 1) % 14, Nat.mod_lt _ (by decide), by rw [gu2_self, if_neg (by decide), gu2_self, if_pos rfl], ?_⟩, fun a a1 a2 => by rw [gu2_other a1, gu2_other a1, c3 a a2], fun j j1 j2 => by rw [gu2_self, if_neg j1, gu2_self, if_neg j2, k57]⟩
  intro j W hW
  have hj : j < 14 := by have := (List.getElem?_eq_some_iff.mp hW).1; omega
  rw [List.getElem?_take_of_lt hj] at hW
  have k70 : gu2 (gu2 I1 57 26 (nI ((q + 1) % 14))) 57 25 (nI (min (As.length + 1) 14)) 70 = I1 70 := by rw [gu2_other (by decide), gu2_other (by decide)]
  cases j with
  | zero =>
    cases hW
    rw [show ((q + 1) % 14 + 13 - 0) % 14 = q by omega]
    refine rMom_copy (hV.2.2.2.2.2.2.2) (fun i hi => ?_) hM
    rw [k70, c1 i (by omega) hi, Nat.zero_add]
  | succ j =>
    have hW : As[j]? = some W := hW
    rw [show ((q + 1) % 14 + 13 - (j + 1)) % 14 = (q + 13 - j) % 14 by omega]
    refine rMom_copy (hok W (List.mem_of_getElem? hW)).2.2.2.2.2.2.2 (fun i hi => ?_) (hA j W hW)
    rw [k70, c2 _ (by omega)]
