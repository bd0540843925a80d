/-! JUDGED; WINTERS -/
def judR (F : TFen) (n r : Nat) : Nat → TMom → Int32
  | 0, _ => -9
  | k + 1, W => match doS F W (r / 100 ^ k % 100 / 10) (r / 100 ^ k % 100 % 10) with
    | none => nI (n - (k + 1))
    | some W' => judR F n r k W'
theorem p100 {k : Nat} (h : k ≤ 4) : 0 < 100 ^ k ∧ 100 ^ k ≤ 100000000 := by
  rcases (by omega : k = 0 ∨ k = 1 ∨ k = 2 ∨ k = 3 ∨ k = 4) with rfl | rfl | rfl | rfl | rfl <;> decide
theorem judge37_c {I : gII} {L : gLL} {F : TFen} {W : TMom} {f g n r : Nat} (hw : gfw f g) (hF : okF F) (hc : cFen I f F) (hW : okM F W) (hM : cMom I L 19 W) (hn : 1 ≤ n ∧ n ≤ 4) (hr : r < 2147483648) : ∃ I' L', r_X7_judge_37 f g 100 (nI n) (nI r) (nI (100 ^ (n - 1))) (nI 0) I L = some (judR F n r n W, I', L') := by
  have hf := gfe_or hw.f
  have h := gloopE (fun m j (s : Int32 × gII × gLL) => r_X7_judge_37 f g m (nI n) (nI r) s.1 (nI j) s.2.1 s.2.2) (fun j s => ∃ W', okM F W' ∧ cMom s.2.1 s.2.2 19 W' ∧ cFen s.2.1 f F ∧ judR F n r (n - j) W' = judR F n r n W ∧ (j < n → s.1 = nI (100 ^ (n - 1 - j)))) (fun z => z.1 = judR F n r n W) (n := n)
    (fun m j s hj hp => by
      obtain ⟨W', okW', m', f', e', p'⟩ := hp
      have hp100 := p100 (k := n - 1 - j) (by omega)
      obtain ⟨I1, L1, e1, m1⟩ := doesDoing_c (d := r / 100 ^ (n - 1 - j) % 100 / 10) (k := r / 100 ^ (n - 1 - j) % 100 % 10) hw hF f' okW' m' (by omega) (by omega)
      have fr : ∀ a, a ≠ 19 → a ≠ 53 → a ≠ 54 → I1 a = s.2.1 a ∧ L1 a = s.2.2 a := fun a a1 a2 a3 => w_X7_doesDoing (by omega) e1
      have run : r_X7_judge_37 f g (m + 1) (nI n) (nI r) s.1 (nI j) s.2.1 s.2.2 = if ¬ nI (oN (doS F W' (r / 100 ^ (n - 1 - j) % 100 / 10) (r / 100 ^ (n - 1 - j) % 100 % 10))) = 0 then r_X7_judge_37 f g m (nI n) (nI r) (nI (100 ^ (n - 1 - j) / 100)) (nI (j + 1)) I1 L1 else some (nI j, I1, L1) := by
        have hq : r / 100 ^ (n - 1 - j) < 2147483648 := Nat.lt_of_le_of_lt (Nat.div_le_self _ _) hr
        rw [p' hj, r_X7_judge_37]
        simp (disch := omega) only [n_div, n_rem]
        rw [e1]
        simp (disch := omega) only [n_le, n_lt, n_eq, n_eq0, n_0lt, n_le0, n_lt0, n_0le, n_gvp, n_gx, n_add, n_mul, decide_eq_true_eq, Option.bind_some, if_false, if_true, not_false_eq_true, not_true_eq_false]
        rw [if_neg (by omega), if_neg (by omega), if_pos (by omega)]
      rw [show n - j = (n - 1 - j) + 1 by omega, judR] at e'
      cases hd : doS F W' (r / 100 ^ (n - 1 - j) % 100 / 10) (r / 100 ^ (n - 1 - j) % 100 % 10) with
      | none =>
        rw [hd] at e' run
        refine Or.inr ⟨(nI j, I1, L1), run.trans (if_neg zn0), ?_⟩
        have e' : nI (n - (n - 1 - j + 1)) = _ := e'
        rw [← e']
        show nI j = _
        congr 1
        omega
      | some W'' =>
        rw [hd] at e' run
        refine Or.inl ⟨(nI (100 ^ (n - 1 - j) / 100), I1, L1), run.trans (if_pos z1), W'', doS_ok okW' hd, m1 W'' hd, cFen_kept (fun a q1 q2 => (fr a (by omega) (by omega) (by omega)).1) f', ?_, fun hj1 => ?_⟩
        · rw [show n - (j + 1) = n - 1 - j by omega]
          exact e'
        · show nI (100 ^ (n - 1 - j) / 100) = nI (100 ^ (n - 1 - (j + 1)))
          rw [show n - 1 - j = (n - 1 - (j + 1)) + 1 by omega, Nat.pow_succ, Nat.mul_div_cancel _ (by decide)])
    (fun m s hp => by
      obtain ⟨W', okW', m', f', e', p'⟩ := hp
      refine ⟨(-9, s.2.1, s.2.2), ?_, ?_⟩
      · show r_X7_judge_37 f g (m + 1) (nI n) (nI r) s.1 (nI n) s.2.1 s.2.2 = _
        rw [r_X7_judge_37, if_pos (by simp (disch := omega) only [n_le, n_lt, n_eq, n_eq0, n_0lt, n_le0, n_lt0, n_0le, n_gvp, n_gx, n_add, n_mul, decide_eq_true_eq, Option.bind_some, if_false, if_true, not_false_eq_true, not_true_eq_false]; omega)]
        rfl
      · rw [Nat.sub_self] at e'
        exact e') (d := n) (j := 0) (N := 100) (s := (nI (100 ^ (n - 1)), I, L)) (by omega) (by omega) ⟨W, hW, hM, hc, rfl, fun _ => rfl⟩
  obtain ⟨z, e, hz⟩ := h
  refine ⟨z.2.1, z.2.2, e.trans ?_⟩
  rw [← hz]
theorem judge23_r {I : gII} {L : gLL} {F : TFen} {W : TMom} {n r : Nat} (hF : okF F) (hc : rFen I F) (hW : okM F W) (hM : rMom I 63 27 W) (hn : 1 ≤ n ∧ n ≤ 4) (hr : r < 2147483648) : ∃ I', r_X8_judge_23 100 (nI n) (nI r) (nI 0) I L = some (judR F n r n W, I', L) ∧ rT I I' := by
  have h := gloopE (fun m j (s : gII) => r_X8_judge_23 m (nI n) (nI r) (nI j) s L) (fun j s => ∃ W', okM F W' ∧ rMom s 63 27 W' ∧ rT I s ∧ judR F n r (n - j) W' = judR F n r n W) (fun z => ∃ I', z = (judR F n r n W, I', L) ∧ rT I I') (n := n)
    (fun m j s hj hp => by
      obtain ⟨W', okW', m', f', e'⟩ := hp
      have hp100 := p100 (k := n - 1 - j) (by omega)
      obtain ⟨I1, e1, m1, t1⟩ := tryThing_r (L := L) (d := r / 100 ^ (n - 1 - j) % 100 / 10) (k := r / 100 ^ (n - 1 - j) % 100 % 10) hF (rT_fen f' hc) okW' m' (by omega) (by omega)
      have run : r_X8_judge_23 (m + 1) (nI n) (nI r) (nI j) s L = if ¬ nI (oN (doS F W' (r / 100 ^ (n - 1 - j) % 100 / 10) (r / 100 ^ (n - 1 - j) % 100 % 10))) = 0 then r_X8_judge_23 m (nI n) (nI r) (nI (j + 1)) I1 L else some (nI j, I1, L) := by
        have hq : r / 100 ^ (n - 1 - j) < 2147483648 := Nat.lt_of_le_of_lt (Nat.div_le_self _ _) hr
        rw [r_X8_judge_23, n_sub (by omega), n_sub (by omega), power_r (by omega)]
        simp (disch := omega) only [n_div, n_rem, Option.bind_some]
        rw [e1]
        simp (disch := omega) only [n_le, n_lt, n_eq, n_eq0, n_0lt, n_le0, n_lt0, n_0le, n_gvp, n_gx, n_add, n_mul, decide_eq_true_eq, Option.bind_some, if_false, if_true, not_false_eq_true, not_true_eq_false]
        rw [if_neg (by omega), if_pos (by omega)]
      rw [show n - j = (n - 1 - j) + 1 by omega, judR] at e'
      cases hd : doS F W' (r / 100 ^ (n - 1 - j) % 100 / 10) (r / 100 ^ (n - 1 - j) % 100 % 10) with
      | none =>
        rw [hd] at e' run
        refine Or.inr ⟨(nI j, I1, L), run.trans (if_neg zn0), I1, ?_, rT_trans f' t1⟩
        have e' : nI (n - (n - 1 - j + 1)) = _ := e'
        rw [← e', show n - (n - 1 - j + 1) = j by omega]
      | some W'' =>
        rw [hd] at e' run
        refine Or.inl ⟨I1, run.trans (if_pos z1), W'', doS_ok okW' hd, m1 W'' hd, rT_trans f' t1, ?_⟩
        rw [show n - (j + 1) = n - 1 - j by omega]
        exact e')
    (fun m s hp => by
      obtain ⟨W', okW', m', f', e'⟩ := hp
      rw [Nat.sub_self] at e'
      refine ⟨(-9, s, L), ?_, s, ?_, f'⟩
      · show r_X8_judge_23 (m + 1) (nI n) (nI r) (nI n) s L = _
        rw [r_X8_judge_23, if_pos (by simp (disch := omega) only [n_le, n_lt, n_eq, n_eq0, n_0lt, n_le0, n_lt0, n_0le, n_gvp, n_gx, n_add, n_mul, decide_eq_true_eq, Option.bind_some, if_false, if_true, not_false_eq_true, not_true_eq_false]; omega)]
      · rw [← e']
        rfl) (d := n) (j := 0) (N := 100) (s := I) (by omega) (by omega) ⟨W, hW, hM, rT_refl, rfl⟩
  obtain ⟨z, e, I', rfl, t⟩ := h
  exact ⟨I', e, t⟩
theorem ag_judge (x y : Int32) : mAg (fun f g I L => r_X7_judge f g I L x y) (fun I L => r_X8_judge I L x y) := by
  refine mAg_ask (fun f g I L z hw e a q => by
    have := cHold_lt hw q
    exact w_X7_judge (by omega) e) (fun S hS => ?_)
  have hF := hS.2.1
  have hV := hS.2.2.1
  rcases irg_cases x (lo := 1) (hi := 4) (by omega) (by omega) with ⟨h, e⟩ | ⟨h1, h2, h3, e⟩ | ⟨n, n1, n4, rfl, e⟩
  · refine ⟨-2, fun f g I L hw hc => ⟨I, L, ?_⟩, fun I L hr => ⟨I, L, ?_, rSame_refl⟩⟩
    · show r_X7_judge f g I L x y = _
      unfold r_X7_judge r_X7_judge_6
      rw [if_pos h]
    · show r_X8_judge I L x y = _
      unfold r_X8_judge r_X8_judge_17
      rw [in_c (by omega) (by omega), e, if_pos z0]
  · refine ⟨-2, fun f g I L hw hc => ⟨I, L, ?_⟩, fun I L hr => ⟨I, L, ?_, rSame_refl⟩⟩
    · show r_X7_judge f g I L x y = _
      unfold r_X7_judge r_X7_judge_6
      rw [if_neg h1, if_neg h3]
    · show r_X8_judge I L x y = _
      unfold r_X8_judge r_X8_judge_17
      rw [in_c (by omega) (by omega), e, if_pos z0]
  have hp := p100 (k := n) n4
  have hp1 := p100 (k := n - 1) (by omega)
  have hpp : 100 ^ n = 100 ^ (n - 1) * 100 := by
    rw [← Nat.pow_succ]
    congr 1
    omega
  have cls : ∀ f g I L, r_X7_judge f g I L (nI n) y = if y < 0 then some ((-2 : Int32), I, L) else if y / nI 100 < nI (100 ^ (n - 1)) then r_X7_judge_37 f g 100 (nI n) y (nI (100 ^ (n - 1))) (nI 0) (i_X4_become I L 19 18) (l_X4_become I L 19 18) else some ((-2 : Int32), I, L) := by
    intro f g I L
    obtain ⟨m, s, e1, -, hs⟩ := gloop (fun m j (s : Int32) => r_X7_judge_12 f g m (nI n) y s (nI j) I L) (fun j s => 1 ≤ j ∧ s = nI (100 ^ (j - 1))) (n := n)
      (fun m j s hj hp => ⟨nI (100 ^ j), by
        show r_X7_judge_12 f g (m + 1) (nI n) y s (nI j) I L = r_X7_judge_12 f g m (nI n) y _ (nI (j + 1)) I L
        rw [hp.2, r_X7_judge_12]
        simp (disch := omega) only [n_le, n_lt, n_eq, n_eq0, n_0lt, n_le0, n_lt0, n_0le, n_gvp, n_gx, n_add, n_mul, decide_eq_true_eq, Option.bind_some, if_false, if_true, not_false_eq_true, not_true_eq_false]
        rw [if_neg (by omega), ← Nat.pow_succ, show (j - 1).succ = j by omega], by omega, rfl⟩) (d := n - 1) (j := 1) (N := 100) (s := nI 1) (by omega) (by omega) ⟨by omega, rfl⟩
    unfold r_X7_judge
    simp (disch := omega) only [n_le, n_lt, n_eq, n_eq0, n_0lt, n_le0, n_lt0, n_0le, n_gvp, n_gx, n_add, n_mul, decide_eq_true_eq, Option.bind_some, if_false, if_true, not_false_eq_true, not_true_eq_false]
    rw [if_neg (by omega), if_pos n4]
    refine e1.trans ?_
    show r_X7_judge_12 f g (m + 1) (nI n) y s (nI n) I L = _
    rw [hs, r_X7_judge_12, if_pos (by simp (disch := omega) only [n_le, n_lt, n_eq, n_eq0, n_0lt, n_le0, n_lt0, n_0le, n_gvp, n_gx, n_add, n_mul, decide_eq_true_eq, Option.bind_some, if_false, if_true, not_false_eq_true, not_true_eq_false]; omega)]
    rfl
  have rfr : ∀ I L, r_X8_judge I L (nI n) y = if ¬ irg y 0 (100 ^ n - 1) = 0 then (r_X8_layTrial I L).bind (fun z22 => (r_X8_judge_23 100 (nI n) y (nI 0) z22.2.1 z22.2.2)) else some ((-2 : Int32), I, L) := by
    intro I L
    unfold r_X8_judge r_X8_judge_17
    rw [in_c (by omega) (by omega), e, if_neg z1, power_r (by omega)]
    simp only [Option.bind_some]
    rw [n_sub (by omega), n_toL (by omega), in_c (by omega) (by omega)]
  rcases irg_cases y (lo := 0) (hi := 100 ^ n - 1) (by omega) (by omega) with ⟨h, e2⟩ | ⟨h1, h2, h3, e2⟩ | ⟨r, -, r4, rfl, e2⟩
  · have h : y < 0 := h
    refine ⟨-2, fun f g I L hw hc => ⟨I, L, ?_⟩, fun I L hr => ⟨I, L, ?_, rSame_refl⟩⟩
    · exact (cls f g I L).trans (if_pos h)
    · refine (rfr I L).trans ?_
      rw [e2, if_neg zn0]
  · have h1 : ¬ y < 0 := h1
    obtain ⟨r, hr, rfl⟩ := nI_of h1
    have hr : r < 2147483648 := hr
    rw [n_lt (by omega) (by omega)] at h2
    refine ⟨-2, fun f g I L hw hc => ⟨I, L, ?_⟩, fun I L hr => ⟨I, L, ?_, rSame_refl⟩⟩
    · refine (cls f g I L).trans ?_
      rw [if_neg h1, n_div (by omega) (by omega) (by omega), if_neg (show ¬ nI (r / 100) < nI (100 ^ (n - 1)) by rw [n_lt (by omega) (by omega)]; omega)]
    · refine (rfr I L).trans ?_
      rw [e2, if_neg zn0]
  · refine ⟨judR (sF S) n r n (sV S), fun f g I L hw hc => ?_, fun I L hr => ?_⟩
    · show ∃ I' L', r_X7_judge f g I L (nI n) (nI r) = _
      have hf := gfe_or hw.f
      obtain ⟨I', L', e3⟩ := judge37_c (I := i_X4_become I L 19 18) (L := l_X4_become I L 19 18) (n := n) (r := r) hw hF (cFen_kept (fun a q1 q2 => wi_X4_become (by omega)) hc.2.1) hV (cMom_become hc.2.2.1) ⟨n1, n4⟩ (by omega)
      refine ⟨I', L', (cls f g I L).trans ?_⟩
      rw [if_neg (show ¬ nI r < 0 from nI_pos (by omega)), n_div (by omega) (by omega) (by omega), if_pos (show nI (r / 100) < nI (100 ^ (n - 1)) by rw [n_lt (by omega) (by omega)]; omega)]
      exact e3
    · show ∃ I' L', r_X8_judge I L (nI n) (nI r) = _ ∧ _
      obtain ⟨I1, e3, m1, k1, j1⟩ := trial_r (L := L) hV.2.2.2.2.2.2.2 hr.2.2.1
      have t1 := rT_trial k1 j1
      obtain ⟨I2, e4, t2⟩ := judge23_r (L := L) (n := n) (r := r) hF (rT_fen t1 hr.2.1) hV m1 ⟨n1, n4⟩ (by omega)
      refine ⟨I2, L, (rfr I L).trans ?_, rT_same (rT_trans t1 t2)⟩
      rw [e2, if_pos z1, e3]
      exact e4

def chN (x : Int64) : Nat := x.toBitVec.toNat / 2 ^ 33 % 21
theorem ch_v (x : Int64) : Int64.toInt32 (gremL (glushr x (nI 33)) (lN 21)) = nI (chN x) := by
  obtain ⟨n, hn, rfl⟩ := wb_of x
  unfold gremL glushr chN
  rw [wb_shr hn (by omega), wb_tn hn, pk_lRem (by omega) (by omega) (by omega), lN_i]
def wiS (F : TFen) (W : TMom) (c : Nat) : Nat × TMom :=
  if c = 20 then (0, mQ W (mo W) (mi W) (mh W) (1 - mf W))
  else if 15 ≤ c then (0, if c - 15 < fB F ∧ mh W / 2 ^ (c - 15) % 2 = 1 then mQ W (mo W) (mi W) (mh W ^^^ 2 ^ (c - 15)) (mf W) else W)
  else match goS F W (c / 3) (c % 3) with
    | none => (0, W)
    | some W' => (cnt (song F W (c / 3) (c % 3)), W')
theorem wiS_ok {F : TFen} {W : TMom} {c : Nat} (hW : okM F W) : okM F (wiS F W c).2 := by
  unfold wiS
  split
  · exact mQ_ok hW hW.2.2.1 hW.2.2.2.1 hW.2.2.2.2.1 (by show 1 - mf W ≤ 1; omega)
  · split
    · show okM F (if _ then _ else _)
      split
      · rename_i q
        exact mQ_ok hW hW.2.2.1 hW.2.2.2.1 (x2lt hW.2.2.2.2.1 q.1) hW.2.2.2.2.2.1
      · exact hW
    · cases hg : goS F W (c / 3) (c % 3) with
      | none => exact hW
      | some W' => exact goS_ok hW hg
theorem fr1 {F : TFen} {W : TMom} (hW : okM F W) : nI (mf W) ^^^ nI 1 = nI (1 - mf W) ∧ nI 1 - nI (mf W) = nI (1 - mf W) := by
  have := hW.2.2.2.2.2.1
  rcases (by omega : mf W = 0 ∨ mf W = 1) with q | q <;> rw [q] <;> decide
theorem doChance_c {I : gII} {L : gLL} {F : TFen} {W : TMom} {f g c : Nat} (hw : gfw f g) (hF : okF F) (hc : cFen I f F) (hW : okM F W) (hM : cMom I L 19 W) (h21 : c < 21) : ∃ I' L', r_X7_doChance f g I L 19 (nI c) = some (nI (wiS F W c).1, I', L') ∧ cMom I' L' 19 (wiS F W c).2 := by
  have hB := hF.2.2.1
  have h32 := okM_h32 hF hW
  unfold r_X7_doChance r_X7_doChance_35 wiS
  simp (disch := omega) only [n_le, n_lt, n_eq, n_eq0, n_0lt, n_le0, n_lt0, n_0le, n_gvp, n_gx, n_add, n_mul, decide_eq_true_eq, Option.bind_some, if_false, if_true, not_false_eq_true, not_true_eq_false]
  by_cases q20 : c = 20
  · have f20 : ¬ ¬ c = 20 := fun h => h q20
    rw [if_neg f20, if_pos q20, hM.2.2.2.2.2.1, (fr1 hW).1]
    exact ⟨_, L, rfl, cMom_f hM⟩
  rw [if_pos q20, if_neg q20]
  by_cases q15 : 15 ≤ c
  · have f15 : ¬ c < 15 := by omega
    rw [if_neg f15, if_pos q15]
    refine ⟨_, L, rfl, ?_⟩
    show cMom (i_X7_turnsOut f g I L 19 (nI c - nI 15)) L 19 (if _ then _ else _)
    unfold i_X7_turnsOut
    rw [n_sub q15, isBeast_c hc, inb_v (by omega) (by omega)]
    by_cases q : c - 15 < fB F
    · have p2 : 2 ^ (c - 15) ≤ 32 := pow_le5 (by omega)
      simp only [q, if_true, true_and]
      rw [if_neg z1, isHome_c hM.2.2.2.2.1 (by omega) (by omega)]
      rcases (by omega : mh W / 2 ^ (c - 15) % 2 = 0 ∨ mh W / 2 ^ (c - 15) % 2 = 1) with qq | qq
      · have f0 : ¬ (0 : Nat) = 1 := by decide
        rw [qq, if_neg zn0, if_pos rfl, if_neg f0]
        exact hM
      · have ff : ¬ false = true := by decide
        rw [qq, if_pos z1, if_neg ff, if_pos rfl, hM.2.2.2.2.1, n_shl (by omega) (by omega), n_xor, Nat.one_mul]
        exact cMom_h hM
    · simp only [q, if_false, false_and]
      rw [if_pos z0, if_pos rfl]
      exact hM
  · have f15 : c < 15 := by omega
    obtain ⟨I', L', e, m⟩ := goesHome_c (d := c / 3) (k := c % 3) hw hF hc hW hM (by omega) (by omega)
    rw [if_pos f15, if_neg q15, n_div (by omega) (by omega) (by omega), n_rem (by omega) (by omega) (by omega), e]
    simp only [Option.bind_some]
    cases hg : goS F W (c / 3) (c % 3) with
    | none =>
      have hI : I' = I ∧ L' = L := by
        unfold r_X7_goesHome at e
        rw [hg] at e
        split at e
        · exfalso
          cases hs : r_X1_sendHome I L f 19 (nI (c / 3)) (nI (c % 3)) 53 with
          | none => rw [hs] at e; cases e
          | some z =>
            rw [hs] at e
            simp only [Option.bind_some, Option.some.injEq, Prod.mk.injEq] at e
            exact absurd e.1 (by decide)
        · simp only [Option.some.injEq, Prod.mk.injEq] at e
          exact ⟨e.2.1.symm, e.2.2.symm⟩
      rw [show nI (oN (none : Option TMom)) = nI 0 from rfl, if_pos z0, hI.1, hI.2]
      exact ⟨I, L, rfl, hM⟩
    | some W' =>
      rw [show nI (oN (some W')) = nI 1 from rfl, if_neg z1, count_c (song_le _ _ _ _) (song_len _ _ _ _) (m W' hg).2]
      exact ⟨I', L', rfl, (m W' hg).1⟩
