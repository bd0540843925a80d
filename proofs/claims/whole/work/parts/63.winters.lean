/-! WINTERS of the reference -/
def w14b (K : Int32 → Int32 → Int32 → gII → gLL → Option gRs) (v1 v2 v3 xx : Int32) (I : gII) (LL : gLL) : Option gRs := (if ¬ xx = (nI 20) then (if xx ≤ (nI 14) then ((r_X8_canDrive I LL (nI 1) (xx / (nI 3)) (grem xx (nI 3))).bind (fun z20 => (if z20.1 = 0 then (r_X8_winters_87 (K) v1 v2 v3 z20.2.1 z20.2.2) else ((r_X8_driveOn z20.2.1 z20.2.2 (nI 1) (xx / (nI 3)) (grem xx (nI 3))).bind (fun z22 => (r_X8_winters_87 (K) v1 (v2 + z22.1) v3 z22.2.1 z22.2.2)))))) else (r_X8_winters_87 (K) v1 v2 v3 (gu2 I 63 (gx (nI 39)) ((I 63 (gx (nI 39))) &&& ((gshl (nI 1) (xx - (nI 15))) ^^^ (-1 : Int32)))) LL)) else (r_X8_winters_87 (K) v1 v2 v3 (gu2 I 63 (gx (nI 40)) ((nI 1) - (I 63 (gx (nI 40))))) LL))
theorem w14_eq {m : Nat} {v1 v2 v3 : Int32} {I : gII} {L : gLL} : r_X8_winters_14 (m + 1) v1 v2 v3 I L = if v1 ≤ v3 then some (v2, I, L) else w14b (r_X8_winters_14 m) v1 v2 v3 (Int64.toInt32 (gremL (glushr ((gu2 L 57 33 (((L 57 33) * (lN 6364136223846793005)) + (lN 1442695040888963407))) 57 33) (nI 33)) (lN 21))) I (gu2 L 57 33 (((L 57 33) * (lN 6364136223846793005)) + (lN 1442695040888963407))) := by
  unfold r_X8_winters_14 w14b
  rfl
theorem out_none : ∀ h, h < 32 → ∀ b, b < 5 → h / 2 ^ b % 2 = 0 → nI h &&& (gshl (nI 1) (nI b) ^^^ (-1 : Int32)) = nI h := by decide +kernel
theorem bit_out {h B b : Nat} (hh : h < 2 ^ B) (hb : B ≤ b) : h / 2 ^ b % 2 = 0 := by
  rw [Nat.div_eq_of_lt (Nat.lt_of_lt_of_le hh (Nat.pow_le_pow_right (by decide) hb))]
theorem w14_step {K : Int32 → Int32 → Int32 → gII → gLL → Option gRs} {I : gII} {LL : gLL} {F : TFen} {W : TMom} {a c j : Nat} {v1 : Int32} (hF : okF F) (hc : rFen I F) (hW : okM F W) (m' : rMom I 63 27 W) (h21 : c < 21) : ∃ I1, w14b K v1 (nI a) (nI j) (nI c) I LL = K v1 (nI (a + (wiS F W c).1)) (nI (j + 1)) I1 LL ∧ rMom I1 63 27 (wiS F W c).2 ∧ rT I I1 := by
  have h32 := okM_h32 hF hW
  have hB := hF.2.2.1
  have m12 : I 63 39 = nI (mh W) := m'.2.2.2.2.1
  have m13 : I 63 40 = nI (mf W) := m'.2.2.2.2.2.1
  unfold w14b r_X8_winters_87 wiS
  simp (disch := omega) only [n_le, n_lt, n_eq, n_eq0, n_0lt, n_le0, n_lt0, n_0le, n_gvp, n_gx, n_add, n_mul, decide_eq_true_eq, Option.bind_some, if_false, if_true, not_false_eq_true, not_true_eq_false]
  by_cases q20 : c = 20
  · have f20 : ¬ ¬ c = 20 := fun h => h q20
    rw [if_neg f20, if_pos q20, m13, (fr1 hW).2]
    exact ⟨_, rfl, rMom_f m', rT_put (k := 40) (by omega)⟩
  rw [if_pos q20, if_neg q20]
  by_cases q15 : 15 ≤ c
  · have f15 : ¬ c ≤ 14 := by omega
    rw [if_neg f15, if_pos q15, n_sub q15, m12]
    refine ⟨_, rfl, ?_, rT_put (k := 39) (by omega)⟩
    show rMom _ 63 27 (if _ then _ else _)
    rcases (by omega : mh W / 2 ^ (c - 15) % 2 = 0 ∨ mh W / 2 ^ (c - 15) % 2 = 1) with qq | qq
    · have f0 : ¬ (c - 15 < fB F ∧ mh W / 2 ^ (c - 15) % 2 = 1) := by omega
      rw [if_neg f0, out_none _ (by omega) _ (by omega) qq]
      exact rMom_h (x := mh W) m'
    · have lt : c - 15 < fB F := by
        rcases Nat.lt_or_ge (c - 15) (fB F) with q | q
        · exact q
        · have := bit_out hW.2.2.2.2.1 q
          omega
      rw [if_pos ⟨lt, qq⟩, out_all _ (by omega) _ (by omega) qq]
      exact rMom_h m'
  · have f15 : c ≤ 14 := by omega
    rw [if_pos f15, if_neg q15, n_div (by omega) (by omega) (by omega), n_rem (by omega) (by omega) (by omega), canDrive_any hF hc hW m' (by omega) (by omega)]
    simp only [Option.bind_some]
    cases hg : goS F W (c / 3) (c % 3) with
    | none =>
      rw [show nI (oN (none : Option TMom)) = nI 0 from rfl, if_pos z0]
      exact ⟨I, rfl, m', rT_refl⟩
    | some W'' =>
      obtain ⟨I1, e1, m1, t1⟩ := driveOn_1 (L := LL) hF hc hW m' hg
      rw [show nI (oN (some W'')) = nI 1 from rfl, if_neg z1, e1]
      simp only [Option.bind_some]
      rw [n_add]
      exact ⟨I1, rfl, m1, t1⟩
theorem win14_r {nx : Int64 → Int64} (hnx : ∀ s : Int64, s * lN 6364136223846793005 + lN 1442695040888963407 = nx s) {I : gII} {L : gLL} {F : TFen} {W : TMom} {n : Nat} (hF : okF F) (hc : rFen I F) (hW : okM F W) (hM : rMom I 63 27 W) (hn : n ≤ 30) : ∃ I' L', r_X8_winters_14 100 (nI n) (nI 0) (nI 0) I L = some (nI (winR nx F n (L 57 33) W), I', L') ∧ L' 57 33 = seedR nx n (L 57 33) ∧ rT I I' := by
  have h := gloopE (fun m j (s : Int32 × gII × gLL) => r_X8_winters_14 m (nI n) s.1 (nI j) s.2.1 s.2.2) (fun j s => ∃ W' a, okM F W' ∧ rMom s.2.1 63 27 W' ∧ s.1 = nI a ∧ a + winR nx F (n - j) (s.2.2 57 33) W' = winR nx F n (L 57 33) W ∧ seedR nx (n - j) (s.2.2 57 33) = seedR nx n (L 57 33) ∧ rT I s.2.1) (fun z => ∃ I' L', z = (nI (winR nx F n (L 57 33) W), I', L') ∧ L' 57 33 = seedR nx n (L 57 33) ∧ rT I I') (n := n)
    (fun m j s hj hp => by
      obtain ⟨W', a, okW', m', ea, ew, es, fr⟩ := hp
      have hc' := rT_fen fr hc
      rw [show n - j = (n - (j + 1)) + 1 by omega] at ew es
      obtain ⟨I1, e1, m1, t1⟩ := w14_step (K := r_X8_winters_14 m) (LL := gu2 s.2.2 57 33 (nx (s.2.2 57 33))) (a := a) (j := j) (v1 := nI n) hF hc' okW' m' (chN_lt (nx (s.2.2 57 33)))
      refine Or.inl ⟨(nI (a + (wiS F W' (chN (nx (s.2.2 57 33)))).1), I1, gu2 s.2.2 57 33 (nx (s.2.2 57 33))), ?_, _, _, wiS_ok okW', m1, rfl, ?_, ?_, rT_trans fr t1⟩
      · show r_X8_winters_14 (m + 1) (nI n) s.1 (nI j) s.2.1 s.2.2 = _
        rw [w14_eq, hnx, g2a, ch_v, ea, e1, if_neg (by simp (disch := omega) only [n_le, n_lt, n_eq, n_eq0, n_0lt, n_le0, n_lt0, n_0le, n_gvp, n_gx, n_add, n_mul, decide_eq_true_eq, Option.bind_some, if_false, if_true, not_false_eq_true, not_true_eq_false]; omega)]
      · show a + (wiS F W' (chN (nx (s.2.2 57 33)))).1 + winR nx F (n - (j + 1)) (gu2 s.2.2 57 33 (nx (s.2.2 57 33)) 57 33) _ = _
        rw [g2a, ← ew, winR_succ, Nat.add_assoc]
      · show seedR nx (n - (j + 1)) (gu2 s.2.2 57 33 (nx (s.2.2 57 33)) 57 33) = _
        rw [g2a, ← es, seedR_succ])
    (fun m s hp => by
      obtain ⟨W', a, okW', m', ea, ew, es, fr⟩ := hp
      rw [Nat.sub_self, winR_0, Nat.add_zero] at ew
      rw [Nat.sub_self, seedR_0] at es
      refine ⟨(s.1, s.2.1, s.2.2), ?_, s.2.1, s.2.2, ?_, es, fr⟩
      · show r_X8_winters_14 (m + 1) (nI n) s.1 (nI n) s.2.1 s.2.2 = _
        rw [w14_eq, if_pos (by simp (disch := omega) only [n_le, n_lt, n_eq, n_eq0, n_0lt, n_le0, n_lt0, n_0le, n_gvp, n_gx, n_add, n_mul, decide_eq_true_eq, Option.bind_some, if_false, if_true, not_false_eq_true, not_true_eq_false]; omega)]
      · rw [ea, ew]) (d := n) (j := 0) (N := 100) (s := (nI 0, I, L)) (by omega) (by omega) ⟨W, 0, hW, hM, rfl, Nat.zero_add _, rfl, rT_refl⟩
  obtain ⟨z, e, I', L', rfl, h1, h2⟩ := h
  exact ⟨I', L', e, h1, h2⟩
theorem ag_wint {nx : Int64 → Int64} (hnx : ∀ s : Int64, s * lN 6364136223846793005 + lN 1442695040888963407 = nx s) (x : Int32) : mAg (fun f g I L => r_X7_winters f g I L x) (fun I L => r_X8_winters I L x) := by
  intro S hS
  have hF := hS.2.1
  have hV := hS.2.2.1
  rcases irg_cases x (lo := 1) (hi := 30) (by omega) (by omega) with ⟨h, e⟩ | ⟨h1, h2, h3, e⟩ | ⟨n, n1, n4, rfl, e⟩
  · refine ⟨-2, S, hS, fun f g I L hw hc => ⟨I, L, ?_, hc⟩, fun I L hr => ⟨I, L, ?_, hr⟩⟩
    · show r_X7_winters f g I L x = _
      unfold r_X7_winters r_X7_winters_6
      rw [if_pos h]
    · show r_X8_winters I L x = _
      unfold r_X8_winters
      rw [in_c (by omega) (by omega), e, if_neg zn0]
  · refine ⟨-2, S, hS, fun f g I L hw hc => ⟨I, L, ?_, hc⟩, fun I L hr => ⟨I, L, ?_, hr⟩⟩
    · show r_X7_winters f g I L x = _
      unfold r_X7_winters r_X7_winters_6
      rw [if_neg h1, if_neg h3]
    · show r_X8_winters I L x = _
      unfold r_X8_winters
      rw [in_c (by omega) (by omega), e, if_neg zn0]
  obtain ⟨a1, a2, a3⟩ := ag_seed (seedR nx n (sD S)) hS
  refine ⟨nI (winR nx (sF S) n (sD S) (sV S)), _, a1, fun f g I L hw hc => ?_, fun I L hr => ?_⟩
  · show ∃ I' L', r_X7_winters f g I L (nI n) = _ ∧ _
    have hf := gfe_or hw.f
    obtain ⟨I', L', e3, l3, fr⟩ := win17_c hnx (I := i_X4_become I L 19 18) (L := l_X4_become I L 19 18) (n := n) hw hF (cFen_kept (fun a q1 q2 => wi_X4_become (by omega)) hc.2.1) hV (cMom_become hc.2.2.1) n4
    have l14 : l_X4_become I L 19 18 2 14 = sD S := by
      rw [wl_X4_become (by decide)]
      exact hc.2.2.2.2.2.2
    rw [l14] at e3 l3
    have kI : ∀ a, a ≠ 19 → a ≠ 53 → a ≠ 54 → I' a = I a := fun a b1 b2 b3 => (fr a b1 b2 b3).1.trans (wi_X4_become b1)
    have kL : ∀ a, a ≠ 19 → a ≠ 53 → a ≠ 54 → a ≠ 2 → L' a = L a := fun a b1 b2 b3 b4 => ((fr a b1 b2 b3).2 b4).trans (wl_X4_become b1)
    obtain ⟨c1, c2, c3, c4, c5, c6, c7⟩ := hc
    refine ⟨I', L', ?_, cTxt_kept (by rw [kI 2 (by decide) (by decide) (by decide)]) (kI 3 (by decide) (by decide) (by decide)) c1, cFen_kept (fun a q1 q2 => kI a (by omega) (by omega) (by omega)) c2, cMom_kept (kI 18 (by decide) (by decide) (by decide)) (kL 18 (by decide) (by decide) (by decide) (by decide)) c3, cActs_kept (kI 20 (by decide) (by decide) (by decide)) (fun a q1 q2 => ⟨kI a (by omega) (by omega) (by omega), kL a (by omega) (by omega) (by omega) (by omega)⟩) c4, cKept_kept (fun a q1 q2 => ⟨kI a (by omega) (by omega) (by omega), kL a (by omega) (by omega) (by omega) (by omega)⟩) c5, cHear_kept (fun a q1 q2 => kI a (by omega) (by omega) (by omega)) c6, l3⟩
    unfold r_X7_winters
    simp (disch := omega) only [n_le, n_lt, n_eq, n_eq0, n_0lt, n_le0, n_lt0, n_0le, n_gvp, n_gx, n_add, n_mul, decide_eq_true_eq, Option.bind_some, if_false, if_true, not_false_eq_true, not_true_eq_false]
    rw [if_neg (by omega), if_pos n4]
    exact e3
  · show ∃ I' L', r_X8_winters I L (nI n) = _ ∧ _
    obtain ⟨I1, e3, m1, k1, j1⟩ := trial_r (L := L) hV.2.2.2.2.2.2.2 hr.2.2.1
    have t1 := rT_trial k1 j1
    obtain ⟨I2, L2, e4, l4, t2⟩ := win14_r hnx (L := L) (n := n) hF (rT_fen t1 hr.2.1) hV m1 n4
    obtain ⟨r7, hr'⟩ := a3 I L hr
    rw [r7] at e4 l4
    have tt := rT_trans t1 t2
    refine ⟨I2, L2, ?_, rSt_same (L := gu2 L 57 33 (seedR nx n (sD S))) a1 ⟨(rT_same (L := L) tt).1, tt.2.2, (rT_same (L := L) tt).2.2.1, by rw [g2a]; exact l4⟩ hr'⟩
    unfold r_X8_winters
    rw [in_c (by omega) (by omega), e, if_pos z1, e3]
    exact e4
theorem ag_winters (x : Int32) : mAg (fun f g I L => r_X7_winters f g I L x) (fun I L => r_X8_winters I L x) := ag_wint (nx := fun s => s * lN 6364136223846793005 + lN 1442695040888963407) (fun _ => rfl) x
