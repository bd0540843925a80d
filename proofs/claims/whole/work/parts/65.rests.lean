/-! RESTS: the class's rows, the reference's -/
theorem rests24_c {I : gII} {L : gLL} {F : TFen} {V : TMom} {f g one other : Nat} {v3 : Int32} (hw : gfw f g) (hF : okF F) (hc : cFen I f F) (hV : okM F V) (hM : cMom I L 18 V) (h1 : one < fB F) (h2 : other < fB F) : ∃ I', r_X7_rests_24 f g 100 (nI one) (nI other) v3 (nI 0) I L = some ((if ¬ v3 = 0 then (stN (gain F V one other) (fun a b => gain F V other one b a) (fL F) (fL F * fL F)).2 else nI (stN (gain F V one other) (fun a b => gain F V other one b a) (fL F) (fL F * fL F)).1), I', L) := by
  have hL := hF.2.1
  have hf := gfe_or hw.f
  have hh := gloopE (fun m j (s : gII) => r_X7_rests_24 f g m (nI one) (nI other) v3 (nI j) s L) (fun j s => cK I s ∧ ∀ a b, a < j → b < fL F → cGain s (gain F V one other) (fun a b => gain F V other one b a) a b) (fun z => ∃ I', z = ((if ¬ v3 = 0 then (stN (gain F V one other) (fun a b => gain F V other one b a) (fL F) (fL F * fL F)).2 else nI (stN (gain F V one other) (fun a b => gain F V other one b a) (fL F) (fL F * fL F)).1), I', L)) (n := fL F)
    (fun m a s ha hp => by
      have hc' := cK_fen hw hp.1 hc
      have hM' := cK_mom hp.1 hM
      obtain ⟨I1, e1, s1, k1⟩ := sing_c (s := 53) hw.f rfl rfl hF hc' hV hM' h1 ha
      have kk1 : cK I I1 := cK_trans hp.1 (fun a q => k1 a (by omega) (by omega))
      obtain ⟨m2, s2, e2, p1, p2, p3⟩ := gloop (fun m' b (t : gII) => r_X7_rests_40 f g (r_X7_rests_24 f g m) m' (nI one) (nI other) v3 (nI a) (nI b) t L) (fun b t => cK I t ∧ cSong t 53 (song F V one a) ∧ ∀ a' b', (a' < a ∧ b' < fL F) ∨ (a' = a ∧ b' < b) → cGain t (gain F V one other) (fun a b => gain F V other one b a) a' b') (n := fL F)
        (fun m' b t hb hp => by
          have hc'' := cK_fen hw hp.1 hc
          have hM'' := cK_mom hp.1 hM
          obtain ⟨I2, e2, s2, k2⟩ := sing_c (L := L) (s := 55) hw.f rfl rfl hF hc'' hV hM'' h2 hb
          have s1' : cSong I2 53 (song F V one a) := ⟨by rw [k2 53 (by decide) (by decide)]; exact hp.2.1.1, fun j hj => by rw [k2 54 (by decide) (by decide)]; exact hp.2.1.2 j hj⟩
          obtain ⟨I3, e3, g1, g2, g3, g4⟩ := meet_c (L := L) (a := a) (b := b) s1' s2 (song_len _ _ _ _) (song_len _ _ _ _) (song_le _ _ _ _) (song_le _ _ _ _) (by omega) (by omega)
          refine ⟨I3, ?_, cK_trans hp.1 (fun c q => (g4 c (by omega) (by omega)).trans (k2 c (by omega) (by omega))), ⟨by rw [g4 53 (by decide) (by decide)]; exact s1'.1, fun j hj => by rw [g4 54 (by decide) (by decide)]; exact s1'.2 j hj⟩, fun a' b' q => ?_⟩
          · show r_X7_rests_40 f g (r_X7_rests_24 f g m) (m' + 1) (nI one) (nI other) v3 (nI a) (nI b) t L = r_X7_rests_40 f g (r_X7_rests_24 f g m) m' (nI one) (nI other) v3 (nI a) (nI (b + 1)) I3 L
            rw [r_X7_rests_40, hc''.2.1, e2]
            simp only [Option.bind_some]
            rw [e3]
            simp (disch := omega) only [n_le, n_lt, n_eq, n_eq0, n_0lt, n_le0, n_lt0, n_0le, n_gvp, n_gx, n_add, n_mul, decide_eq_true_eq, Option.bind_some, if_false, if_true, not_false_eq_true, not_true_eq_false]
            rw [if_neg (show ¬ fL F ≤ b by omega)]
          · by_cases qq : a' = a ∧ b' = b
            · obtain ⟨rfl, rfl⟩ := qq
              refine ⟨g1, g2.trans ?_⟩
              show _ = nI (gain F V other one b' a')
              unfold gain
              by_cases qe : a' = b'
              · rw [if_pos qe, if_pos qe.symm]
              · rw [if_neg qe, if_neg (fun h => qe h.symm), harm_comm]
            · have hold := hp.2.2 a' b' (by omega)
              have ne : a' * 3 + b' ≠ a * 3 + b := by omega
              exact ⟨by rw [(g3 _ ne).1, k2 51 (by decide) (by decide)]; exact hold.1, by rw [(g3 _ ne).2, k2 52 (by decide) (by decide)]; exact hold.2⟩)
        (d := fL F) (j := 0) (N := 100) (s := I1) (by omega) (by omega) ⟨kk1, s1, fun a' b' q => by
          have := hp.2 a' b' (by omega) (by omega)
          exact ⟨by rw [k1 51 (by decide) (by decide)]; exact this.1, by rw [k1 52 (by decide) (by decide)]; exact this.2⟩⟩
      refine Or.inl ⟨s2, ?_, p1, fun a' b' q1 q2 => p3 a' b' (by omega)⟩
      show r_X7_rests_24 f g (m + 1) (nI one) (nI other) v3 (nI a) s L = r_X7_rests_24 f g m (nI one) (nI other) v3 (nI (a + 1)) s2 L
      rw [r_X7_rests_24, hc'.2.1, if_neg (by simp (disch := omega) only [n_le, n_lt, n_eq, n_eq0, n_0lt, n_le0, n_lt0, n_0le, n_gvp, n_gx, n_add, n_mul, decide_eq_true_eq, Option.bind_some, if_false, if_true, not_false_eq_true, not_true_eq_false]; omega), e1]
      simp only [Option.bind_some]
      refine e2.trans ?_
      show r_X7_rests_40 f g (r_X7_rests_24 f g m) (m2 + 1) (nI one) (nI other) v3 (nI a) (nI (fL F)) s2 L = _
      rw [r_X7_rests_40, (cK_fen hw p1 hc).2.1, if_pos (by simp (disch := omega) only [n_le, n_lt, n_eq, n_eq0, n_0lt, n_le0, n_lt0, n_0le, n_gvp, n_gx, n_add, n_mul, decide_eq_true_eq, Option.bind_some, if_false, if_true, not_false_eq_true, not_true_eq_false]; omega), n_add])
    (fun m s hp => by
      obtain ⟨I', e, a1, a2, a3⟩ := settle_c (L := L) (n := fL F) (by omega) (fun a b ha hb => hp.2 a b ha hb) (fun a b => gain_le F V one other a b) (fun a b => gain_le F V other one b a)
      refine ⟨_, ?_, I', rfl⟩
      show r_X7_rests_24 f g (m + 1) (nI one) (nI other) v3 (nI (fL F)) s L = _
      rw [r_X7_rests_24, (cK_fen hw hp.1 hc).2.1, if_pos (by simp (disch := omega) only [n_le, n_lt, n_eq, n_eq0, n_0lt, n_le0, n_lt0, n_0le, n_gvp, n_gx, n_add, n_mul, decide_eq_true_eq, Option.bind_some, if_false, if_true, not_false_eq_true, not_true_eq_false]; omega), e]
      unfold r_X7_rests_82
      simp only [Option.bind_some]
      rw [a1, a2]
      by_cases q : v3 = 0
      · rw [if_neg (fun h => h q), if_neg (fun h => h q)]
      · rw [if_pos q, if_pos q]) (d := fL F) (j := 0) (N := 100) (s := I) (by omega) (by omega) ⟨cK_refl, fun a b h => by omega⟩
  obtain ⟨z, e, I', rfl⟩ := hh
  exact ⟨I', e⟩
theorem gain_r {I : gII} {L : gLL} {F : TFen} {V : TMom} {one other a b : Nat} (hF : okF F) (hc : rFen I F) (hV : okM F V) (hM : rMom I 63 0 V) (h1 : one < fB F) (h2 : other < fB F) (ha : a < fL F) (hb : b < fL F) : ∃ I', r_X8_gain I L (nI one) (nI other) (nI a) (nI b) = some (nI (gain F V one other a b), I', L) ∧ rK I I' := by
  have hL := hF.2.1
  unfold r_X8_gain gain
  simp (disch := omega) only [n_le, n_lt, n_eq, n_eq0, n_0lt, n_le0, n_lt0, n_0le, n_gvp, n_gx, n_add, n_mul, decide_eq_true_eq, Option.bind_some, if_false, if_true, not_false_eq_true, not_true_eq_false]
  by_cases q : a = b
  · rw [if_neg (fun h => h q), if_pos q]
    exact ⟨I, rfl, rK_refl⟩
  · obtain ⟨I1, e1, s1, k1, j1⟩ := lay_r (L := L) (lv := 0) (row := 0) hF hc hV (by simpa using hM) (by omega) (by omega) h1 ha
    have kk : rK I I1 := ⟨k1, j1⟩
    obtain ⟨I2, e2, s2, k2, j2, w2⟩ := lay_rx (L := L) (lv := 0) (row := 1) hF (rK_fen kk hc) hV (by simpa using rK_mom kk hM) (by omega) (by omega) h2 hb
    have s1' : ∀ j, j < (song F V one a).length → I2 69 j = nI ((song F V one a).getD j 0) := fun j hj => by
      have := s1.2 j hj
      rw [Nat.mul_zero, Nat.zero_add] at this
      have h12 := song_len F V one a
      rw [w2 j (by omega), this]
    have hcl := cnt_le (song F V one a)
    have h12 := song_len F V one a
    have key : ∀ u, r_X8_gain_21 (nI other) (nI b) (nI (song F V one a).length) (nI u) I1 L = some (nI (harm (song F V one a) (song F V other b) + u), I2, L) := by
      intro u
      unfold r_X8_gain_21
      rw [e2]
      simp only [Option.bind_some]
      rw [harmonyOf_r s1' (fun j hj => s2.2 j hj) (song_len _ _ _ _) (song_len _ _ _ _) (song_le _ _ _ _) (song_le _ _ _ _)]
      simp only [Option.bind_some]
      rw [n_add]
    rw [if_pos q, if_neg q, e1]
    simp only [Option.bind_some]
    rw [loud_r (by omega) (song_le _ _ _ _) (song_len _ _ _ _) s1.2]
    simp (disch := omega) only [n_le, n_lt, n_eq, n_eq0, n_0lt, n_le0, n_lt0, n_0le, n_gvp, n_gx, n_add, n_mul, decide_eq_true_eq, Option.bind_some, if_false, if_true, not_false_eq_true, not_true_eq_false, key]
    refine ⟨I2, ?_, rK_trans kk ⟨k2, j2⟩⟩
    unfold unb
    by_cases w : cnt (song F V one a) = (song F V one a).length
    · rw [if_neg (fun h => h w), if_pos w]
    · rw [if_pos w, if_neg w]
theorem isRest_r {I : gII} {L : gLL} {F : TFen} {V : TMom} {one other a b : Nat} (hF : okF F) (hc : rFen I F) (hV : okM F V) (hM : rMom I 63 0 V) (h1 : one < fB F) (h2 : other < fB F) (ha : a < fL F) (hb : b < fL F) : ∃ I', r_X8_isRest I L (nI one) (nI other) (nI a) (nI b) = some (nI (bI (rsN (gain F V one other) (fun a b => gain F V other one b a) a b (fL F))), I', L) ∧ rK I I' := by
  have hL := hF.2.1
  have hh := gloopE (fun m j (s : Nat × gII) => r_X8_isRest_4 m (nI one) (nI other) (nI a) (nI b) (nI s.1) (nI j) s.2 L) (fun j s => s.1 = bI (rsN (gain F V one other) (fun a b => gain F V other one b a) a b j) ∧ rK I s.2) (fun z => ∃ I', z = (nI (bI (rsN (gain F V one other) (fun a b => gain F V other one b a) a b (fL F))), I', L) ∧ rK I I') (n := fL F)
    (fun m j s hj hp => by
      have hc' := rK_fen hp.2 hc
      have hM' := rK_mom hp.2 hM
      have hjn : ¬ fL F ≤ j := by omega
      have nxt : rsN (gain F V one other) (fun a b => gain F V other one b a) a b (j + 1) = (rsN (gain F V one other) (fun a b => gain F V other one b a) a b j && (decide (gain F V one other j b ≤ gain F V one other a b) && decide (gain F V other one j a ≤ gain F V other one b a))) := rfl
      have q0 := hp.1
      cases hr : rsN (gain F V one other) (fun a b => gain F V other one b a) a b j with
      | false =>
        rw [hr] at q0 nxt
        refine Or.inl ⟨(0, s.2), ?_, by rw [nxt]; rfl, hp.2⟩
        show r_X8_isRest_4 (m + 1) (nI one) (nI other) (nI a) (nI b) (nI s.1) (nI j) s.2 L = r_X8_isRest_4 m (nI one) (nI other) (nI a) (nI b) (nI 0) (nI (j + 1)) s.2 L
        rw [q0, r_X8_isRest_4, hc'.2.1]
        unfold r_X8_isRest_38
        simp (disch := omega) only [n_le, n_lt, n_eq, n_eq0, n_0lt, n_le0, n_lt0, n_0le, n_gvp, n_gx, n_add, n_mul, decide_eq_true_eq, Option.bind_some, if_false, if_true, not_false_eq_true, not_true_eq_false, hjn]
        rw [if_pos (show nI (bI false) = 0 from z0)]
      | true =>
        rw [hr, Bool.true_and] at nxt
        rw [hr] at q0
        obtain ⟨I1, e1, k1⟩ := gain_r (L := L) hF hc' hV hM' h1 h2 hj hb
        have kk1 := rK_trans hp.2 k1
        obtain ⟨I2, e2, k2⟩ := gain_r (L := L) hF (rK_fen kk1 hc) hV (rK_mom kk1 hM) h1 h2 ha hb
        have kk2 := rK_trans kk1 k2
        obtain ⟨I3, e3, k3⟩ := gain_r (L := L) hF (rK_fen kk2 hc) hV (rK_mom kk2 hM) h2 h1 hj ha
        have kk3 := rK_trans kk2 k3
        obtain ⟨I4, e4, k4⟩ := gain_r (L := L) hF (rK_fen kk3 hc) hV (rK_mom kk3 hM) h2 h1 hb ha
        have kk4 := rK_trans kk3 k4
        have b1 := gain_le F V one other j b
        have b2 := gain_le F V one other a b
        have b3 := gain_le F V other one j a
        have b4 := gain_le F V other one b a
        have run : r_X8_isRest_4 (m + 1) (nI one) (nI other) (nI a) (nI b) (nI s.1) (nI j) s.2 L = if gain F V one other a b < gain F V one other j b then r_X8_isRest_4 m (nI one) (nI other) (nI a) (nI b) (nI 0) (nI (j + 1)) I2 L else if gain F V other one b a < gain F V other one j a then r_X8_isRest_4 m (nI one) (nI other) (nI a) (nI b) (nI 0) (nI (j + 1)) I4 L else r_X8_isRest_4 m (nI one) (nI other) (nI a) (nI b) (nI 1) (nI (j + 1)) I4 L := by
          rw [q0, r_X8_isRest_4, hc'.2.1]
          unfold r_X8_isRest_38
          rw [e1]
          simp only [Option.bind_some]
          rw [e2]
          simp only [Option.bind_some]
          rw [e3]
          simp only [Option.bind_some]
          rw [e4]
          simp (disch := omega) only [n_le, n_lt, n_eq, n_eq0, n_0lt, n_le0, n_lt0, n_0le, n_gvp, n_gx, n_add, n_mul, decide_eq_true_eq, Option.bind_some, if_false, if_true, not_false_eq_true, not_true_eq_false, hjn]
          rw [if_neg (show ¬ nI (bI true) = 0 from z1)]
        by_cases q1 : gain F V one other a b < gain F V one other j b
        · refine Or.inl ⟨(0, I2), run.trans (if_pos q1), ?_, kk2⟩
          rw [nxt]
          have : ¬ gain F V one other j b ≤ gain F V one other a b := by omega
          simp [this, bI]
        · by_cases q2 : gain F V other one b a < gain F V other one j a
          · refine Or.inl ⟨(0, I4), run.trans ((if_neg q1).trans (if_pos q2)), ?_, kk4⟩
            rw [nxt]
            have : ¬ gain F V other one j a ≤ gain F V other one b a := by omega
            simp [this, bI]
          · refine Or.inl ⟨(1, I4), run.trans ((if_neg q1).trans (if_neg q2)), ?_, kk4⟩
            rw [nxt]
            have w1 : gain F V one other j b ≤ gain F V one other a b := by omega
            have w2 : gain F V other one j a ≤ gain F V other one b a := by omega
            simp [w1, w2, bI])
    (fun m s hp => ⟨_, by
      show r_X8_isRest_4 (m + 1) (nI one) (nI other) (nI a) (nI b) (nI s.1) (nI (fL F)) s.2 L = some (nI s.1, s.2, L)
      rw [r_X8_isRest_4, (rK_fen hp.2 hc).2.1, if_pos (by simp (disch := omega) only [n_le, n_lt, n_eq, n_eq0, n_0lt, n_le0, n_lt0, n_0le, n_gvp, n_gx, n_add, n_mul, decide_eq_true_eq, Option.bind_some, if_false, if_true, not_false_eq_true, not_true_eq_false]; omega), hp.1]
      cases rsN (gain F V one other) (fun a b => gain F V other one b a) a b (fL F) with
      | false => exact if_pos zd0
      | true => exact if_pos zd1, s.2, by rw [hp.1], hp.2⟩) (d := fL F) (j := 0) (N := 100) (s := (1, I)) (by omega) (by omega) ⟨rfl, rK_refl⟩
  obtain ⟨z, e, I', rfl, k⟩ := hh
  exact ⟨I', e, k⟩
theorem rests27_r {I : gII} {L : gLL} {F : TFen} {V : TMom} {one other : Nat} {v3 : Int32} (hF : okF F) (hc : rFen I F) (hV : okM F V) (hM : rMom I 63 0 V) (h1 : one < fB F) (h2 : other < fB F) : ∃ I', r_X8_rests_27 100 (nI one) (nI other) v3 (nI 0) (-9) (nI 0) I L = some ((if ¬ v3 = 0 then (stN (gain F V one other) (fun a b => gain F V other one b a) (fL F) (fL F * fL F)).2 else nI (stN (gain F V one other) (fun a b => gain F V other one b a) (fL F) (fL F * fL F)).1), I', L) ∧ rK I I' := by
  have hL := hF.2.1
  have hLL : fL F * fL F ≤ 9 := Nat.mul_le_mul hL hL
  have hh := gloopE (fun m j (s : Int32 × Int32 × gII) => r_X8_rests_27 m (nI one) (nI other) v3 s.1 s.2.1 (nI j) s.2.2 L) (fun j s => s.1 = nI (stN (gain F V one other) (fun a b => gain F V other one b a) (fL F) j).1 ∧ s.2.1 = (stN (gain F V one other) (fun a b => gain F V other one b a) (fL F) j).2 ∧ rK I s.2.2) (fun z => ∃ I', z = ((if ¬ v3 = 0 then (stN (gain F V one other) (fun a b => gain F V other one b a) (fL F) (fL F * fL F)).2 else nI (stN (gain F V one other) (fun a b => gain F V other one b a) (fL F) (fL F * fL F)).1), I', L) ∧ rK I I') (n := fL F * fL F)
    (fun m j s hj hp => by
      have hc' := rK_fen hp.2.2 hc
      have hM' := rK_mom hp.2.2 hM
      have n0 : 0 < fL F := by
        rcases Nat.eq_zero_or_pos (fL F) with q | q
        · rw [q] at hj
          omega
        · exact q
      have d1 : j / fL F < fL F := Nat.div_lt_of_lt_mul hj
      have d2 : j % fL F < fL F := Nat.mod_lt _ n0
      obtain ⟨I1, e1, k1⟩ := isRest_r (L := L) hF hc' hV hM' h1 h2 d1 d2
      have kk := rK_trans hp.2.2 k1
      have hle := stN_le (gain F V one other) (fun a b => gain F V other one b a) (fL F) j
      have nz : ¬ fL F = 0 := by omega
      have hjn : ¬ fL F * fL F ≤ j := by omega
      show (∃ s' : Int32 × Int32 × gII, r_X8_rests_27 (m + 1) (nI one) (nI other) v3 s.1 s.2.1 (nI j) s.2.2 L = r_X8_rests_27 m (nI one) (nI other) v3 s'.1 s'.2.1 (nI (j + 1)) s'.2.2 L ∧ _) ∨ _
      rw [hp.1, hp.2.1, r_X8_rests_27, hc'.2.1, n_mul, n_div (by omega) n0 (by omega), n_rem (by omega) n0 (by omega), e1]
      unfold r_X8_rests_62
      simp only [Option.bind_some]
      rw [(rK_fen kk hc).2.1, n_div (by omega) n0 (by omega), n_rem (by omega) n0 (by omega)]
      simp (disch := omega) only [n_le, n_lt, n_eq, n_eq0, n_0lt, n_le0, n_lt0, n_0le, n_gvp, n_gx, n_add, n_mul, decide_eq_true_eq, Option.bind_some, if_false, if_true, not_false_eq_true, not_true_eq_false, nz, hjn]
      refine Or.inl ?_
      rw [stN]
      cases hr : rsN (gain F V one other) (fun a b => gain F V other one b a) (j / fL F) (j % fL F) (fL F) with
      | false =>
        rw [if_pos (show nI (bI false) = 0 from z0)]
        exact ⟨(_, _, I1), rfl, rfl, rfl, kk⟩
      | true =>
        rw [if_neg (show ¬ nI (bI true) = 0 from z1)]
        simp only [if_true]
        by_cases q : (stN (gain F V one other) (fun a b => gain F V other one b a) (fL F) j).1 = 0
        · rw [if_neg (fun h => h q)]
          exact ⟨(_, _, I1), rfl, rfl, (if_pos q).symm, kk⟩
        · rw [if_pos q]
          exact ⟨(_, _, I1), rfl, rfl, (if_neg q).symm, kk⟩)
    (fun m s hp => ⟨_, by
      show r_X8_rests_27 (m + 1) (nI one) (nI other) v3 s.1 s.2.1 (nI (fL F * fL F)) s.2.2 L = _
      rw [hp.1, hp.2.1, r_X8_rests_27, (rK_fen hp.2.2 hc).2.1, n_mul, if_pos (by simp (disch := omega) only [n_le, n_lt, n_eq, n_eq0, n_0lt, n_le0, n_lt0, n_0le, n_gvp, n_gx, n_add, n_mul, decide_eq_true_eq, Option.bind_some, if_false, if_true, not_false_eq_true, not_true_eq_false]; omega)], s.2.2, rfl, hp.2.2⟩) (d := fL F * fL F) (j := 0) (N := 100) (s := (nI 0, -9, I)) (by omega) (by omega) ⟨rfl, rfl, rK_refl⟩
  obtain ⟨z, e, I', rfl, k⟩ := hh
  exact ⟨I', e, k⟩
theorem ag_rests (x y w : Int32) : mAg (fun f g I L => r_X7_rests f g I L x y w) (fun I L => r_X8_rests I L x y w) := by
  refine mAg_ask (fun f g I L z hw e a q => by
    have := cHold_lt hw q
    exact w_X7_rests (by omega) e) (fun S hS => ?_)
  have hF := hS.2.1
  have hV := hS.2.2.1
  have hB := hF.2.2.1
  rcases inb_cases x (n := fB (sF S)) (by omega) with e | ⟨b, hb, rfl, e⟩
  · refine ⟨-1, fun f g I L hw hc => ⟨I, L, ?_⟩, fun I L hr => ⟨I, L, ?_, rSame_refl⟩⟩
    · show r_X7_rests f g I L x y w = _
      unfold r_X7_rests r_X7_rests_10
      rw [isBeast_c hc.2.1, e, if_pos z0]
    · show r_X8_rests I L x y w = _
      unfold r_X8_rests r_X8_rests_8
      rw [isBeast_m hF hr.2.1, Option.bind_some, e, if_pos z0]
  rcases inb_cases y (n := fB (sF S)) (by omega) with e2 | ⟨l, hl, rfl, e2⟩
  · refine ⟨-1, fun f g I L hw hc => ⟨I, L, ?_⟩, fun I L hr => ⟨I, L, ?_, rSame_refl⟩⟩
    · show r_X7_rests f g I L (nI b) y w = _
      unfold r_X7_rests r_X7_rests_10
      rw [isBeast_c hc.2.1, e, if_neg z1, isBeast_c hc.2.1, e2, if_neg zn0]
    · show r_X8_rests I L (nI b) y w = _
      unfold r_X8_rests r_X8_rests_8
      rw [isBeast_m hF hr.2.1, Option.bind_some, e, if_neg z1, isBeast_m hF hr.2.1, Option.bind_some, e2, if_neg zn0]
  have cls : ∀ {f g : Nat} {I : gII} {L : gLL}, cFen I f (sF S) → r_X7_rests f g I L (nI b) (nI l) w = if nI b = nI l then some ((-2 : Int32), I, L) else if w < 0 then some ((-2 : Int32), I, L) else if w ≤ nI 1 then r_X7_rests_24 f g 100 (nI b) (nI l) w (nI 0) I L else some ((-2 : Int32), I, L) := fun hc => by
    unfold r_X7_rests r_X7_rests_20
    rw [isBeast_c hc, e, if_neg z1, isBeast_c hc, e2, if_pos z1]
  have rfr : ∀ {I : gII} {L : gLL}, rFen I (sF S) → r_X8_rests I L (nI b) (nI l) w = if nI b = nI l then some ((-2 : Int32), I, L) else if ¬ irg w 0 1 = 0 then r_X8_rests_27 100 (nI b) (nI l) w (nI 0) (-9) (nI 0) I L else some ((-2 : Int32), I, L) := fun hc => by
    unfold r_X8_rests r_X8_rests_19
    rw [isBeast_m hF hc, Option.bind_some, e, if_neg z1, isBeast_m hF hc, Option.bind_some, e2, if_pos z1, in_c (by omega) (by omega)]
  by_cases qe : nI b = nI l
  · exact ⟨-2, fun f g I L hw hc => ⟨I, L, (cls hc.2.1).trans (if_pos qe)⟩, fun I L hr => ⟨I, L, (rfr hr.2.1).trans (if_pos qe), rSame_refl⟩⟩
  rcases irg_cases w (lo := 0) (hi := 1) (by omega) (by omega) with ⟨h, e3⟩ | ⟨h1, h2, h3, e3⟩ | ⟨k, -, hk, rfl, e3⟩
  · have h : w < 0 := h
    exact ⟨-2, fun f g I L hw hc => ⟨I, L, (cls hc.2.1).trans ((if_neg qe).trans (if_pos h))⟩, fun I L hr => ⟨I, L, (rfr hr.2.1).trans ((if_neg qe).trans (by rw [e3, if_neg zn0])), rSame_refl⟩⟩
  · have h1 : ¬ w < 0 := h1
    exact ⟨-2, fun f g I L hw hc => ⟨I, L, (cls hc.2.1).trans ((if_neg qe).trans ((if_neg h1).trans (if_neg h3)))⟩, fun I L hr => ⟨I, L, (rfr hr.2.1).trans ((if_neg qe).trans (by rw [e3, if_neg zn0])), rSame_refl⟩⟩
  · refine ⟨(if ¬ nI k = 0 then (stN (gain (sF S) (sV S) b l) (fun i j => gain (sF S) (sV S) l b j i) (fL (sF S)) (fL (sF S) * fL (sF S))).2 else nI (stN (gain (sF S) (sV S) b l) (fun i j => gain (sF S) (sV S) l b j i) (fL (sF S)) (fL (sF S) * fL (sF S))).1), fun f g I L hw hc => ?_, fun I L hr => ?_⟩
    rotate_left
    · obtain ⟨I', e4, k4⟩ := rests27_r (L := L) (v3 := nI k) hF hr.2.1 hV hr.2.2.1 hb hl
      exact ⟨I', L, (rfr hr.2.1).trans ((if_neg qe).trans (by rw [e3, if_pos z1]; exact e4)), rK_same k4⟩
    · obtain ⟨I', e4⟩ := rests24_c (L := L) (v3 := nI k) hw hF hc.2.1 hV hc.2.2.1 hb hl
      exact ⟨I', L, (cls hc.2.1).trans ((if_neg qe).trans ((if_neg (nI_pos (by omega))).trans ((if_pos (by simp (disch := omega) only [n_le, n_lt, n_eq, n_eq0, n_0lt, n_le0, n_lt0, n_0le, n_gvp, n_gx, n_add, n_mul, decide_eq_true_eq, Option.bind_some, if_false, if_true, not_false_eq_true, not_true_eq_false]; omega)).trans e4)))⟩
