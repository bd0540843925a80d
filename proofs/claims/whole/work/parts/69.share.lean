/-! SHARES: class and reference -/
def tB (F : TFen) (V : TMom) (l : Nat) (b : Nat) : Nat := tset (song F V b l)
theorem singers_c {I : gII} {L : gLL} {F : TFen} {V : TMom} {f g l t : Nat} (hw : gfw f g) (hF : okF F) (hc : cFen I f F) (hV : okM F V) (hM : cMom I L 18 V) (hl : l < fL F) (ht : t < 12) : ∃ I', r_X7_singersOf f g I L (nI t) (nI l) = some (nI (shS (tB F V l) (fB F) t), I', L) ∧ cK I I' := by
  have hB := hF.2.2.1
  have h := gloopE (fun m j (s : Int32 × gII) => r_X7_singersOf_4 f g m (nI t) (nI l) s.1 (nI j) s.2 L) (fun j s => s.1 = nI (shS (tB F V l) j t) ∧ cK I s.2) (fun z => ∃ I', z = (nI (shS (tB F V l) (fB F) t), I', L) ∧ cK I I') (n := fB F)
    (fun m j s hj hp => by
      have hc' := cK_fen hw hp.2 hc
      have hM' := cK_mom hp.2 hM
      obtain ⟨I1, e1, s1, k1⟩ := sing_c (s := 55) hw.f rfl rfl hF hc' hV hM' hj hl
      have lt := tset_lt (song F V j l)
      refine Or.inl ⟨(nI (shS (tB F V l) (j + 1) t), I1), ?_, rfl, cK_trans hp.2 (fun a q => k1 a (by omega) (by omega))⟩
      show r_X7_singersOf_4 f g (m + 1) (nI t) (nI l) s.1 (nI j) s.2 L = r_X7_singersOf_4 f g m (nI t) (nI l) (nI (shS (tB F V l) j t + tset (song F V j l) / 2 ^ t % 2)) (nI (j + 1)) I1 L
      rw [hp.1, r_X7_singersOf_4, hc'.2.2.1, if_neg (by simp (disch := omega) only [n_le, n_lt, n_eq, n_eq0, n_0lt, n_le0, n_lt0, n_0le, n_gvp, n_gx, n_add, n_mul, decide_eq_true_eq, Option.bind_some, if_false, if_true, not_false_eq_true, not_true_eq_false]; omega), e1]
      simp only [Option.bind_some]
      rw [toneBits_c s1 (song_len _ _ _ _) (song_le _ _ _ _)]
      simp only [Option.bind_some]
      rw [bit_n (by omega) (by omega), n_add, n_add])
    (fun m s hp => ⟨_, by
      show r_X7_singersOf_4 f g (m + 1) (nI t) (nI l) s.1 (nI (fB F)) s.2 L = _
      rw [hp.1, r_X7_singersOf_4, (cK_fen hw hp.2 hc).2.2.1, if_pos (by simp (disch := omega) only [n_le, n_lt, n_eq, n_eq0, n_0lt, n_le0, n_lt0, n_0le, n_gvp, n_gx, n_add, n_mul, decide_eq_true_eq, Option.bind_some, if_false, if_true, not_false_eq_true, not_true_eq_false]; omega)], s.2, rfl, hp.2⟩) (d := fB F) (j := 0) (N := 100) (s := (nI 0, I)) (by omega) (by omega) ⟨rfl, cK_refl⟩
  obtain ⟨z, e, I', rfl, k⟩ := h
  exact ⟨I', e, k⟩
theorem share29_c {I : gII} {L : gLL} {F : TFen} {V : TMom} {f g b l : Nat} {u : Int32} (hw : gfw f g) (hF : okF F) (hc : cFen I f F) (hV : okM F V) (hM : cMom I L 18 V) (hb : b < fB F) (hl : l < fL F) : ∃ I', r_X7_share_29 f g 100 (nI l) u (nI (tB F V l b)) (nI 0) (nI 0) I L = some ((if u = 0 then nI (60 / Nat.gcd (sumTo 12 (shP (tB F V l) (fB F) b)) 60) else nI (sumTo 12 (shP (tB F V l) (fB F) b) / Nat.gcd (sumTo 12 (shP (tB F V l) (fB F) b)) 60)), I', L) := by
  have hB := hF.2.2.1
  have lt := tset_lt (song F V b l)
  have h := gloopE (fun m j (s : Int32 × gII) => r_X7_share_29 f g m (nI l) u (nI (tB F V l b)) s.1 (nI j) s.2 L) (fun j s => s.1 = nI (sumTo j (shP (tB F V l) (fB F) b)) ∧ cK I s.2) (fun z => ∃ I', z = ((if u = 0 then nI (60 / Nat.gcd (sumTo 12 (shP (tB F V l) (fB F) b)) 60) else nI (sumTo 12 (shP (tB F V l) (fB F) b) / Nat.gcd (sumTo 12 (shP (tB F V l) (fB F) b)) 60)), I', L)) (n := 12)
    (fun m j s hj hp => by
      have hc' := cK_fen hw hp.2 hc
      have hM' := cK_mom hp.2 hM
      have e12 : ¬ nI 12 ≤ nI j := by
        simp (disch := omega) only [n_le, n_lt, n_eq, n_eq0, n_0lt, n_le0, n_lt0, n_0le, n_gvp, n_gx, n_add, n_mul, decide_eq_true_eq, Option.bind_some, if_false, if_true, not_false_eq_true, not_true_eq_false]
        omega
      have bb : gshr (nI (tB F V l b)) (nI j) &&& nI 1 = nI (tB F V l b / 2 ^ j % 2) := bit_n (by unfold tB; omega) (by omega)
      by_cases q : tB F V l b / 2 ^ j % 2 = 1
      · obtain ⟨I1, e1, k1⟩ := singers_c (L := L) (g := g) hw hF hc' hV hM' hl hj
        have s1 : 1 ≤ shS (tB F V l) (fB F) j := by
          have := sumTo_ge (h := fun i => tB F V l i / 2 ^ j % 2) (i := b) (fB F) hb
          rw [q] at this
          exact this
        have s5 : shS (tB F V l) (fB F) j ≤ fB F * 1 := sumTo_le (fB F) (fun i _ => by omega)
        refine Or.inl ⟨(nI (sumTo (j + 1) (shP (tB F V l) (fB F) b)), I1), ?_, rfl, cK_trans hp.2 k1⟩
        show r_X7_share_29 f g (m + 1) (nI l) u (nI (tB F V l b)) s.1 (nI j) s.2 L = r_X7_share_29 f g m (nI l) u (nI (tB F V l b)) (nI (sumTo j (shP (tB F V l) (fB F) b) + shP (tB F V l) (fB F) b j)) (nI (j + 1)) I1 L
        rw [hp.1, r_X7_share_29, if_neg e12, bb, q, if_neg z1, e1]
        unfold r_X7_share_51
        simp only [Option.bind_some]
        rw [if_neg (show ¬ nI (shS (tB F V l) (fB F) j) ≤ 0 by rw [n_le0 (by omega)]; omega), if_pos (show ¬ nI (shS (tB F V l) (fB F) j) = 0 by rw [n_eq0 (by omega)]; omega), n_div (by omega) (by omega) (by omega), n_add, n_add]
        unfold shP
        rw [if_pos q]
      · have q0 : tB F V l b / 2 ^ j % 2 = 0 := by omega
        refine Or.inl ⟨(nI (sumTo (j + 1) (shP (tB F V l) (fB F) b)), s.2), ?_, rfl, hp.2⟩
        show r_X7_share_29 f g (m + 1) (nI l) u (nI (tB F V l b)) s.1 (nI j) s.2 L = r_X7_share_29 f g m (nI l) u (nI (tB F V l b)) (nI (sumTo j (shP (tB F V l) (fB F) b) + shP (tB F V l) (fB F) b j)) (nI (j + 1)) s.2 L
        have e0 : shP (tB F V l) (fB F) b j = 0 := by
          unfold shP
          rw [if_neg q]
        rw [hp.1, r_X7_share_29, if_neg e12, bb, q0, if_pos z0, n_add, e0, Nat.add_zero (sumTo j (shP (tB F V l) (fB F) b))])
    (fun m s hp => by
      have hle := shP_le (T := tB F V l) (n := fB F) (b := b)
      refine ⟨_, ?_, s.2, rfl⟩
      show r_X7_share_29 f g (m + 1) (nI l) u (nI (tB F V l b)) s.1 (nI 12) s.2 L = _
      rw [hp.1, r_X7_share_29, if_pos (by decide), fraction_c (by omega) (by omega) (by omega)]
      rfl) (d := 12) (j := 0) (N := 100) (s := (nI 0, I)) (by omega) (by omega) ⟨rfl, cK_refl⟩
  obtain ⟨z, e, I', rfl⟩ := h
  exact ⟨I', e⟩
theorem tonesBy_r {I : gII} {L : gLL} {F : TFen} {V : TMom} {l s : Nat} (hF : okF F) (hc : rFen I F) (hV : okM F V) (hM : rMom I 63 0 V) (hl : l < fL F) (hs : s < 32) : ∃ I', r_X8_tonesBy I L (nI s) (nI l) = some (nI (popn 13 (uniT (tB F V l) s (fB F))), I', L) ∧ rK I I' := by
  have hB := hF.2.2.1
  have hT : ∀ i, tB F V l i < 4096 := fun i => tset_lt _
  have h := gloopE (fun m j (q : Int32 × gII) => r_X8_tonesBy_4 m (nI s) (nI l) q.1 (nI j) q.2 L) (fun j q => q.1 = nI (uniT (tB F V l) s j) ∧ rK I q.2) (fun z => ∃ I', z = (nI (popn 13 (uniT (tB F V l) s (fB F))), I', L) ∧ rK I I') (n := fB F)
    (fun m j q hj hp => by
      have hc' := rK_fen hp.2 hc
      have hM' := rK_mom hp.2 hM
      have ej : ¬ nI (fB F) ≤ nI j := by
        simp (disch := omega) only [n_le, n_lt, n_eq, n_eq0, n_0lt, n_le0, n_lt0, n_0le, n_gvp, n_gx, n_add, n_mul, decide_eq_true_eq, Option.bind_some, if_false, if_true, not_false_eq_true, not_true_eq_false]
        omega
      by_cases w : s / 2 ^ j % 2 = 1
      · obtain ⟨I1, e1, s1, k1, j1⟩ := lay_r (L := L) (lv := 0) (row := 0) hF hc' hV (by simpa using hM') (by omega) (by omega) hj hl
        refine Or.inl ⟨(nI (uniT (tB F V l) s (j + 1)), I1), ?_, rfl, rK_trans hp.2 ⟨k1, j1⟩⟩
        show r_X8_tonesBy_4 (m + 1) (nI s) (nI l) q.1 (nI j) q.2 L = r_X8_tonesBy_4 m (nI s) (nI l) (nI (uniT (tB F V l) s j ||| (if s / 2 ^ j % 2 = 1 then tB F V l j else 0))) (nI (j + 1)) I1 L
        rw [hp.1, r_X8_tonesBy_4, hc'.2.2.1, if_neg ej, bit_r (by omega) (by omega), w, if_neg z1, e1]
        unfold r_X8_tonesBy_24
        simp only [Option.bind_some]
        rw [tonesIn_r (by omega) s1.2 (song_len _ _ _ _) (song_le _ _ _ _)]
        simp only [Option.bind_some]
        rw [n_or, n_add]
        simp only [if_true]
        rfl
      · have w0 : s / 2 ^ j % 2 = 0 := by omega
        refine Or.inl ⟨(nI (uniT (tB F V l) s (j + 1)), q.2), ?_, rfl, hp.2⟩
        show r_X8_tonesBy_4 (m + 1) (nI s) (nI l) q.1 (nI j) q.2 L = r_X8_tonesBy_4 m (nI s) (nI l) (nI (uniT (tB F V l) s j ||| (if s / 2 ^ j % 2 = 1 then tB F V l j else 0))) (nI (j + 1)) q.2 L
        rw [hp.1, r_X8_tonesBy_4, hc'.2.2.1, if_neg ej, bit_r (by omega) (by omega), w0, if_pos z0]
        unfold r_X8_tonesBy_24
        rw [n_or, n_add, if_neg (by decide)])
    (fun m q hp => by
      have lt := uniT_lt hT s (fB F)
      refine ⟨_, ?_, q.2, rfl, hp.2⟩
      show r_X8_tonesBy_4 (m + 1) (nI s) (nI l) q.1 (nI (fB F)) q.2 L = _
      rw [hp.1, r_X8_tonesBy_4, (rK_fen hp.2 hc).2.2.1, if_pos (by simp (disch := omega) only [n_le, n_lt, n_eq, n_eq0, n_0lt, n_le0, n_lt0, n_0le, n_gvp, n_gx, n_add, n_mul, decide_eq_true_eq, Option.bind_some, if_false, if_true, not_false_eq_true, not_true_eq_false]; omega), ones_r (by omega)]
      rfl) (d := fB F) (j := 0) (N := 100) (s := (nI 0, I)) (by omega) (by omega) ⟨rfl, rK_refl⟩
  obtain ⟨z, e, I', rfl, k⟩ := h
  exact ⟨I', e, k⟩
theorem share14_r {I : gII} {L : gLL} {F : TFen} {V : TMom} {b l : Nat} {u : Int32} (hF : okF F) (hc : rFen I F) (hV : okM F V) (hM : rMom I 63 0 V) (hb : b < fB F) (hl : l < fL F) : ∃ I', r_X8_share_14 100 (nI b) (nI l) u (nI 0) (nI 0) I L = some ((if u = 0 then nI (fac (fB F) / Nat.gcd (sumTo (2 ^ fB F) (shG (tB F V l) (fB F) b)) (fac (fB F))) else nI (sumTo (2 ^ fB F) (shG (tB F V l) (fB F) b) / Nat.gcd (sumTo (2 ^ fB F) (shG (tB F V l) (fB F) b)) (fac (fB F)))), I', L) ∧ rK I I' := by
  have hB := hF.2.2.1
  have p32 := pow_le5 hB
  have p2 : 2 ^ b < 2 ^ fB F := Nat.pow_lt_pow_right (by decide) hb
  have hT : ∀ i, tB F V l i < 4096 := fun i => tset_lt _
  have esh : gshl (nI 1) (nI (fB F)) = nI (2 ^ fB F) := by rw [n_shl (by omega) (by omega), Nat.one_mul]
  have h := gloopE (fun m j (q : Int32 × gII) => r_X8_share_14 m (nI b) (nI l) u q.1 (nI j) q.2 L) (fun j q => q.1 = nI (sumTo j (shG (tB F V l) (fB F) b)) ∧ rK I q.2) (fun z => ∃ I', z = ((if u = 0 then nI (fac (fB F) / Nat.gcd (sumTo (2 ^ fB F) (shG (tB F V l) (fB F) b)) (fac (fB F))) else nI (sumTo (2 ^ fB F) (shG (tB F V l) (fB F) b) / Nat.gcd (sumTo (2 ^ fB F) (shG (tB F V l) (fB F) b)) (fac (fB F)))), I', L) ∧ rK I I') (n := 2 ^ fB F)
    (fun m s q hj hp => by
      have hc' := rK_fen hp.2 hc
      have hM' := rK_mom hp.2 hM
      have ej : ¬ nI (2 ^ fB F) ≤ nI s := by
        simp (disch := omega) only [n_le, n_lt, n_eq, n_eq0, n_0lt, n_le0, n_lt0, n_0le, n_gvp, n_gx, n_add, n_mul, decide_eq_true_eq, Option.bind_some, if_false, if_true, not_false_eq_true, not_true_eq_false]
        omega
      by_cases w : s / 2 ^ b % 2 = 1
      · refine Or.inl ⟨(nI (sumTo (s + 1) (shG (tB F V l) (fB F) b)), q.2), ?_, rfl, hp.2⟩
        show r_X8_share_14 (m + 1) (nI b) (nI l) u q.1 (nI s) q.2 L = r_X8_share_14 m (nI b) (nI l) u (nI (sumTo s (shG (tB F V l) (fB F) b) + shG (tB F V l) (fB F) b s)) (nI (s + 1)) q.2 L
        have e0 : shG (tB F V l) (fB F) b s = 0 := by
          unfold shG
          rw [if_pos w]
        rw [hp.1, r_X8_share_14, hc'.2.2.1, esh, if_neg ej, bit_r (by omega) (by omega), w, if_pos z1]
        unfold r_X8_share_55
        rw [n_add, e0, Nat.add_zero (sumTo s (shG (tB F V l) (fB F) b))]
      · have w0 : s / 2 ^ b % 2 = 0 := by omega
        have pb : popn 13 s ≤ fB F - 1 := by
          rw [popn5 s (by omega)]
          exact popn_b (fB F) hB b hb s hj w0
        have o1 : ∀ {I : gII}, r_X8_ones I L (nI s) = some (nI (popn 13 s), I, L) := ones_r (by omega)
        have hor : s ||| 2 ^ b < 32 := Nat.lt_of_lt_of_le (Nat.or_lt_two_pow hj p2) p32
        obtain ⟨I1, e1, k1⟩ := tonesBy_r (L := L) (s := s ||| 2 ^ b) hF hc' hV hM' hl hor
        have kk1 := rK_trans hp.2 k1
        obtain ⟨I2, e2, k2⟩ := tonesBy_r (L := L) (s := s) hF (rK_fen kk1 hc) hV (rK_mom kk1 hM) hl (by omega)
        have kk2 := rK_trans kk1 k2
        have hmono : popn 13 (uniT (tB F V l) s (fB F)) ≤ popn 13 (uniT (tB F V l) (s ||| 2 ^ b) (fB F)) := by
          rw [popn_sum, popn_sum]
          exact (sumTo_sub 13 (fun t _ => by rw [uniT_hit hB, uniT_hit hB]; exact hitB_mono)).1
        have eg : shG (tB F V l) (fB F) b s = fac (popn 13 s) * fac (fB F - 1 - popn 13 s) * (popn 13 (uniT (tB F V l) (s ||| 2 ^ b) (fB F)) - popn 13 (uniT (tB F V l) s (fB F))) := by
          unfold shG shW
          rw [if_neg w]
        generalize popn 13 s = ps at o1 pb eg
        generalize popn 13 (uniT (tB F V l) (s ||| 2 ^ b) (fB F)) = pu at e1 hmono eg
        generalize popn 13 (uniT (tB F V l) s (fB F)) = pv at e2 hmono eg
        refine Or.inl ⟨(nI (sumTo (s + 1) (shG (tB F V l) (fB F) b)), I2), ?_, rfl, kk2⟩
        show r_X8_share_14 (m + 1) (nI b) (nI l) u q.1 (nI s) q.2 L = r_X8_share_14 m (nI b) (nI l) u (nI (sumTo s (shG (tB F V l) (fB F) b) + shG (tB F V l) (fB F) b s)) (nI (s + 1)) I2 L
        rw [hp.1, r_X8_share_14, hc'.2.2.1, esh, if_neg ej, bit_r (by omega) (by omega), w0, if_neg zn0, o1, Option.bind_some, factorial_r (by omega), Option.bind_some, o1, Option.bind_some]
        show ((r_X8_factorial q.2 L (((q.2 57 2) - (nI 1)) - nI ps)).bind (fun z52 => ((r_X8_tonesBy z52.2.1 z52.2.2 (nI s ||| (gshl (nI 1) (nI b))) (nI l)).bind (fun z53 => ((r_X8_tonesBy z53.2.1 z53.2.2 (nI s) (nI l)).bind (fun z54 => (r_X8_share_55 (r_X8_share_14 m) (nI b) (nI l) u (nI (sumTo s (shG (tB F V l) (fB F) b)) + ((nI (fac ps) * z52.1) * (z53.1 - z54.1))) (nI s) z54.2.1 z54.2.2))))))) = _
        rw [hc'.2.2.1, n_sub (by omega), n_sub (by omega), factorial_r (by omega), Option.bind_some, n_shl (by omega) (by omega), Nat.one_mul, n_or, e1, Option.bind_some, e2, Option.bind_some]
        show r_X8_share_14 m (nI b) (nI l) u (nI (sumTo s (shG (tB F V l) (fB F) b)) + ((nI (fac ps) * nI (fac (fB F - 1 - ps))) * (nI pu - nI pv))) (nI s + nI 1) I2 L = _
        rw [n_sub hmono, n_mul, n_mul, n_add, n_add, eg])
    (fun m q hp => by
      have hle := shG_le hT hB hb
      have f0 := fac_pos (fB F)
      have f1 := fac_le (fB F) hB
      have g0 := gcd_pos (a := sumTo (2 ^ fB F) (shG (tB F V l) (fB F) b)) f0
      have g1 := gcd_small (a := sumTo (2 ^ fB F) (shG (tB F V l) (fB F) b)) f0
      have hc' := rK_fen hp.2 hc
      refine ⟨_, ?_, q.2, rfl, hp.2⟩
      show r_X8_share_14 (m + 1) (nI b) (nI l) u q.1 (nI (2 ^ fB F)) q.2 L = _
      have gz : ¬ (nI (Nat.gcd (sumTo (2 ^ fB F) (shG (tB F V l) (fB F) b)) (fac (fB F))) : Int32) = 0 := by
        rw [n_eq0 (by omega)]
        omega
      rw [hp.1, r_X8_share_14, hc'.2.2.1, esh, if_pos (by simp (disch := omega) only [n_le, n_lt, n_eq, n_eq0, n_0lt, n_le0, n_lt0, n_0le, n_gvp, n_gx, n_add, n_mul, decide_eq_true_eq, Option.bind_some, if_false, if_true, not_false_eq_true, not_true_eq_false]; omega), factorial_r hB, Option.bind_some, common_r (by omega) f0 (by omega), Option.bind_some]
      unfold r_X8_share_74
      by_cases qu : u = 0
      · rw [if_pos qu, if_pos qu]
        dsimp only
        rw [hc'.2.2.1, factorial_r hB, Option.bind_some]
        dsimp only
        rw [if_pos gz, n_div (by omega) g0 (by omega)]
      · rw [if_neg qu, if_neg qu]
        dsimp only
        rw [if_pos gz, n_div (by omega) g0 (by omega)]) (d := 2 ^ fB F) (j := 0) (N := 100) (s := (nI 0, I)) (by omega) (by omega) ⟨rfl, rK_refl⟩
  obtain ⟨z, e, I', rfl, k⟩ := h
  exact ⟨I', e, k⟩
theorem ag_share (x y u : Int32) : mAg (fun f g I L => r_X7_share f g I L x y u) (fun I L => r_X8_share I L x y u) := by
  refine mAg_ask (fun f g I L z hw e a q => by
    have := cHold_lt hw q
    exact w_X7_share (by omega) e) (fun S hS => ?_)
  have hF := hS.2.1
  have hV := hS.2.2.1
  have hB := hF.2.2.1
  have hL := hF.2.1
  rcases inb_cases x (n := fB (sF S)) (by omega) with e | ⟨b, hb, rfl, e⟩
  · refine ⟨-1, fun f g I L hw hc => ⟨I, L, ?_⟩, fun I L hr => ⟨I, L, ?_, rSame_refl⟩⟩
    · show r_X7_share f g I L x y u = _
      unfold r_X7_share r_X7_share_10
      rw [isBeast_c hc.2.1, e, if_pos z0]
    · show r_X8_share I L x y u = _
      unfold r_X8_share r_X8_share_8
      rw [isBeast_m hF hr.2.1, Option.bind_some, e, if_pos z0]
  rcases inb_cases y (n := fL (sF S)) (by omega) with e2 | ⟨l, hl, rfl, e2⟩
  · refine ⟨-1, fun f g I L hw hc => ⟨I, L, ?_⟩, fun I L hr => ⟨I, L, ?_, rSame_refl⟩⟩
    · show r_X7_share f g I L (nI b) y u = _
      unfold r_X7_share r_X7_share_10
      rw [isBeast_c hc.2.1, isLane_c hc.2.1, e, e2, if_neg z1, if_neg zn0]
    · show r_X8_share I L (nI b) y u = _
      unfold r_X8_share r_X8_share_8
      rw [isBeast_m hF hr.2.1, Option.bind_some, e, if_neg z1, isLane_m hF hr.2.1, Option.bind_some, e2, if_neg zn0]
  have hT : ∀ i, tB (sF S) (sV S) l i < 4096 := fun i => tset_lt _
  have rt := ratio (a := sumTo 12 (shP (tB (sF S) (sV S) l) (fB (sF S)) b)) (b := 60) (c := sumTo (2 ^ fB (sF S)) (shG (tB (sF S) (sV S) l) (fB (sF S)) b)) (d := fac (fB (sF S))) (by omega) (fac_pos _) (by
    rw [Nat.mul_comm, ← share_sum hT hB hb, Nat.mul_comm])
  refine ⟨(if u = 0 then nI (60 / Nat.gcd (sumTo 12 (shP (tB (sF S) (sV S) l) (fB (sF S)) b)) 60) else nI (sumTo 12 (shP (tB (sF S) (sV S) l) (fB (sF S)) b) / Nat.gcd (sumTo 12 (shP (tB (sF S) (sV S) l) (fB (sF S)) b)) 60)), fun f g I L hw hc => ?_, fun I L hr => ?_⟩
  · show ∃ I' L', r_X7_share f g I L (nI b) (nI l) u = _
    obtain ⟨c1, c2, c3, -⟩ := hc
    have hf := gfe_or hw.f
    obtain ⟨I1, e5, s1, k1⟩ := sing_c (s := 53) hw.f rfl rfl hF c2 hV c3 hb hl
    obtain ⟨I2, e6⟩ := share29_c (u := u) (g := g) hw hF (cFen_kept (fun a q1 q2 => k1 a (by omega) (by omega)) c2) hV (cMom_kept (L' := L) (k1 18 (by decide) (by decide)) rfl c3) hb hl
    refine ⟨I2, L, ?_⟩
    unfold r_X7_share
    rw [isBeast_c c2, isLane_c c2, e, e2, if_neg z1, if_pos z1, e5, Option.bind_some, toneBits_c s1 (song_len _ _ _ _) (song_le _ _ _ _), Option.bind_some]
    exact e6
  · show ∃ I' L', r_X8_share I L (nI b) (nI l) u = _ ∧ _
    obtain ⟨I1, e5, k1⟩ := share14_r (L := L) (u := u) hF hr.2.1 hV hr.2.2.1 hb hl
    refine ⟨I1, L, ?_, rK_same k1⟩
    unfold r_X8_share
    rw [isBeast_m hF hr.2.1, Option.bind_some, e, if_neg z1, isLane_m hF hr.2.1, Option.bind_some, e2, if_pos z1, rt.1, rt.2]
    exact e5
