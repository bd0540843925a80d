/-! DRIPS: class and reference -/
def fI (F : TFen) (V : TMom) (b l m : Nat) (s : Nat) : Nat := if cnt (song F (oilV V s) b l) ≤ m then 1 else 0
theorem bit_add' : ∀ s, s < 32 → ∀ j, j < 5 → ∀ g, g < 5 → (s / 2 ^ j % 2 = 1 ∨ g = j ∨ (s + 2 ^ j) / 2 ^ g % 2 = s / 2 ^ g % 2) := by decide +kernel
theorem bit_add (s : Nat) (hs : s < 32) (j : Nat) (hj : j < 5) (g : Nat) (hg : g < 5) (h1 : s / 2 ^ j % 2 = 0) (h2 : g ≠ j) : (s + 2 ^ j) / 2 ^ g % 2 = s / 2 ^ g % 2 := by
  rcases bit_add' s hs j hj g hg with h | h | h
  · omega
  · exact absurd h h2
  · exact h
theorem fI_out {F : TFen} {V : TMom} {b l m : Nat} (hF : okF F) (hV : okM F V) (hl : l < fL F) : ∀ j, j < fG F → uno F V l / 2 ^ j % 2 = 0 → ∀ s, s < 2 ^ fG F → s / 2 ^ j % 2 = 0 → fI F V b l m (s + 2 ^ j) = fI F V b l m s := by
  intro j hj hu s hs hb
  have hG := hF.1
  have p32 := pow_le5 hG
  unfold fI
  rw [oil_out hF hV hl (by omega) hu (fun g hg hne => bit_add s (by omega) j (by omega) g hg hb hne)]
theorem chance_c {I : gII} {L : gLL} {s U x : Nat} (hs : s < 32) (hU : U < 32) (hx : x ≤ 10) : r_X7_chanceOf I L (nI s) (nI U) (nI x) = some (nI (kU x (10 - x) U s 5), I, L) := by
  have h := gloopE (fun m j (c : Int32) => r_X7_chanceOf_4 m (nI s) (nI U) (nI x) c (nI j) I L) (fun j c => c = nI (kU x (10 - x) U s j)) (fun z => z = (nI (kU x (10 - x) U s 5), I, L)) (n := 5)
    (fun m j c hj hp => Or.inl ⟨nI (kU x (10 - x) U s (j + 1)), by
      show r_X7_chanceOf_4 (m + 1) (nI s) (nI U) (nI x) c (nI j) I L = r_X7_chanceOf_4 m (nI s) (nI U) (nI x) (nI (kU x (10 - x) U s j * (if U / 2 ^ j % 2 = 1 then (if s / 2 ^ j % 2 = 1 then x else 10 - x) else 1))) (nI (j + 1)) I L
      rw [hp, r_X7_chanceOf_4, if_neg (by simp (disch := omega) only [n_le, n_lt, n_eq, n_eq0, n_0lt, n_le0, n_lt0, n_0le, n_gvp, n_gx, n_add, n_mul, decide_eq_true_eq, Option.bind_some, if_false, if_true, not_false_eq_true, not_true_eq_false]; omega), bit_n (by omega) (by omega), bit_n (by omega) (by omega), n_add]
      unfold r_X7_chanceOf_25
      by_cases q : U / 2 ^ j % 2 = 1
      · rw [if_pos q, q, if_neg z1]
        by_cases w : s / 2 ^ j % 2 = 1
        · rw [if_pos w, w, if_neg z1, n_mul, n_add]
        · have w0 : s / 2 ^ j % 2 = 0 := by omega
          rw [if_neg w, w0, if_pos z0, n_sub hx, n_mul, n_add]
      · have q0 : U / 2 ^ j % 2 = 0 := by omega
        rw [if_neg q, q0, if_pos z0, Nat.mul_one], rfl⟩)
    (fun m c hp => ⟨_, by
      show r_X7_chanceOf_4 (m + 1) (nI s) (nI U) (nI x) c (nI 5) I L = _
      rw [hp, r_X7_chanceOf_4, if_pos (by decide)], rfl⟩) (d := 5) (j := 0) (N := 100) (s := nI 1) (by omega) (by omega) rfl
  obtain ⟨z, e, rfl⟩ := h
  exact e
theorem whenOiled_c {I : gII} {L : gLL} {F : TFen} {V : TMom} {f g b l s : Nat} (hw : gfw f g) (hF : okF F) (hc : cFen I f F) (hV : okM F V) (hM : cMom I L 18 V) (hb : b < fB F) (hl : l < fL F) (hs : s < 2 ^ fG F) : ∃ I' L', r_X7_tonesWhenOiled f g I L (nI b) (nI l) (nI s) = some (nI (cnt (song F (oilV V s) b l)), I', L') ∧ cK I I' ∧ ∀ a, a ≠ 19 → L' a = L a := by
  have hf := gfe_or hw.f
  have b1 := cMom_become (m := 19) hM
  have e3 : i_X4_become I L 19 18 19 3 = nI (mi V) := b1.2.2.2.1
  have m2 : cMom (gu2 (i_X4_become I L 19 18) 19 3 (nI (mi V ||| s))) (l_X4_become I L 19 18) 19 (oilV V s) := cMom_i b1
  have hc2 : cFen (gu2 (i_X4_become I L 19 18) 19 3 (nI (mi V ||| s))) f F := cFen_kept (fun a q1 q2 => (gu2_other (by omega)).trans (wi_X4_become (by omega))) hc
  obtain ⟨I1, e1, s1, k1⟩ := sing_c (s := 53) hw.f rfl rfl hF hc2 (oilV_ok hV hs) m2 hb hl
  refine ⟨I1, l_X4_become I L 19 18, ?_, fun a q => (k1 a (by omega) (by omega)).trans ((gu2_other (by omega)).trans (wi_X4_become (by omega))), fun a ha => wl_X4_become ha⟩
  unfold r_X7_tonesWhenOiled
  rw [e3, n_or, e1, Option.bind_some, count_c (song_le _ _ _ _) (song_len _ _ _ _) s1, Option.bind_some]
theorem drips41_c {I : gII} {L : gLL} {F : TFen} {V : TMom} {f g b l m x : Nat} {u : Int32} (hw : gfw f g) (hF : okF F) (hc : cFen I f F) (hV : okM F V) (hM : cMom I L 18 V) (hb : b < fB F) (hl : l < fL F) (hx : x ≤ 10) (hm : m ≤ 12) (hW0 : 0 < wU x (10 - x) (uno F V l) 5 (fun _ => 1)) (hW1 : wU x (10 - x) (uno F V l) 5 (fun _ => 1) < 131072) (hW2 : wU x (10 - x) (uno F V l) 5 (fI F V b l m) < 2147483648) : ∃ I' L', r_X7_drips_41 f g 100 (nI b) (nI l) (nI m) (nI x) u (nI (uno F V l)) (nI 0) (nI 0) (nI 0) I L = some ((if u = 0 then nI (wU x (10 - x) (uno F V l) 5 (fun _ => 1) / Nat.gcd (wU x (10 - x) (uno F V l) 5 (fI F V b l m)) (wU x (10 - x) (uno F V l) 5 (fun _ => 1))) else nI (wU x (10 - x) (uno F V l) 5 (fI F V b l m) / Nat.gcd (wU x (10 - x) (uno F V l) 5 (fI F V b l m)) (wU x (10 - x) (uno F V l) 5 (fun _ => 1)))), I', L') := by
  have hG := hF.1
  have hU := uno_lt hF hV hl
  have h := gloopE (fun k j (s : Int32 × Int32 × gII × gLL) => r_X7_drips_41 f g k (nI b) (nI l) (nI m) (nI x) u (nI (uno F V l)) s.1 s.2.1 (nI j) s.2.2.1 s.2.2.2) (fun j s => s.1 = nI (sumTo j (fun t => if dif t (uno F V l) = 0 then kU x (10 - x) (uno F V l) t 5 * fI F V b l m t else 0)) ∧ s.2.1 = nI (sumTo j (fun t => if dif t (uno F V l) = 0 then kU x (10 - x) (uno F V l) t 5 * 1 else 0)) ∧ cK I s.2.2.1 ∧ ∀ a, a ≠ 19 → s.2.2.2 a = L a) (fun z => ∃ I' L', z = ((if u = 0 then nI (wU x (10 - x) (uno F V l) 5 (fun _ => 1) / Nat.gcd (wU x (10 - x) (uno F V l) 5 (fI F V b l m)) (wU x (10 - x) (uno F V l) 5 (fun _ => 1))) else nI (wU x (10 - x) (uno F V l) 5 (fI F V b l m) / Nat.gcd (wU x (10 - x) (uno F V l) 5 (fI F V b l m)) (wU x (10 - x) (uno F V l) 5 (fun _ => 1)))), I', L')) (n := 32)
    (fun k j s hj hp => by
      have hc' := cK_fen hw hp.2.2.1 hc
      have hM' : cMom s.2.2.1 s.2.2.2 18 V := cMom_kept (hp.2.2.1 18 (by omega)) (hp.2.2.2 18 (by decide)) hM
      have dv := dif_v j hj _ hU.1
      have e32 : ¬ nI 32 ≤ nI j := by
        simp (disch := omega) only [n_le, n_lt, n_eq, n_eq0, n_0lt, n_le0, n_lt0, n_0le, n_gvp, n_gx, n_add, n_mul, decide_eq_true_eq, Option.bind_some, if_false, if_true, not_false_eq_true, not_true_eq_false]
        omega
      by_cases q : dif j (uno F V l) = 0
      · have hle : j ≤ uno F V l := by
          have := dif_bit j hj _ hU.1
          rcases Nat.lt_or_ge (uno F V l) j with w | w
          · exact absurd (sub_all j hj (uno F V l) hU.1 (fun g hg h1 => by
              have h2 := this.2 g hg
              rw [q] at h2
              rcases (by omega : uno F V l / 2 ^ g % 2 = 0 ∨ uno F V l / 2 ^ g % 2 = 1) with w | w
              · rw [if_pos ⟨h1, w⟩] at h2
                simp at h2
              · exact w)).1 (by omega)
          · exact w
        obtain ⟨I1, L1, e1, k1, l1⟩ := whenOiled_c (g := g) (s := j) hw hF hc' hV hM' hb hl (by omega)
        have hcl : cnt (song F (oilV V j) b l) ≤ 12 := Nat.le_trans (cnt_le _) (song_len _ _ _ _)
        refine Or.inl ⟨(nI (sumTo (j + 1) (fun t => if dif t (uno F V l) = 0 then kU x (10 - x) (uno F V l) t 5 * fI F V b l m t else 0)), nI (sumTo (j + 1) (fun t => if dif t (uno F V l) = 0 then kU x (10 - x) (uno F V l) t 5 * 1 else 0)), I1, L1), ?_, rfl, rfl, cK_trans hp.2.2.1 k1, fun a ha => (l1 a ha).trans (hp.2.2.2 a ha)⟩
        show r_X7_drips_41 f g (k + 1) (nI b) (nI l) (nI m) (nI x) u (nI (uno F V l)) s.1 s.2.1 (nI j) s.2.2.1 s.2.2.2 = r_X7_drips_41 f g k (nI b) (nI l) (nI m) (nI x) u (nI (uno F V l)) (nI (sumTo j (fun t => if dif t (uno F V l) = 0 then kU x (10 - x) (uno F V l) t 5 * fI F V b l m t else 0) + (if dif j (uno F V l) = 0 then kU x (10 - x) (uno F V l) j 5 * fI F V b l m j else 0))) (nI (sumTo j (fun t => if dif t (uno F V l) = 0 then kU x (10 - x) (uno F V l) t 5 * 1 else 0) + (if dif j (uno F V l) = 0 then kU x (10 - x) (uno F V l) j 5 * 1 else 0))) (nI (j + 1)) I1 L1
        rw [if_pos q, if_pos q, hp.1, hp.2.1, r_X7_drips_41, if_neg e32, dv.1, q, if_neg zn0, chance_c hj hU.1 hx, Option.bind_some]
        dsimp only
        rw [e1, Option.bind_some]
        dsimp only
        unfold r_X7_drips_70 fI
        rw [Nat.mul_one, n_add, n_add]
        by_cases w : cnt (song F (oilV V j) b l) ≤ m
        · rw [if_pos w, if_neg (show ¬ nI m < nI (cnt (song F (oilV V j) b l)) by simp (disch := omega) only [n_le, n_lt, n_eq, n_eq0, n_0lt, n_le0, n_lt0, n_0le, n_gvp, n_gx, n_add, n_mul, decide_eq_true_eq, Option.bind_some, if_false, if_true, not_false_eq_true, not_true_eq_false]; omega), n_add, Nat.mul_one, n_add]
        · rw [if_neg w, if_pos (show nI m < nI (cnt (song F (oilV V j) b l)) by simp (disch := omega) only [n_le, n_lt, n_eq, n_eq0, n_0lt, n_le0, n_lt0, n_0le, n_gvp, n_gx, n_add, n_mul, decide_eq_true_eq, Option.bind_some, if_false, if_true, not_false_eq_true, not_true_eq_false]; omega), n_add, Nat.mul_zero]
      · refine Or.inl ⟨(nI (sumTo (j + 1) (fun t => if dif t (uno F V l) = 0 then kU x (10 - x) (uno F V l) t 5 * fI F V b l m t else 0)), nI (sumTo (j + 1) (fun t => if dif t (uno F V l) = 0 then kU x (10 - x) (uno F V l) t 5 * 1 else 0)), s.2.2.1, s.2.2.2), ?_, rfl, rfl, hp.2.2.1, hp.2.2.2⟩
        show r_X7_drips_41 f g (k + 1) (nI b) (nI l) (nI m) (nI x) u (nI (uno F V l)) s.1 s.2.1 (nI j) s.2.2.1 s.2.2.2 = r_X7_drips_41 f g k (nI b) (nI l) (nI m) (nI x) u (nI (uno F V l)) (nI (sumTo j (fun t => if dif t (uno F V l) = 0 then kU x (10 - x) (uno F V l) t 5 * fI F V b l m t else 0) + (if dif j (uno F V l) = 0 then kU x (10 - x) (uno F V l) j 5 * fI F V b l m j else 0))) (nI (sumTo j (fun t => if dif t (uno F V l) = 0 then kU x (10 - x) (uno F V l) t 5 * 1 else 0) + (if dif j (uno F V l) = 0 then kU x (10 - x) (uno F V l) j 5 * 1 else 0))) (nI (j + 1)) s.2.2.1 s.2.2.2
        have dn : ¬ nI (dif j (uno F V l)) = 0 := by
          rw [n_eq0 (by omega)]
          exact q
        rw [if_neg q, if_neg q, hp.1, hp.2.1, r_X7_drips_41, if_neg e32, dv.1, if_pos dn, n_add]
        rfl)
    (fun k s hp => by
      refine ⟨_, ?_, s.2.2.1, s.2.2.2, rfl⟩
      show r_X7_drips_41 f g (k + 1) (nI b) (nI l) (nI m) (nI x) u (nI (uno F V l)) s.1 s.2.1 (nI 32) s.2.2.1 s.2.2.2 = _
      have w1 := wU_sum (x := x) (y := 10 - x) hU.1 5 (by omega) (fI F V b l m)
      have w2 := wU_sum (x := x) (y := 10 - x) hU.1 5 (by omega) (fun _ => 1)
      have w1' : sumTo 32 (fun t => if dif t (uno F V l) = 0 then kU x (10 - x) (uno F V l) t 5 * fI F V b l m t else 0) = _ := w1
      have w2' : sumTo 32 (fun t => if dif t (uno F V l) = 0 then kU x (10 - x) (uno F V l) t 5 * 1 else 0) = _ := w2
      rw [hp.1, hp.2.1, w1', w2', r_X7_drips_41, if_pos (by decide), fraction_c hW2 hW0 hW1]
      rfl) (d := 32) (j := 0) (N := 100) (s := (nI 0, nI 0, I, L)) (by omega) (by omega) ⟨rfl, rfl, cK_refl, fun _ _ => rfl⟩
  obtain ⟨z, e, I', L', rfl⟩ := h
  exact ⟨I', L', e⟩
def rWt (x n s : Nat) : Nat := x ^ popn 13 s * (10 - x) ^ (n - popn 13 s)
theorem popn_n : ∀ n, n ≤ 5 → ∀ s, s < 2 ^ n → popn 13 s ≤ n := by decide +kernel
theorem drips30_r {I : gII} {L : gLL} {F : TFen} {V : TMom} {b l m x : Nat} {u : Int32} (hF : okF F) (hc : rFen I F) (hV : okM F V) (hM : rMom I 63 0 V) (hb : b < fB F) (hl : l < fL F) (hx : x ≤ 10) (hm : m ≤ 12) (hW0 : 0 < wR x (10 - x) (fG F) (fun _ => 1)) (hW1 : wR x (10 - x) (fG F) (fun _ => 1) < 131072) (hW2 : wR x (10 - x) (fG F) (fI F V b l m) < 2147483648) : ∃ I', r_X8_drips_30 100 (nI b) (nI l) (nI m) (nI x) u (nI 0) (nI 0) (nI 0) I L = some ((if u = 0 then nI (wR x (10 - x) (fG F) (fun _ => 1) / Nat.gcd (wR x (10 - x) (fG F) (fI F V b l m)) (wR x (10 - x) (fG F) (fun _ => 1))) else nI (wR x (10 - x) (fG F) (fI F V b l m) / Nat.gcd (wR x (10 - x) (fG F) (fI F V b l m)) (wR x (10 - x) (fG F) (fun _ => 1)))), I', L) ∧ rT I I' := by
  have hG := hF.1
  have p32 := pow_le5 hG
  have hml := hV.2.2.2.2.2.2.2
  have esh : gshl (nI 1) (nI (fG F)) = nI (2 ^ fG F) := by rw [n_shl (by omega) (by omega), Nat.one_mul]
  have h := gloopE (fun k j (s : Int32 × Int32 × gII) => r_X8_drips_30 k (nI b) (nI l) (nI m) (nI x) u s.1 s.2.1 (nI j) s.2.2 L) (fun j s => s.1 = nI (sumTo j (fun t => rWt x (fG F) t * fI F V b l m t)) ∧ s.2.1 = nI (sumTo j (fun t => rWt x (fG F) t * 1)) ∧ rT I s.2.2) (fun z => ∃ I', z = ((if u = 0 then nI (wR x (10 - x) (fG F) (fun _ => 1) / Nat.gcd (wR x (10 - x) (fG F) (fI F V b l m)) (wR x (10 - x) (fG F) (fun _ => 1))) else nI (wR x (10 - x) (fG F) (fI F V b l m) / Nat.gcd (wR x (10 - x) (fG F) (fI F V b l m)) (wR x (10 - x) (fG F) (fun _ => 1)))), I', L) ∧ rT I I') (n := 2 ^ fG F)
    (fun k j s hj hp => by
      have hc' := rT_fen hp.2.2 hc
      have hM' := rT_mom0 hml hp.2.2 hM
      obtain ⟨I1, e1, m1, k1, j1⟩ := trial_r (L := L) hml hM'
      have t1 := rT_trial k1 j1
      have m38 : I1 63 38 = nI (mi V) := m1.2.2.2.1
      have m2 : rMom (gu2 I1 63 38 (nI (mi V ||| j))) 63 27 (oilV V j) := rMom_i m1
      have t2 := rT_trans hp.2.2 (rT_trans t1 (rT_put (I := I1) (k := 38) (x := nI (mi V ||| j)) (by omega)))
      have hc2 := rT_fen t2 hc
      obtain ⟨I2, e2, s2, k2, j2⟩ := lay_r (L := L) (lv := 1) (row := 0) hF hc2 (oilV_ok hV hj) m2 (by omega) (by omega) hb hl
      have t3 := rT_trans t2 (rT_lay k2 j2)
      have hcl : cnt (song F (oilV V j) b l) ≤ 12 := Nat.le_trans (cnt_le _) (song_len _ _ _ _)
      have pj := popn_n (fG F) hG j hj
      have o1 : ∀ {I : gII}, r_X8_ones I L (nI j) = some (nI (popn 13 j), I, L) := ones_r (by omega)
      have ew : rWt x (fG F) j = x ^ popn 13 j * (10 - x) ^ (fG F - popn 13 j) := rfl
      generalize popn 13 j = pp at o1 pj ew
      refine Or.inl ⟨(nI (sumTo (j + 1) (fun t => rWt x (fG F) t * fI F V b l m t)), nI (sumTo (j + 1) (fun t => rWt x (fG F) t * 1)), I2), ?_, rfl, rfl, t3⟩
      show r_X8_drips_30 (k + 1) (nI b) (nI l) (nI m) (nI x) u s.1 s.2.1 (nI j) s.2.2 L = r_X8_drips_30 k (nI b) (nI l) (nI m) (nI x) u (nI (sumTo j (fun t => rWt x (fG F) t * fI F V b l m t) + rWt x (fG F) j * fI F V b l m j)) (nI (sumTo j (fun t => rWt x (fG F) t * 1) + rWt x (fG F) j * 1)) (nI (j + 1)) I2 L
      rw [hp.1, hp.2.1, r_X8_drips_30, hc'.1, esh, if_neg (by simp (disch := omega) only [n_le, n_lt, n_eq, n_eq0, n_0lt, n_le0, n_lt0, n_0le, n_gvp, n_gx, n_add, n_mul, decide_eq_true_eq, Option.bind_some, if_false, if_true, not_false_eq_true, not_true_eq_false]; omega), e1, Option.bind_some]
      dsimp only
      rw [n_gx (by omega), m38, n_or, o1, Option.bind_some, power_r (by omega), Option.bind_some, o1, Option.bind_some]
      dsimp only
      rw [hc2.1, n_sub pj, n_sub hx, power_r (by omega), Option.bind_some]
      dsimp only
      rw [e2, Option.bind_some]
      dsimp only
      rw [loud_r (by omega) (song_le _ _ _ _) (song_len _ _ _ _) s2.2, Option.bind_some]
      dsimp only
      unfold r_X8_drips_80
      rw [n_mul, n_add, n_add, Nat.mul_one, ← ew]
      unfold fI
      by_cases w : cnt (song F (oilV V j) b l) ≤ m
      · rw [if_pos w, if_neg (show ¬ nI m < nI (cnt (song F (oilV V j) b l)) by simp (disch := omega) only [n_le, n_lt, n_eq, n_eq0, n_0lt, n_le0, n_lt0, n_0le, n_gvp, n_gx, n_add, n_mul, decide_eq_true_eq, Option.bind_some, if_false, if_true, not_false_eq_true, not_true_eq_false]; omega), n_add, Nat.mul_one, n_add]
      · rw [if_neg w, if_pos (show nI m < nI (cnt (song F (oilV V j) b l)) by simp (disch := omega) only [n_le, n_lt, n_eq, n_eq0, n_0lt, n_le0, n_lt0, n_0le, n_gvp, n_gx, n_add, n_mul, decide_eq_true_eq, Option.bind_some, if_false, if_true, not_false_eq_true, not_true_eq_false]; omega), n_add, Nat.mul_zero])
    (fun k s hp => by
      have hc' := rT_fen hp.2.2 hc
      refine ⟨_, ?_, s.2.2, rfl, hp.2.2⟩
      show r_X8_drips_30 (k + 1) (nI b) (nI l) (nI m) (nI x) u s.1 s.2.1 (nI (2 ^ fG F)) s.2.2 L = _
      have w1' : sumTo (2 ^ fG F) (fun t => rWt x (fG F) t * fI F V b l m t) = _ := wR_sum (x := x) (y := 10 - x) (fG F) hG (fI F V b l m)
      have w2' : sumTo (2 ^ fG F) (fun t => rWt x (fG F) t * 1) = _ := wR_sum (x := x) (y := 10 - x) (fG F) hG (fun _ => 1)
      have g0 := gcd_pos (a := wR x (10 - x) (fG F) (fI F V b l m)) hW0
      have g1 := gcd_small (a := wR x (10 - x) (fG F) (fI F V b l m)) hW0
      have gz : ¬ (nI (Nat.gcd (wR x (10 - x) (fG F) (fI F V b l m)) (wR x (10 - x) (fG F) (fun _ => 1))) : Int32) = 0 := by
        rw [n_eq0 (by omega)]
        omega
      rw [hp.1, hp.2.1, w1', w2', r_X8_drips_30, hc'.1, esh, if_pos (by simp (disch := omega) only [n_le, n_lt, n_eq, n_eq0, n_0lt, n_le0, n_lt0, n_0le, n_gvp, n_gx, n_add, n_mul, decide_eq_true_eq, Option.bind_some, if_false, if_true, not_false_eq_true, not_true_eq_false]; omega), common_r hW2 hW0 hW1, Option.bind_some]
      unfold r_X8_drips_97
      dsimp only
      rw [if_pos gz, if_pos gz, n_div (by omega) g0 (by omega), n_div hW2 g0 (by omega)]
      by_cases qu : u = 0
      · rw [if_pos qu, if_pos qu]
      · rw [if_neg qu, if_neg qu]) (d := 2 ^ fG F) (j := 0) (N := 100) (s := (nI 0, nI 0, I)) (by omega) (by omega) ⟨rfl, rfl, rT_refl⟩
  obtain ⟨z, e, I', rfl, t⟩ := h
  exact ⟨I', e, t⟩
theorem ag_drips (x y w1 w2 u : Int32) : mAg (fun f g I L => r_X7_drips f g I L x y w1 w2 u) (fun I L => r_X8_drips I L x y w1 w2 u) := by
  refine mAg_ask (fun f g I L z hw e a q => by
    have := cHold_lt hw q
    exact w_X7_drips (by omega) e) (fun S hS => ?_)
  have hF := hS.2.1
  have hV := hS.2.2.1
  have hB := hF.2.2.1
  have hL := hF.2.1
  have hG := hF.1
  rcases inb_cases x (n := fB (sF S)) (by omega) with e | ⟨b, hb, rfl, e⟩
  · refine ⟨-1, fun f g I L hw hc => ⟨I, L, ?_⟩, fun I L hr => ⟨I, L, ?_, rSame_refl⟩⟩
    · show r_X7_drips f g I L x y w1 w2 u = _
      unfold r_X7_drips r_X7_drips_10
      rw [isBeast_c hc.2.1, e, if_pos z0]
    · show r_X8_drips I L x y w1 w2 u = _
      unfold r_X8_drips r_X8_drips_8
      rw [isBeast_m hF hr.2.1, Option.bind_some, e, if_pos z0]
  rcases inb_cases y (n := fL (sF S)) (by omega) with e2 | ⟨l, hl, rfl, e2⟩
  · refine ⟨-1, fun f g I L hw hc => ⟨I, L, ?_⟩, fun I L hr => ⟨I, L, ?_, rSame_refl⟩⟩
    · show r_X7_drips f g I L (nI b) y w1 w2 u = _
      unfold r_X7_drips r_X7_drips_10
      rw [isBeast_c hc.2.1, isLane_c hc.2.1, e, e2, if_neg z1, if_neg zn0]
    · show r_X8_drips I L (nI b) y w1 w2 u = _
      unfold r_X8_drips r_X8_drips_8
      rw [isBeast_m hF hr.2.1, Option.bind_some, e, if_neg z1, isLane_m hF hr.2.1, Option.bind_some, e2, if_neg zn0]
  have cls : ∀ {f g : Nat} {I : gII} {L : gLL}, cFen I f (sF S) → cMom I L 18 (sV S) → r_X7_drips f g I L (nI b) (nI l) w1 w2 u = if w1 < 0 then some ((-2 : Int32), I, L) else if nI 12 < w1 then some ((-2 : Int32), I, L) else if w2 < 0 then some ((-2 : Int32), I, L) else if w2 ≤ nI 10 then r_X7_drips_41 f g 100 (nI b) (nI l) w1 w2 u (nI (uno (sF S) (sV S) l)) (nI 0) (nI 0) (nI 0) I L else some ((-2 : Int32), I, L) := fun hc hM => by
    unfold r_X7_drips r_X7_drips_22
    rw [isBeast_c hc, isLane_c hc, e, e2, if_neg z1, if_pos z1, gatesOf_c hF hc hl, Option.bind_some]
    dsimp only
    rw [hM.2.2.2.1, (dif_v _ (gatesN_lt hF hl).1 _ (okM_h32 hF hV).2.2).1]
    rfl
  have rfr : ∀ {I : gII} {L : gLL}, rFen I (sF S) → r_X8_drips I L (nI b) (nI l) w1 w2 u = if irg w1 0 12 = 0 then some ((-2 : Int32), I, L) else if ¬ irg w2 0 10 = 0 then r_X8_drips_30 100 (nI b) (nI l) w1 w2 u (nI 0) (nI 0) (nI 0) I L else some ((-2 : Int32), I, L) := fun hc => by
    unfold r_X8_drips r_X8_drips_22
    rw [isBeast_m hF hc, Option.bind_some, e, if_neg z1, isLane_m hF hc, Option.bind_some, e2, if_pos z1, in_c (by omega) (by omega), in_c (by omega) (by omega)]
  rcases irg_cases w1 (lo := 0) (hi := 12) (by omega) (by omega) with ⟨h, e3⟩ | ⟨h1, h2, h3, e3⟩ | ⟨m, -, hm, rfl, e3⟩
  · have h : w1 < 0 := h
    exact ⟨-2, fun f g I L hw hc => ⟨I, L, (cls hc.2.1 hc.2.2.1).trans (if_pos h)⟩, fun I L hr => ⟨I, L, (rfr hr.2.1).trans (by rw [e3, if_pos z0]), rSame_refl⟩⟩
  · have h1 : ¬ w1 < 0 := h1
    exact ⟨-2, fun f g I L hw hc => ⟨I, L, (cls hc.2.1 hc.2.2.1).trans ((if_neg h1).trans (if_pos h2))⟩, fun I L hr => ⟨I, L, (rfr hr.2.1).trans (by rw [e3, if_pos z0]), rSame_refl⟩⟩
  have c1 : ¬ nI m < 0 := nI_pos (by omega)
  have c2 : ¬ nI 12 < nI m := by
    simp (disch := omega) only [n_le, n_lt, n_eq, n_eq0, n_0lt, n_le0, n_lt0, n_0le, n_gvp, n_gx, n_add, n_mul, decide_eq_true_eq, Option.bind_some, if_false, if_true, not_false_eq_true, not_true_eq_false]
    omega
  rcases irg_cases w2 (lo := 0) (hi := 10) (by omega) (by omega) with ⟨h, e4⟩ | ⟨h1, h2, h3, e4⟩ | ⟨xx, -, hx, rfl, e4⟩
  · have h : w2 < 0 := h
    exact ⟨-2, fun f g I L hw hc => ⟨I, L, (cls hc.2.1 hc.2.2.1).trans ((if_neg c1).trans ((if_neg c2).trans (if_pos h)))⟩, fun I L hr => ⟨I, L, (rfr hr.2.1).trans (by rw [e3, if_neg z1, e4, if_neg zn0]), rSame_refl⟩⟩
  · have h1 : ¬ w2 < 0 := h1
    exact ⟨-2, fun f g I L hw hc => ⟨I, L, (cls hc.2.1 hc.2.2.1).trans ((if_neg c1).trans ((if_neg c2).trans ((if_neg h1).trans (if_neg h3))))⟩, fun I L hr => ⟨I, L, (rfr hr.2.1).trans (by rw [e3, if_neg z1, e4, if_neg zn0]), rSame_refl⟩⟩
  have hU := uno_lt hF hV hl
  have f5 : ∀ h, wU xx (10 - xx) (uno (sF S) (sV S) l) 5 h = wU xx (10 - xx) (uno (sF S) (sV S) l) (fG (sF S)) h := fun h => by
    have := wU_more (x := xx) (y := 10 - xx) (h := h) hU.2 (5 - fG (sF S))
    rwa [show fG (sF S) + (5 - fG (sF S)) = 5 by omega] at this
  have r1 : wR xx (10 - xx) (fG (sF S)) (fun _ => 1) = cU xx (10 - xx) (uno (sF S) (sV S) l) (fG (sF S)) * wU xx (10 - xx) (uno (sF S) (sV S) l) 5 (fun _ => 1) := by
    rw [f5]
    exact wR_U (fG (sF S)) hG _ (fun _ _ _ _ _ _ => rfl)
  have r2 : wR xx (10 - xx) (fG (sF S)) (fI (sF S) (sV S) b l m) = cU xx (10 - xx) (uno (sF S) (sV S) l) (fG (sF S)) * wU xx (10 - xx) (uno (sF S) (sV S) l) 5 (fI (sF S) (sV S) b l m) := by
    rw [f5]
    exact wR_U (fG (sF S)) hG _ (fI_out hF hV hl)
  have a10 : wR xx (10 - xx) (fG (sF S)) (fun _ => 1) = 10 ^ fG (sF S) := by
    rw [wR_one, show xx + (10 - xx) = 10 by omega]
  have p10 : 0 < 10 ^ fG (sF S) ∧ 10 ^ fG (sF S) ≤ 100000 := ⟨Nat.pow_pos (by decide), Nat.le_trans (Nat.pow_le_pow_right (by decide) hG) (by decide)⟩
  have c0 : 0 < cU xx (10 - xx) (uno (sF S) (sV S) l) (fG (sF S)) := by
    rcases Nat.eq_zero_or_pos (cU xx (10 - xx) (uno (sF S) (sV S) l) (fG (sF S))) with q | q
    · rw [q, Nat.zero_mul] at r1
      omega
    · exact q
  have b0 : 0 < wU xx (10 - xx) (uno (sF S) (sV S) l) 5 (fun _ => 1) := by
    rcases Nat.eq_zero_or_pos (wU xx (10 - xx) (uno (sF S) (sV S) l) 5 (fun _ => 1)) with q | q
    · rw [q, Nat.mul_zero] at r1
      omega
    · exact q
  have b1 : wU xx (10 - xx) (uno (sF S) (sV S) l) 5 (fun _ => 1) ≤ 100000 := by
    have : 1 * wU xx (10 - xx) (uno (sF S) (sV S) l) 5 (fun _ => 1) ≤ cU xx (10 - xx) (uno (sF S) (sV S) l) (fG (sF S)) * wU xx (10 - xx) (uno (sF S) (sV S) l) 5 (fun _ => 1) := Nat.mul_le_mul_right _ c0
    omega
  have fle : ∀ s, fI (sF S) (sV S) b l m s ≤ 1 := fun s => by
    unfold fI
    split <;> omega
  have b2 : wU xx (10 - xx) (uno (sF S) (sV S) l) 5 (fI (sF S) (sV S) b l m) ≤ 100000 := Nat.le_trans (wU_mono 5 _ _ fle) b1
  have b3 : wR xx (10 - xx) (fG (sF S)) (fI (sF S) (sV S) b l m) ≤ 100000 := by
    have : cU xx (10 - xx) (uno (sF S) (sV S) l) (fG (sF S)) * wU xx (10 - xx) (uno (sF S) (sV S) l) 5 (fI (sF S) (sV S) b l m) ≤ cU xx (10 - xx) (uno (sF S) (sV S) l) (fG (sF S)) * wU xx (10 - xx) (uno (sF S) (sV S) l) 5 (fun _ => 1) := Nat.mul_le_mul_left _ (wU_mono 5 _ _ fle)
    omega
  have rt := ratio (a := wU xx (10 - xx) (uno (sF S) (sV S) l) 5 (fI (sF S) (sV S) b l m)) (b := wU xx (10 - xx) (uno (sF S) (sV S) l) 5 (fun _ => 1)) (c := wR xx (10 - xx) (fG (sF S)) (fI (sF S) (sV S) b l m)) (d := wR xx (10 - xx) (fG (sF S)) (fun _ => 1)) b0 (by omega) (by
    rw [r1, r2]
    simp only [Nat.mul_comm, Nat.mul_left_comm, Nat.mul_assoc])
  refine ⟨(if u = 0 then nI (wU xx (10 - xx) (uno (sF S) (sV S) l) 5 (fun _ => 1) / Nat.gcd (wU xx (10 - xx) (uno (sF S) (sV S) l) 5 (fI (sF S) (sV S) b l m)) (wU xx (10 - xx) (uno (sF S) (sV S) l) 5 (fun _ => 1))) else nI (wU xx (10 - xx) (uno (sF S) (sV S) l) 5 (fI (sF S) (sV S) b l m) / Nat.gcd (wU xx (10 - xx) (uno (sF S) (sV S) l) 5 (fI (sF S) (sV S) b l m)) (wU xx (10 - xx) (uno (sF S) (sV S) l) 5 (fun _ => 1)))), fun f g I L hw hc => ?_, fun I L hr => ?_⟩
  · obtain ⟨I', L', e5⟩ := drips41_c (u := u) (g := g) hw hF hc.2.1 hV hc.2.2.1 hb hl hx hm b0 (by omega) (by omega)
    exact ⟨I', L', (cls hc.2.1 hc.2.2.1).trans ((if_neg c1).trans ((if_neg c2).trans ((if_neg (nI_pos (by omega))).trans ((if_pos (by simp (disch := omega) only [n_le, n_lt, n_eq, n_eq0, n_0lt, n_le0, n_lt0, n_0le, n_gvp, n_gx, n_add, n_mul, decide_eq_true_eq, Option.bind_some, if_false, if_true, not_false_eq_true, not_true_eq_false]; omega)).trans e5))))⟩
  · obtain ⟨I', e5, t5⟩ := drips30_r (L := L) (u := u) hF hr.2.1 hV hr.2.2.1 hb hl hx hm (by omega) (by omega) (by omega)
    refine ⟨I', L, (rfr hr.2.1).trans ?_, rT_same t5⟩
    rw [e3, if_neg z1, e4, if_pos z1, rt.1, rt.2]
    exact e5
