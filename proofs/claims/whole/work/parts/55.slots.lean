/-! HUNG, UNDONE, KEPT, HEARD -/
def nM (g : Nat) : Nat := 4294967295 - 15 * 16 ^ g
theorem nM_all : ∀ g, g < 5 → gshl (nI 15) (nI 4 * nI g) ^^^ (-1 : Int32) = nI (nM g) := by decide +kernel
theorem dig_or (x y j : Nat) : (x ||| y) / 16 ^ j % 16 = (x / 16 ^ j % 16) ||| (y / 16 ^ j % 16) := by
  rw [show (16 : Nat) ^ j = 2 ^ (4 * j) by rw [Nat.pow_mul], Nat.or_div_two_pow, show (16 : Nat) = 2 ^ 4 from rfl, Nat.or_mod_two_pow]
theorem dig_and (x y j : Nat) : (x &&& y) / 16 ^ j % 16 = (x / 16 ^ j % 16) &&& (y / 16 ^ j % 16) := by
  rw [show (16 : Nat) ^ j = 2 ^ (4 * j) by rw [Nat.pow_mul], Nat.and_div_two_pow, show (16 : Nat) = 2 ^ 4 from rfl, Nat.and_mod_two_pow]
theorem nM_dig : ∀ g, g < 5 → ∀ j, j < 5 → nM g / 16 ^ j % 16 = if j = g then 0 else 15 := by decide +kernel
theorem t_dig : ∀ t, t < 12 → ∀ g, g < 5 → ∀ j, j < 5 → (t * 16 ^ g) / 16 ^ j % 16 = if j = g then t else 0 := by decide +kernel
theorem pk16_of {R : Nat} {n : Nat → Nat} (hR : R < 1048576) (h : ∀ j, j < 5 → R / 16 ^ j % 16 = n j) : R = pk16 n := by
  have h0 := h 0 (by omega)
  have h1 := h 1 (by omega)
  have h2 := h 2 (by omega)
  have h3 := h 3 (by omega)
  have h4 := h 4 (by omega)
  simp only [Nat.reducePow, Nat.pow_zero, Nat.div_one] at h0 h1 h2 h3 h4
  unfold pk16
  omega
def hangS (V : TMom) (g t : Nat) : TMom := ((fun j => if j = g then t else mn V j), mp V, (mo V, mi V, mh V, mf V), ms V)
theorem hangS_ok {F : TFen} {V : TMom} {g t : Nat} (hV : okM F V) (ht : t < 12) : okM F (hangS V g t) := by
  refine ⟨fun j hj => ?_, hV.2⟩
  show (if j = g then t else mn V j) < 12
  split
  · exact ht
  · exact hV.1 j hj
theorem setNote_c {I : gII} {L : gLL} {F : TFen} {V : TMom} {m g t : Nat} (hV : okM F V) (hM : cMom I L m V) (hg : g < 5) (ht : t < 12) : cMom (i_X4_setNote I L m (nI g) (nI t)) L m (hangS V g t) := by
  obtain ⟨-, lt⟩ := pk16_at hV.1 hg
  have hp : (16 : Nat) ^ g ≤ 65536 := by
    rcases (by omega : g = 0 ∨ g = 1 ∨ g = 2 ∨ g = 3 ∨ g = 4) with rfl | rfl | rfl | rfl | rfl <;> decide
  have e4 : (2 : Nat) ^ (4 * g) = 16 ^ g := by rw [Nat.pow_mul]
  have hT : t * 16 ^ g < 1048576 := Nat.lt_of_le_of_lt (Nat.mul_le_mul (show t ≤ 11 by omega) hp) (by decide)
  have hv : (I m 0 &&& (gshl (nI 15) (nI 4 * nI g) ^^^ (-1 : Int32))) ||| gshl (nI t) (nI 4 * nI g) = nI (pk16 (fun j => if j = g then t else mn V j)) := by
    rw [hM.1, nM_all g hg, n_mul, n_shl (by omega) (by rw [e4]; omega), n_and, n_or, e4]
    congr 1
    apply pk16_of
    · exact Nat.or_lt_two_pow (n := 20) (Nat.lt_of_le_of_lt Nat.and_le_left lt) hT
    · intro j hj
      rw [dig_or, dig_and, nM_dig g hg j hj, t_dig t ht g hg j hj]
      have hd := (pk16_at hV.1 hj).1
      rw [show (2 : Nat) ^ (4 * j) = 16 ^ j by rw [Nat.pow_mul]] at hd
      rw [hd]
      have h12 := hV.1 j hj
      by_cases q : j = g
      · rw [if_pos q, if_pos q, if_pos q]
        simp
      · rw [if_neg q, if_neg q, if_neg q, show (15 : Nat) = 2 ^ 4 - 1 from rfl, Nat.and_two_pow_sub_one_eq_mod]
        simp
        omega
  unfold i_X4_setNote
  rw [hv]
  obtain ⟨m0, m1, m2, m3, m4, m5, m7, hS⟩ := hM
  exact ⟨g2a, (g2n (by decide)).trans m1, (g2n (by decide)).trans m2, (g2n (by decide)).trans m3, (g2n (by decide)).trans m4, (g2n (by decide)).trans m5, (g2n (by decide)).trans m7, hS⟩
theorem fm_up : ∀ a, a < 12 → fm (nI a + nI 1) (nI 12) = nI ((a + 1) % 12) := by decide +kernel
theorem fm_dn : ∀ a, a < 12 → fm (nI a + (-1)) (nI 12) = nI ((a + 11) % 12) := by decide +kernel
theorem ag_hang (x y : Int32) : mAg (fun f g I L => r_X7_hang f g I L x y) (fun I L => r_X8_hang I L x y) := by
  intro S hS
  have hF := hS.2.1
  have hV := hS.2.2.1
  have hG := hF.1
  rcases inb_cases x (n := fG (sF S)) (by omega) with e | ⟨k, hk, rfl, e⟩
  · refine ⟨-1, S, hS, fun f g I L hw hc => ⟨I, L, ?_, hc⟩, fun I L hr => ⟨I, L, ?_, hr⟩⟩
    · show r_X7_hang f g I L x y = _
      unfold r_X7_hang
      rw [isGate_c hc.2.1, e, if_neg (by simp [z0])]
    · show r_X8_hang I L x y = _
      unfold r_X8_hang
      rw [isGate_m hF hr.2.1]
      simp only [Option.bind_some]
      rw [e, if_neg (by simp [z0])]
  · have h12 := hV.1 k (by omega)
    have key : ∃ d, (d = 1 ∨ d = 11) ∧ (∀ f g I L, r_X7_hang_17 f g (nI k) (if y = 0 then (-1 : Int32) else nI 1) I L = if y = 0 then r_X7_hang_17 f g (nI k) (-1 : Int32) I L else r_X7_hang_17 f g (nI k) (nI 1) I L) ∧ fm (nI (mn (sV S) k) + (if y = 0 then (-1 : Int32) else nI 1)) (nI 12) = nI ((mn (sV S) k + d) % 12) ∧ (if y = 0 then nI 11 else nI 1) = nI d := by
      by_cases hy : y = 0
      · refine ⟨11, Or.inr rfl, fun f g I L => ?_, ?_, ?_⟩
        · rw [if_pos hy, if_pos hy]
        · rw [if_pos hy]
          exact fm_dn _ h12
        · rw [if_pos hy]
      · refine ⟨1, Or.inl rfl, fun f g I L => ?_, ?_, ?_⟩
        · rw [if_neg hy, if_neg hy]
        · rw [if_neg hy]
          exact fm_up _ h12
        · rw [if_neg hy]
    obtain ⟨d, hd, ky, kf, kd⟩ := key
    have lt : (mn (sV S) k + d) % 12 < 12 := Nat.mod_lt _ (by decide)
    refine ⟨nI ((mn (sV S) k + d) % 12), setVA S (hangS (sV S) k ((mn (sV S) k + d) % 12)) ((sV S :: sA S).take 14), okSt_push hS (hangS_ok hV lt), fun f g I L hw hc => ?_, fun I L hr => ?_⟩
    · show ∃ I' L', r_X7_hang f g I L (nI k) y = _ ∧ _
      obtain ⟨I1, L1, e1, fin, m1, f1⟩ := actC hw hc
      have m2 := setNote_c (t := (mn (sV S) k + d) % 12) hV m1 (show k < 5 by omega) lt
      refine ⟨_, L1, ?_, fin _ _ L1 m2 (fun a a1 _ _ => ⟨gu2_other a1, rfl⟩)⟩
      unfold r_X7_hang
      rw [isGate_c hc.2.1, e, if_pos z1, e1]
      simp only [Option.bind_some]
      rw [← ky f g I1 L1]
      unfold r_X7_hang_17
      rw [noteOf_c m1 hV (by omega), fm_run (by decide), kf]
      simp only [Option.bind_some]
      rw [noteOf_c m2 (hangS_ok hV lt) (by omega)]
      show some (nI (if k = k then _ else _), _, _) = _
      rw [if_pos rfl]
    · show ∃ I' L', r_X8_hang I L (nI k) y = _ ∧ _
      obtain ⟨I1, e1, fin, m1, f1⟩ := actR hS hr
      have q0 := m1.1 k (by omega)
      rw [Nat.zero_add] at q0
      have m2 : rMom (gu2 I1 63 k (nI ((mn (sV S) k + d) % 12))) 63 0 (hangS (sV S) k ((mn (sV S) k + d) % 12)) := by
        obtain ⟨r0, r5, r10, r11, r12, r13, r14, rs⟩ := m1
        have o : ∀ j, ¬ j = k → gu2 I1 63 k (nI ((mn (sV S) k + d) % 12)) 63 j = I1 63 j := fun j hj => g2n hj
        refine ⟨fun j hj => ?_, fun j hj => (o _ (by omega)).trans (r5 j hj), (o _ (by omega)).trans r10, (o _ (by omega)).trans r11, (o _ (by omega)).trans r12, (o _ (by omega)).trans r13, (o _ (by omega)).trans r14, fun j hj => (o _ (by omega)).trans (rs j hj)⟩
        show _ = nI (if j = k then _ else mn (sV S) j)
        by_cases q : j = k
        · rw [if_pos q, q, Nat.zero_add, g2a]
        · rw [if_neg q, o _ (by omega), r0 j hj]
      refine ⟨_, L, ?_, fin _ _ L m2 (fun a _ a2 _ => gu2_other a2) (fun j _ => by rw [gu2_other (by decide)]) rfl⟩
      unfold r_X8_hang
      rw [isGate_m hF hr.2.1]
      simp only [Option.bind_some]
      rw [e, if_pos z1, e1]
      have h54 : k < 54 := by omega
      have e2 : ∀ dd, (dd = 1 ∨ dd = 11) → r_X8_hang_20 (nI k) (nI k) (nI (mn (sV S) k)) (nI dd) I1 L = some (nI ((mn (sV S) k + dd) % 12), gu2 I1 63 k (nI ((mn (sV S) k + dd) % 12)), L) := by
        intro dd hdd
        unfold r_X8_hang_20
        simp (disch := omega) only [n_le, n_lt, n_eq, n_eq0, n_0lt, n_le0, n_lt0, n_0le, n_gvp, n_gx, n_add, n_mul, decide_eq_true_eq, Option.bind_some, if_false, if_true, not_false_eq_true, not_true_eq_false, h54, n_rem, g2a]
      simp (disch := omega) only [n_le, n_lt, n_eq, n_eq0, n_0lt, n_le0, n_lt0, n_0le, n_gvp, n_gx, n_add, n_mul, decide_eq_true_eq, Option.bind_some, if_false, if_true, not_false_eq_true, not_true_eq_false, h54, q0]
      by_cases hy : y = 0
      · rw [if_pos hy] at kd ⊢
        rw [kd]
        exact e2 d hd
      · rw [if_neg hy] at kd ⊢
        rw [kd]
        exact e2 d hd
theorem cMom_become {I : gII} {L : gLL} {V : TMom} {m m2 : Nat} (h : cMom I L m2 V) : cMom (i_X4_become I L m m2) (l_X4_become I L m m2) m V := become_c h
theorem undo21 {I : gII} {L : gLL} {q : Nat} (hq : q < 14) (h26 : I 57 26 = nI q) : ∃ I', r_X8_undo_21 100 (nI 0) I L = some (I 57 25, I', L) ∧ (∀ i, i < 27 → I' 63 i = I 70 (27 * q + i)) ∧ (∀ a, a ≠ 63 → I' a = I a) := by
  have h := gloopE (fun m j (s : gII) => r_X8_undo_21 m (nI j) s L) (fun j s => (∀ i, i < j → s 63 i = I 70 (27 * q + i)) ∧ ∀ a, a ≠ 63 → s a = I a) (fun z => ∃ I', z = (I 57 25, I', L) ∧ (∀ i, i < 27 → I' 63 i = I 70 (27 * q + i)) ∧ (∀ a, a ≠ 63 → I' a = I a)) (n := 27)
    (fun m j s hj hp => Or.inl ⟨gu2 s 63 j (I 70 (27 * q + j)), by
      show r_X8_undo_21 (m + 1) (nI j) s L = r_X8_undo_21 m (nI (j + 1)) _ L
      rw [r_X8_undo_21, hp.2 57 (by decide), h26, hp.2 70 (by decide)]
      have h1 : 27 * q + j < 378 := by omega
      have h2 : j < 54 := by omega
      simp (disch := omega) only [n_le, n_lt, n_eq, n_eq0, n_0lt, n_le0, n_lt0, n_0le, n_gvp, n_gx, n_add, n_mul, decide_eq_true_eq, Option.bind_some, if_false, if_true, not_false_eq_true, not_true_eq_false, h1, h2]
      rw [if_neg (by omega)], fun i hi => by
        rw [gu2_self]
        by_cases qq : i = j
        · rw [if_pos qq, qq]
        · rw [if_neg qq]
          exact hp.1 i (by omega), fun a ha => (gu2_other ha).trans (hp.2 a ha)⟩)
    (fun m s hp => ⟨(I 57 25, s, L), by
      show r_X8_undo_21 (m + 1) (nI 27) s L = _
      rw [r_X8_undo_21, if_pos (by decide), hp.2 57 (by decide)], s, rfl, hp.1, hp.2⟩) (d := 27) (j := 0) (N := 100) (s := I) rfl (by omega) ⟨fun i hi => by omega, fun a _ => rfl⟩
  obtain ⟨z, e, I', rfl, h1, h2⟩ := h
  exact ⟨I', e, h1, h2⟩
theorem ag_undo : mAg (fun f g I L => r_X7_undo f g I L) (fun I L => r_X8_undo I L) := by
  intro S hS
  have hF := hS.2.1
  have hV := hS.2.2.1
  cases hA : sA S with
  | nil =>
    refine ⟨-3, S, hS, fun f g I L hw hc => ⟨I, L, ?_, hc⟩, fun I L hr => ⟨I, L, ?_, hr⟩⟩
    · have h2 := hc.2.2.2.1.2.1
      rw [hA] at h2
      show r_X7_undo f g I L = _
      unfold r_X7_undo
      rw [h2, if_neg (by decide)]
    · have h2 := hr.2.2.2.1.2.1
      rw [hA] at h2
      show r_X8_undo I L = _
      unfold r_X8_undo
      rw [h2, if_neg (by decide)]
  | cons W As =>
    have hW : okM (sF S) W := hS.2.2.2.1 W (by rw [hA]; exact List.mem_cons_self ..)
    refine ⟨nI As.length, setVA S W As, okSt_act hS hW (fun X hX => hS.2.2.2.1 X (by rw [hA]; exact List.mem_cons_of_mem _ hX)), fun f g I L hw hc => ?_, fun I L hr => ?_⟩
    · show ∃ I' L', r_X7_undo f g I L = _ ∧ _
      obtain ⟨hl, h2, p, hp, h1, hAA⟩ := hc.2.2.2.1
      rw [hA] at hl h2 hAA
      have hl : As.length + 1 ≤ 14 := hl
      have h2 : I 20 2 = nI (As.length + 1) := h2
      have w0 := hAA 0 W rfl
      have w0 : cMom I L (22 + (p + As.length) % 14) W := by
        have e : p + (W :: As).length - 1 - 0 = p + As.length := by simp
        rwa [e] at w0
      have hq : (p + As.length) % 14 < 14 := Nat.mod_lt _ (by decide)
      have w1 : cMom (gu2 I 20 2 (nI As.length)) L (22 + (p + As.length) % 14) W := cMom_kept (gu2_other (by omega)) rfl w0
      have w2 := cMom_become (m := 18) w1
      have k20 : i_X4_become (gu2 I 20 2 (nI As.length)) L 18 (22 + (p + As.length) % 14) 20 = gu2 I 20 2 (nI As.length) 20 := wi_X4_become (by decide)
      refine ⟨i_X4_become (gu2 I 20 2 (nI As.length)) L 18 (22 + (p + As.length) % 14), l_X4_become (gu2 I 20 2 (nI As.length)) L 18 (22 + (p + As.length) % 14), ?_, cSt_act (fun a q => ?_) hc w2 ⟨by omega, ?_, p, hp, ?_, fun j X hX => ?_⟩⟩
      · unfold r_X7_undo r_X0_takeLast r_X0_takeLast_21
        have e1 : gu2 I 20 2 (nI As.length) 20 1 = nI p := by rw [g2n (by decide), h1]
        rw [h2]
        rw [n_sub (by omega), show As.length + 1 - 1 = As.length by omega, e1, g2a]
        have e14 : (p + As.length) % 14 < 14 := hq
        simp (disch := omega) only [n_le, n_lt, n_eq, n_eq0, n_0lt, n_le0, n_lt0, n_0le, n_gvp, n_gx, n_add, n_mul, decide_eq_true_eq, Option.bind_some, if_false, if_true, not_false_eq_true, not_true_eq_false, n_rem, e14]
        rw [if_pos (by omega), if_neg (by omega)]
        simp only [Option.bind_some]
        rw [k20, g2a]
      · have ha : a ≠ 18 ∧ a ≠ 20 := by
          have := wcl hw q
          omega
        exact ⟨(wi_X4_become ha.1).trans (gu2_other ha.2), wl_X4_become ha.1⟩
      · rw [k20, g2a]
      · rw [k20, g2n (by decide), h1]
      · have hj : j < As.length := (List.getElem?_eq_some_iff.mp hX).1
        have := hAA (j + 1) X hX
        have e : (p + (W :: As).length - 1 - (j + 1)) % 14 = (p + As.length - 1 - j) % 14 := by
          have : (W :: As).length = As.length + 1 := rfl
          omega
        rw [e] at this
        have h14 : (p + As.length - 1 - j) % 14 < 14 := Nat.mod_lt _ (by decide)
        exact cMom_kept ((wi_X4_become (by omega)).trans (gu2_other (by omega))) (wl_X4_become (by omega)) this
    · show ∃ I' L', r_X8_undo I L = _ ∧ _
      obtain ⟨hl, h25, q, hq, h26, hAA⟩ := hr.2.2.2.1
      rw [hA] at hl h25 hAA
      have hl : As.length + 1 ≤ 14 := hl
      have h25 : I 57 25 = nI (As.length + 1) := h25
      have w0 := hAA 0 W rfl
      have b25 : gu2 (gu2 I 57 25 (nI As.length)) 57 26 (nI ((q + 13) % 14)) 57 25 = nI As.length := by rw [g2n (by decide), g2a]
      obtain ⟨I2, e2, c1, c2⟩ := undo21 (L := L) (I := gu2 (gu2 I 57 25 (nI As.length)) 57 26 (nI ((q + 13) % 14))) (q := (q + 13) % 14) (Nat.mod_lt _ (by decide)) g2a
      have k57 : ∀ j, j ≠ 25 → j ≠ 26 → I2 57 j = I 57 j := fun j j1 j2 => by rw [c2 57 (by decide), g2n j2, g2n j1]
      have ka : ∀ a, a ≠ 57 → a ≠ 63 → I2 a = I a := fun a a1 a2 => by rw [c2 a a2, gu2_other a1, gu2_other a1]
      have m2 : rMom I2 63 0 W := rMom_copy hW.2.2.2.2.2.2.2 (fun i hi => by
        rw [Nat.zero_add, c1 i hi, gu2_other (by decide), gu2_other (by decide), Nat.sub_zero]) w0
      refine ⟨I2, L, ?_, rSt_act (fun a qa => ka a (by omega) (by omega)) (fun j qj => k57 j (by omega) (by omega)) rfl hr m2 ⟨by omega, ?_, (q + 13) % 14, Nat.mod_lt _ (by decide), ?_, fun j X hX => ?_⟩⟩
      · unfold r_X8_undo
        have e1 : gu2 I 57 25 (nI As.length) 57 26 = nI q := by rw [g2n (by decide), h26]
        rw [h25, n_sub (by omega), show As.length + 1 - 1 = As.length by omega, e1, n_add, n_rem (by omega) (by omega) (by omega), e2, b25, if_pos (by rw [n_eq0 (by omega)]; omega)]
      · rw [c2 57 (by decide), b25]
      · rw [c2 57 (by decide), g2a]
      · have hj : j < As.length := (List.getElem?_eq_some_iff.mp hX).1
        have := hAA (j + 1) X hX
        rw [show (q + 13 - (j + 1)) % 14 = ((q + 13) % 14 + 13 - j) % 14 by omega] at this
        exact rMom_kept (ka 70 (by decide) (by decide)) this
