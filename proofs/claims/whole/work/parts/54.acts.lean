/-! THE CALLS THAT ARE ACTS -/
def mQ (V : TMom) (o i h f : Nat) : TMom := (mn V, mp V, (o, i, h, f), ms V)
theorem cMom_o {I : gII} {L : gLL} {m x : Nat} {V : TMom} (h : cMom I L m V) : cMom (gu2 I m 2 (nI x)) L m (mQ V x (mi V) (mh V) (mf V)) := by
  obtain ⟨m0, m1, m2, m3, m4, m5, m7, hS⟩ := h
  exact ⟨(g2n (by decide)).trans m0, (g2n (by decide)).trans m1, g2a, (g2n (by decide)).trans m3, (g2n (by decide)).trans m4, (g2n (by decide)).trans m5, (g2n (by decide)).trans m7, hS⟩
theorem cMom_i {I : gII} {L : gLL} {m x : Nat} {V : TMom} (h : cMom I L m V) : cMom (gu2 I m 3 (nI x)) L m (mQ V (mo V) x (mh V) (mf V)) := by
  obtain ⟨m0, m1, m2, m3, m4, m5, m7, hS⟩ := h
  exact ⟨(g2n (by decide)).trans m0, (g2n (by decide)).trans m1, (g2n (by decide)).trans m2, g2a, (g2n (by decide)).trans m4, (g2n (by decide)).trans m5, (g2n (by decide)).trans m7, hS⟩
theorem cMom_h {I : gII} {L : gLL} {m x : Nat} {V : TMom} (h : cMom I L m V) : cMom (gu2 I m 4 (nI x)) L m (mQ V (mo V) (mi V) x (mf V)) := by
  obtain ⟨m0, m1, m2, m3, m4, m5, m7, hS⟩ := h
  exact ⟨(g2n (by decide)).trans m0, (g2n (by decide)).trans m1, (g2n (by decide)).trans m2, (g2n (by decide)).trans m3, g2a, (g2n (by decide)).trans m5, (g2n (by decide)).trans m7, hS⟩
theorem cMom_f {I : gII} {L : gLL} {m x : Nat} {V : TMom} (h : cMom I L m V) : cMom (gu2 I m 5 (nI x)) L m (mQ V (mo V) (mi V) (mh V) x) := by
  obtain ⟨m0, m1, m2, m3, m4, m5, m7, hS⟩ := h
  exact ⟨(g2n (by decide)).trans m0, (g2n (by decide)).trans m1, (g2n (by decide)).trans m2, (g2n (by decide)).trans m3, (g2n (by decide)).trans m4, g2a, (g2n (by decide)).trans m7, hS⟩
theorem rMom_put {I : gII} {B x k : Nat} {V : TMom} (h : rMom I 63 B V) (hk : 10 ≤ k ∧ k ≤ 13) : rMom (gu2 I 63 (B + k) (nI x)) 63 B (mQ V (if k = 10 then x else mo V) (if k = 11 then x else mi V) (if k = 12 then x else mh V) (if k = 13 then x else mf V)) := by
  obtain ⟨r0, r5, r10, r11, r12, r13, r14, rs⟩ := h
  have o : ∀ j, ¬ j = B + k → gu2 I 63 (B + k) (nI x) 63 j = I 63 j := fun j hj => g2n hj
  have one : ∀ i y, I 63 (B + i) = nI y → gu2 I 63 (B + k) (nI x) 63 (B + i) = nI (if k = i then x else y) := fun i y hy => by
    by_cases q : k = i
    · subst q
      rw [g2a, if_pos rfl]
    · rw [g2n (by omega), if_neg q, hy]
  exact ⟨fun j hj => (o _ (by omega)).trans (r0 j hj), fun j hj => (o _ (by omega)).trans (r5 j hj), one 10 _ r10, one 11 _ r11, one 12 _ r12, one 13 _ r13, (o _ (by omega)).trans r14, fun j hj => (o _ (by omega)).trans (rs j hj)⟩
theorem rMom_o {I : gII} {B x : Nat} {V : TMom} (h : rMom I 63 B V) : rMom (gu2 I 63 (B + 10) (nI x)) 63 B (mQ V x (mi V) (mh V) (mf V)) := rMom_put (k := 10) h (by omega)
theorem rMom_i {I : gII} {B x : Nat} {V : TMom} (h : rMom I 63 B V) : rMom (gu2 I 63 (B + 11) (nI x)) 63 B (mQ V (mo V) x (mh V) (mf V)) := rMom_put (k := 11) h (by omega)
theorem rMom_h {I : gII} {B x : Nat} {V : TMom} (h : rMom I 63 B V) : rMom (gu2 I 63 (B + 12) (nI x)) 63 B (mQ V (mo V) (mi V) x (mf V)) := rMom_put (k := 12) h (by omega)
theorem rMom_f {I : gII} {B x : Nat} {V : TMom} (h : rMom I 63 B V) : rMom (gu2 I 63 (B + 13) (nI x)) 63 B (mQ V (mo V) (mi V) (mh V) x) := rMom_put (k := 13) h (by omega)
theorem mQ_ok {F : TFen} {V : TMom} {o i h f : Nat} (hV : okM F V) (ho : o < 2 ^ fG F) (hi : i < 2 ^ fG F) (hh : h < 2 ^ fB F) (hf : f ≤ 1) : okM F (mQ V o i h f) := ⟨hV.1, hV.2.1, ho, hi, hh, hf, hV.2.2.2.2.2.2⟩
theorem actC {f g : Nat} {I : gII} {L : gLL} {S : TSt} (hw : gfw f g) (hc : cSt f I L S) : ∃ I1 L1, r_X0_add I L 18 = some (0, I1, L1) ∧ (∀ V' I2 L2, cMom I2 L2 18 V' → (∀ a, a ≠ 18 → a ≠ 53 → a ≠ 54 → I2 a = I1 a ∧ L2 a = L1 a) → cSt f I2 L2 (setVA S V' ((sV S :: sA S).take 14))) ∧ cMom I1 L1 18 (sV S) ∧ cFen I1 f (sF S) := by
  obtain ⟨I1, L1, e, hA, k⟩ := addAct_c hc.2.2.2.1 hc.2.2.1
  have hf := gfe_or hw.f
  refine ⟨I1, L1, e, fun V' I2 L2 hV' k2 => cSt_act (fun a q => ?_) hc hV' (cActs_kept (k2 20 (by decide) (by decide) (by decide)).1 (fun a q1 q2 => k2 a (by omega) (by omega) (by omega)) hA), cMom_kept (k 18 (by decide) (by decide)).1 (k 18 (by decide) (by decide)).2 hc.2.2.1, cFen_kept (fun a q1 q2 => (k a (by omega) (by omega)).1) hc.2.1⟩
  have a1 := k a (by omega) (by omega)
  have a2 := k2 a (by omega) (by omega) (by omega)
  exact ⟨a2.1.trans a1.1, a2.2.trans a1.2⟩
theorem actR {I : gII} {L : gLL} {S : TSt} (hS : okSt S) (hr : rSt I L S) : ∃ I1, r_X8_keepAct I L = some (0, I1, L) ∧ (∀ V' I2 L2, rMom I2 63 0 V' → (∀ a, a ≠ 57 → a ≠ 63 → a ≠ 69 → I2 a = I1 a) → (∀ j, j ≠ 24 → I2 57 j = I1 57 j) → L2 57 33 = L 57 33 → rSt I2 L2 (setVA S V' ((sV S :: sA S).take 14))) ∧ rMom I1 63 0 (sV S) ∧ rFen I1 (sF S) := by
  obtain ⟨I1, e, hA, k, k57⟩ := keepAct_r (L := L) hS.2.2.2.1 hS.2.2.1 hr.2.2.2.1 hr.2.2.1
  refine ⟨I1, e, fun V' I2 L2 hV' k2 k57' hL => rSt_act (fun a q => (k2 a (by omega) (by omega) (by omega)).trans (k a (by omega) (by omega))) (fun j q => (k57' j (by omega)).trans (k57 j (by omega) (by omega))) hL hr hV' (rActs_kept (k57' 25 (by decide)) (k57' 26 (by decide)) (k2 70 (by decide) (by decide) (by decide)) hA), rMom_kept (k 63 (by decide) (by decide)) hr.2.2.1, rFen_kept (fun j q => k57 j (by omega) (by omega)) (fun a q1 q2 => k a (by omega) (by omega)) hr.2.1⟩
theorem canDrive_m {I : gII} {L : gLL} {F : TFen} {V : TMom} {lv b l : Nat} (hlv : lv < 2) (hF : okF F) (hc : rFen I F) (hV : okM F V) (hM : rMom I 63 (27 * lv) V) (hb : b < fB F) (hl : l < fL F) : r_X8_canDrive I L (nI lv) (nI b) (nI l) = some (nI (1 - mh V / 2 ^ b % 2), I, L) := by
  have hB := hF.2.2.1
  have hL := hF.2.1
  have h32 := okM_h32 hF hV
  have e12 := hM.2.2.2.2.1
  have eb : inb (nI b) (fB F) = nI 1 := by
    unfold inb
    simp (disch := omega) only [n_le, n_lt, n_eq, n_eq0, n_0lt, n_le0, n_lt0, n_0le, n_gvp, n_gx, n_add, n_mul, decide_eq_true_eq, Option.bind_some, if_false, if_true, not_false_eq_true, not_true_eq_false]
    rw [if_neg (by omega)]
  have el : inb (nI l) (fL F) = nI 1 := by
    unfold inb
    simp (disch := omega) only [n_le, n_lt, n_eq, n_eq0, n_0lt, n_le0, n_lt0, n_0le, n_gvp, n_gx, n_add, n_mul, decide_eq_true_eq, Option.bind_some, if_false, if_true, not_false_eq_true, not_true_eq_false]
    rw [if_neg (by omega)]
  unfold r_X8_canDrive r_X8_canDrive_22
  rw [isBeast_m hF hc, Option.bind_some, eb, if_neg z1, isLane_m hF hc, Option.bind_some, el, if_neg z1]
  simp (disch := omega) only [n_le, n_lt, n_eq, n_eq0, n_0lt, n_le0, n_lt0, n_0le, n_gvp, n_gx, n_add, n_mul, decide_eq_true_eq, Option.bind_some, if_false, if_true, not_false_eq_true, not_true_eq_false, e12, bit_r]
  rw [if_pos (by omega)]
  rcases (by omega : mh V / 2 ^ b % 2 = 0 ∨ mh V / 2 ^ b % 2 = 1) with q | q
  · rw [if_neg (by omega), q]
    rfl
  · rw [if_pos (by omega), q]
    rfl
theorem ag_drive (x y : Int32) : mAg (fun f g I L => r_X7_drive f g I L x y) (fun I L => r_X8_drive I L x y) := by
  intro S hS
  have hF := hS.2.1
  have hV := hS.2.2.1
  have hB := hF.2.2.1
  have hL := hF.2.1
  have h32 := okM_h32 hF hV
  rcases inb_cases x (n := fB (sF S)) (by omega) with e | ⟨b, hb, rfl, e⟩
  · refine ⟨-1, S, hS, fun f g I L hw hc => ⟨I, L, ?_, hc⟩, fun I L hr => ⟨I, L, ?_, hr⟩⟩
    · show r_X7_drive f g I L x y = _
      unfold r_X7_drive r_X7_drive_10
      rw [isBeast_c hc.2.1, e, if_pos z0]
    · show r_X8_drive I L x y = _
      unfold r_X8_drive r_X8_drive_8
      rw [isBeast_m hF hr.2.1, Option.bind_some, e, if_pos z0]
  rcases inb_cases y (n := fL (sF S)) (by omega) with e2 | ⟨l, hl, rfl, e2⟩
  · refine ⟨-1, S, hS, fun f g I L hw hc => ⟨I, L, ?_, hc⟩, fun I L hr => ⟨I, L, ?_, hr⟩⟩
    · show r_X7_drive f g I L (nI b) y = _
      unfold r_X7_drive r_X7_drive_10
      rw [isBeast_c hc.2.1, isLane_c hc.2.1, e, e2, if_neg z1, if_neg (by simp [z0])]
    · show r_X8_drive I L (nI b) y = _
      unfold r_X8_drive r_X8_drive_8
      rw [isBeast_m hF hr.2.1, Option.bind_some, e, if_neg z1, isLane_m hF hr.2.1, Option.bind_some, e2, if_neg (by simp [z0])]
  rcases (by omega : mh (sV S) / 2 ^ b % 2 = 1 ∨ mh (sV S) / 2 ^ b % 2 = 0) with q | q
  · refine ⟨-3, S, hS, fun f g I L hw hc => ⟨I, L, ?_, hc⟩, fun I L hr => ⟨I, L, ?_, hr⟩⟩
    · show r_X7_drive f g I L (nI b) (nI l) = _
      unfold r_X7_drive
      rw [isBeast_c hc.2.1, isLane_c hc.2.1, e, e2, if_neg z1, if_pos z1, isHome_c hc.2.2.1.2.2.2.2.1 (by omega) (by omega), q, if_neg z1]
    · show r_X8_drive I L (nI b) (nI l) = _
      unfold r_X8_drive
      rw [isBeast_m hF hr.2.1, Option.bind_some, e, if_neg z1, isLane_m hF hr.2.1, Option.bind_some, e2, if_pos z1, canDrive_m (lv := 0) (by omega) hF hr.2.1 hV (by simpa using hr.2.2.1) hb hl, q, Option.bind_some, if_neg (by simp [z0])]
  · refine ⟨nI (cnt (song (sF S) (sV S) b l)), setVA S (driveS (sF S) (sV S) b l) ((sV S :: sA S).take 14), okSt_push hS (driveS_ok hb hV), fun f g I L hw hc => ?_, fun I L hr => ?_⟩
    · show ∃ I' L', r_X7_drive f g I L (nI b) (nI l) = _ ∧ _
      obtain ⟨I1, L1, e1, fin, m1, f1⟩ := actC hw hc
      have hf := gfe_or hw.f
      obtain ⟨I2, L2, e2', m2, s2, k2⟩ := sendHome_c (s := 53) hw.f rfl rfl (fun a q1 q2 => by omega) hF f1 hV m1 hb hl
      refine ⟨I2, L2, ?_, fin _ I2 L2 m2 (fun a a1 a2 a3 => ⟨(k2 a a1).2 a2 a3, (k2 a a1).1⟩)⟩
      unfold r_X7_drive
      rw [isBeast_c hc.2.1, isLane_c hc.2.1, e, e2, if_neg z1, if_pos z1, isHome_c hc.2.2.1.2.2.2.2.1 (by omega) (by omega), q, if_pos z0, e1, Option.bind_some, e2', Option.bind_some, count_c (song_le _ _ _ _) (song_len _ _ _ _) s2, Option.bind_some]
    · show ∃ I' L', r_X8_drive I L (nI b) (nI l) = _ ∧ _
      obtain ⟨I1, e1, fin, m1, f1⟩ := actR hS hr
      obtain ⟨I2, e2', m2, s2, k2, j2, -⟩ := driveOn_r (L := L) (lv := 0) (by omega) hF f1 hV (by simpa using m1) hb hl
      refine ⟨I2, L, ?_, fin _ I2 L (by simpa using m2) k2 j2 rfl⟩
      unfold r_X8_drive
      rw [isBeast_m hF hr.2.1, Option.bind_some, e, if_neg z1, isLane_m hF hr.2.1, Option.bind_some, e2, if_pos z1, canDrive_m (lv := 0) (by omega) hF hr.2.1 hV (by simpa using hr.2.2.1) hb hl, q, Option.bind_some, if_pos z1, e1, Option.bind_some, e2', Option.bind_some]
theorem ag_open (x : Int32) : mAg (fun f g I L => r_X7_open f g I L x) (fun I L => r_X8_open I L x) := by
  intro S hS
  have hF := hS.2.1
  have hV := hS.2.2.1
  have hG := hF.1
  have h32 := okM_h32 hF hV
  rcases inb_cases x (n := fG (sF S)) (by omega) with e | ⟨k, hk, rfl, e⟩
  · refine ⟨-1, S, hS, fun f g I L hw hc => ⟨I, L, ?_, hc⟩, fun I L hr => ⟨I, L, ?_, hr⟩⟩
    · show r_X7_open f g I L x = _
      unfold r_X7_open
      rw [isGate_c hc.2.1, e, if_neg (by simp [z0])]
    · show r_X8_open I L x = _
      unfold r_X8_open
      rw [isGate_m hF hr.2.1, Option.bind_some, e, if_neg (by simp [z0])]
  · have p2 : 2 ^ k ≤ 32 := pow_le5 (by omega)
    have lt : mo (sV S) ^^^ 2 ^ k < 2 ^ fG (sF S) := Nat.xor_lt_two_pow hV.2.2.1 (Nat.pow_lt_pow_right (by decide) hk)
    have lt5 := pow_le5 hG
    refine ⟨nI ((mo (sV S) ^^^ 2 ^ k) / 2 ^ k % 2), setVA S (mQ (sV S) (mo (sV S) ^^^ 2 ^ k) (mi (sV S)) (mh (sV S)) (mf (sV S))) ((sV S :: sA S).take 14), okSt_push hS (mQ_ok hV lt hV.2.2.2.1 hV.2.2.2.2.1 hV.2.2.2.2.2.1), fun f g I L hw hc => ?_, fun I L hr => ?_⟩
    · show ∃ I' L', r_X7_open f g I L (nI k) = _ ∧ _
      obtain ⟨I1, L1, e1, fin, m1, f1⟩ := actC hw hc
      refine ⟨_, L1, ?_, fin _ _ L1 (cMom_o m1) (fun a a1 _ _ => ⟨gu2_other a1, rfl⟩)⟩
      unfold r_X7_open
      rw [isGate_c hc.2.1, e, if_pos z1, e1]
      simp only [Option.bind_some]
      rw [m1.2.2.1, n_shl (by omega) (by omega), Nat.one_mul, n_xor, g2a, bit_n (by omega) (by omega)]
    · show ∃ I' L', r_X8_open I L (nI k) = _ ∧ _
      obtain ⟨I1, e1, fin, m1, f1⟩ := actR hS hr
      refine ⟨_, L, ?_, fin _ _ L (rMom_o m1) (fun a _ a2 _ => gu2_other a2) (fun j _ => by rw [gu2_other (by decide)]) rfl⟩
      unfold r_X8_open
      have e10 := m1.2.2.1
      rw [Nat.zero_add] at e10
      rw [isGate_m hF hr.2.1, Option.bind_some, e, if_pos z1, e1]
      simp only [Option.bind_some]
      rw [n_gx (by omega), e10, n_shl (by omega) (by omega), Nat.one_mul, n_xor, g2a, bit_n (by omega) (by omega)]
theorem ag_oil (x : Int32) : mAg (fun f g I L => r_X7_oil f g I L x) (fun I L => r_X8_oil I L x) := by
  intro S hS
  have hF := hS.2.1
  have hV := hS.2.2.1
  have hG := hF.1
  have h32 := okM_h32 hF hV
  rcases inb_cases x (n := fG (sF S)) (by omega) with e | ⟨k, hk, rfl, e⟩
  · refine ⟨-1, S, hS, fun f g I L hw hc => ⟨I, L, ?_, hc⟩, fun I L hr => ⟨I, L, ?_, hr⟩⟩
    · show r_X7_oil f g I L x = _
      unfold r_X7_oil
      rw [isGate_c hc.2.1, e, if_neg (by simp [z0])]
    · show r_X8_oil I L x = _
      unfold r_X8_oil
      rw [isGate_m hF hr.2.1, Option.bind_some, e, if_neg (by simp [z0])]
  · have p2 : 2 ^ k ≤ 32 := pow_le5 (by omega)
    have lt : mi (sV S) ^^^ 2 ^ k < 2 ^ fG (sF S) := Nat.xor_lt_two_pow hV.2.2.2.1 (Nat.pow_lt_pow_right (by decide) hk)
    have lt5 := pow_le5 hG
    refine ⟨nI ((mi (sV S) ^^^ 2 ^ k) / 2 ^ k % 2), setVA S (mQ (sV S) (mo (sV S)) (mi (sV S) ^^^ 2 ^ k) (mh (sV S)) (mf (sV S))) ((sV S :: sA S).take 14), okSt_push hS (mQ_ok hV hV.2.2.1 lt hV.2.2.2.2.1 hV.2.2.2.2.2.1), fun f g I L hw hc => ?_, fun I L hr => ?_⟩
    · show ∃ I' L', r_X7_oil f g I L (nI k) = _ ∧ _
      obtain ⟨I1, L1, e1, fin, m1, f1⟩ := actC hw hc
      refine ⟨_, L1, ?_, fin _ _ L1 (cMom_i m1) (fun a a1 _ _ => ⟨gu2_other a1, rfl⟩)⟩
      unfold r_X7_oil
      rw [isGate_c hc.2.1, e, if_pos z1, e1]
      simp only [Option.bind_some]
      rw [m1.2.2.2.1, n_shl (by omega) (by omega), Nat.one_mul, n_xor, g2a, bit_n (by omega) (by omega)]
    · show ∃ I' L', r_X8_oil I L (nI k) = _ ∧ _
      obtain ⟨I1, e1, fin, m1, f1⟩ := actR hS hr
      refine ⟨_, L, ?_, fin _ _ L (rMom_i m1) (fun a _ a2 _ => gu2_other a2) (fun j _ => by rw [gu2_other (by decide)]) rfl⟩
      unfold r_X8_oil
      have e10 := m1.2.2.2.1
      rw [Nat.zero_add] at e10
      rw [isGate_m hF hr.2.1, Option.bind_some, e, if_pos z1, e1]
      simp only [Option.bind_some]
      rw [n_gx (by omega), e10, n_shl (by omega) (by omega), Nat.one_mul, n_xor, g2a, bit_n (by omega) (by omega)]
theorem ag_frost : mAg (fun f g I L => r_X7_frost f g I L) (fun I L => r_X8_frost I L) := by
  intro S hS
  have hF := hS.2.1
  have hV := hS.2.2.1
  have hf1 := hV.2.2.2.2.2.1
  have ex : mf (sV S) ^^^ 1 = 1 - mf (sV S) := by
    rcases (by omega : mf (sV S) = 0 ∨ mf (sV S) = 1) with q | q <;> rw [q] <;> rfl
  refine ⟨nI (1 - mf (sV S)), setVA S (mQ (sV S) (mo (sV S)) (mi (sV S)) (mh (sV S)) (1 - mf (sV S))) ((sV S :: sA S).take 14), okSt_push hS (mQ_ok hV hV.2.2.1 hV.2.2.2.1 hV.2.2.2.2.1 (by omega)), fun f g I L hw hc => ?_, fun I L hr => ?_⟩
  · show ∃ I' L', r_X7_frost f g I L = _ ∧ _
    obtain ⟨I1, L1, e1, fin, m1, f1⟩ := actC hw hc
    refine ⟨_, L1, ?_, fin _ _ L1 (cMom_f m1) (fun a a1 _ _ => ⟨gu2_other a1, rfl⟩)⟩
    unfold r_X7_frost
    rw [e1]
    simp only [Option.bind_some]
    rw [m1.2.2.2.2.2.1, n_xor, g2a, ex]
  · show ∃ I' L', r_X8_frost I L = _ ∧ _
    obtain ⟨I1, e1, fin, m1, f1⟩ := actR hS hr
    refine ⟨_, L, ?_, fin _ _ L (rMom_f m1) (fun a _ a2 _ => gu2_other a2) (fun j _ => by rw [gu2_other (by decide)]) rfl⟩
    unfold r_X8_frost
    have e13 := m1.2.2.2.2.2.1
    rw [Nat.zero_add] at e13
    rw [e1]
    simp only [Option.bind_some]
    rw [n_gx (by omega), e13, n_sub (by omega), g2a]
theorem out_all : ∀ h, h < 32 → ∀ b, b < 5 → h / 2 ^ b % 2 = 1 → nI h &&& (gshl (nI 1) (nI b) ^^^ (-1 : Int32)) = nI (h ^^^ 2 ^ b) := by decide +kernel
theorem ag_turnOut (x : Int32) : mAg (fun f g I L => r_X7_turnOut f g I L x) (fun I L => r_X8_turnOut I L x) := by
  intro S hS
  have hF := hS.2.1
  have hV := hS.2.2.1
  have hB := hF.2.2.1
  have h32 := okM_h32 hF hV
  rcases inb_cases x (n := fB (sF S)) (by omega) with e | ⟨k, hk, rfl, e⟩
  · refine ⟨-1, S, hS, fun f g I L hw hc => ⟨I, L, ?_, hc⟩, fun I L hr => ⟨I, L, ?_, hr⟩⟩
    · show r_X7_turnOut f g I L x = _
      unfold r_X7_turnOut
      rw [isBeast_c hc.2.1, e, if_neg (by simp [z0])]
    · show r_X8_turnOut I L x = _
      unfold r_X8_turnOut
      rw [isBeast_m hF hr.2.1, Option.bind_some, e, if_neg (by simp [z0])]
  have r12 : ∀ {I : gII}, rMom I 63 0 (sV S) → I 63 12 = nI (mh (sV S)) := fun h => by
    have := h.2.2.2.2.1
    rwa [Nat.zero_add] at this
  rcases (by omega : mh (sV S) / 2 ^ k % 2 = 0 ∨ mh (sV S) / 2 ^ k % 2 = 1) with q | q
  · refine ⟨-3, S, hS, fun f g I L hw hc => ⟨I, L, ?_, hc⟩, fun I L hr => ⟨I, L, ?_, hr⟩⟩
    · show r_X7_turnOut f g I L (nI k) = _
      unfold r_X7_turnOut
      rw [isBeast_c hc.2.1, e, if_pos z1, isHome_c hc.2.2.1.2.2.2.2.1 (by omega) (by omega), q, if_neg (by simp [z0])]
    · show r_X8_turnOut I L (nI k) = _
      unfold r_X8_turnOut
      rw [isBeast_m hF hr.2.1]
      simp only [Option.bind_some]
      rw [e, if_pos z1, n_gx (by omega), r12 hr.2.2.1, bit_r (by omega) (by omega), q, if_neg (by simp [z0])]
  · have p2 : 2 ^ k ≤ 32 := pow_le5 (by omega)
    have lt : mh (sV S) ^^^ 2 ^ k < 2 ^ fB (sF S) := Nat.xor_lt_two_pow hV.2.2.2.2.1 (Nat.pow_lt_pow_right (by decide) hk)
    have lt5 := pow_le5 hB
    refine ⟨nI (popn 13 (mh (sV S) ^^^ 2 ^ k)), setVA S (mQ (sV S) (mo (sV S)) (mi (sV S)) (mh (sV S) ^^^ 2 ^ k) (mf (sV S))) ((sV S :: sA S).take 14), okSt_push hS (mQ_ok hV hV.2.2.1 hV.2.2.2.1 lt hV.2.2.2.2.2.1), fun f g I L hw hc => ?_, fun I L hr => ?_⟩
    · show ∃ I' L', r_X7_turnOut f g I L (nI k) = _ ∧ _
      obtain ⟨I1, L1, e1, fin, m1, f1⟩ := actC hw hc
      refine ⟨_, L1, ?_, fin _ _ L1 (cMom_h m1) (fun a a1 _ _ => ⟨gu2_other a1, rfl⟩)⟩
      unfold r_X7_turnOut
      rw [isBeast_c hc.2.1, e, if_pos z1, isHome_c hc.2.2.1.2.2.2.2.1 (by omega) (by omega), q, if_pos z1, e1]
      simp only [Option.bind_some]
      rw [m1.2.2.2.2.1, n_shl (by omega) (by omega), Nat.one_mul, n_xor, homeCount_c g2a (by omega)]
    · show ∃ I' L', r_X8_turnOut I L (nI k) = _ ∧ _
      obtain ⟨I1, e1, fin, m1, f1⟩ := actR hS hr
      refine ⟨_, L, ?_, fin _ _ L (rMom_h m1) (fun a _ a2 _ => gu2_other a2) (fun j _ => by rw [gu2_other (by decide)]) rfl⟩
      unfold r_X8_turnOut
      rw [isBeast_m hF hr.2.1]
      simp only [Option.bind_some]
      rw [e, if_pos z1, n_gx (by omega), r12 hr.2.2.1, bit_r (by omega) (by omega), q, if_pos z1, e1]
      simp only [Option.bind_some]
      rw [r12 m1, out_all _ (by omega) _ (by omega) q, g2a, ones_r (by omega), Option.bind_some]
