/-! WEIGHTS BY WHAT WAS HEARD -/
def okH (F : TFen) (V : TMom) (w k : Nat) (h : Nat × Nat × Nat) : Bool := decide (¬ h.1 = k) || decide (fG F ≤ h.2.1) || decide (tone F V h.2.1 w k = h.2.2)
def agN (F : TFen) (V : TMom) (H : List (Nat × Nat × Nat)) (w k : Nat) : Nat → Bool
  | 0 => true
  | j + 1 => agN F V H w k j && okH F V w k (H.getD j (0, 0, 0))
theorem agN_false {F : TFen} {V : TMom} {H : List (Nat × Nat × Nat)} {w k j : Nat} (h : agN F V H w k j = false) : ∀ n, j ≤ n → agN F V H w k n = false := by
  intro n
  induction n with
  | zero =>
    intro hn
    rw [show (0 : Nat) = j by omega]
    exact h
  | succ n ih =>
    intro hn
    by_cases q : j = n + 1
    · rw [← q]
      exact h
    · show (agN F V H w k n && _) = false
      rw [ih (by omega), Bool.false_and]
def bI (b : Bool) : Nat := if b then 1 else 0
theorem H_get {H : List (Nat × Nat × Nat)} {j : Nat} (h : j < H.length) : H[j]? = some (H.getD j (0, 0, 0)) := by
  rw [List.getD_eq_getElem?_getD, List.getElem?_eq_getElem h]
  rfl
theorem agrees_c {I : gII} {L : gLL} {F : TFen} {V : TMom} {H : List (Nat × Nat × Nat)} {f w k : Nat} (hF : okF F) (hc : cFen I f F) (hV : okM F V) (hM : cMom I L 18 V) (hH : cHear I H) (h6 : H.length ≤ 6) (hh : ∀ h ∈ H, h.1 < 4 ∧ h.2.1 < 5 ∧ h.2.2 ≤ 12) (hw : w ≤ 9) (hk : k < 4) : r_X2_agrees I L f 18 (nI w) (nI k) = some (nI (bI (agN F V H w k H.length)), I, L) := by
  have hG := hF.1
  have h := gloopE (fun m j (_ : Unit) => r_X2_agrees_2 f 18 m (nI w) (nI k) (nI j) I L) (fun j _ => agN F V H w k j = true) (fun z => z = (nI (bI (agN F V H w k H.length)), I, L)) (n := H.length)
    (fun m j _ hj hp => by
      have ej := hH.2 j _ (H_get hj)
      have bj := hh _ (getD_in (d := (0, 0, 0)) hj)
      generalize hx : H.getD j (0, 0, 0) = h at ej bj
      have h6' : j < 6 := by omega
      have next : agN F V H w k (j + 1) = okH F V w k h := by
        show (agN F V H w k j && okH F V w k (H.getD j (0, 0, 0))) = _
        rw [hp, hx, Bool.true_and]
      have run : r_X2_agrees_2 f 18 (m + 1) (nI w) (nI k) (nI j) I L = if okH F V w k h = true then r_X2_agrees_2 f 18 m (nI w) (nI k) (nI (j + 1)) I L else some (nI 0, I, L) := by
        rw [r_X2_agrees_2, hH.1]
        unfold r_X2_agrees_21 r_X2_agrees_41 okH
        have z0' : (nI 0 : Int32) = 0 ↔ True := by simp [z0]
        have z1' : (nI 1 : Int32) = 0 ↔ False := by simp [z1]
        rw [isGate_c hc]
        simp (disch := omega) only [n_le, n_lt, n_eq, n_eq0, n_0lt, n_le0, n_lt0, n_0le, n_gvp, n_gx, n_add, n_mul, decide_eq_true_eq, Option.bind_some, if_false, if_true, not_false_eq_true, not_true_eq_false, h6', ej.1, ej.2.1, ej.2.2]
        simp only [show ((0 : Nat) = 0) = True from eq_self 0, show ((1 : Nat) = 0) = False from by simp, if_true, if_false]
        rw [if_neg (by omega)]
        by_cases q1 : h.1 = k
        · rw [if_neg (by simpa using q1)]
          rcases inb_cases (nI h.2.1) (n := fG F) (by omega) with e | ⟨gg, hg, e2, e⟩
          · have : fG F ≤ h.2.1 := by
              unfold inb at e
              simp (disch := omega) only [n_lt0, n_le, if_false] at e
              by_cases q : fG F ≤ h.2.1
              · exact q
              · rw [if_neg q] at e
                exact absurd e (by decide)
            rw [e, if_pos z0, if_pos (by simp [this])]
          · have : h.2.1 = gg := by
              rw [n_eq (by omega) (by omega)] at e2
              exact e2
            rw [e, if_neg z1, tone_c hF hc hV hM (show h.2.1 < fG F by omega) hw hk]
            have tl := tone_le F V h.2.1 w k
            simp (disch := omega) only [n_le, n_lt, n_eq, n_eq0, n_0lt, n_le0, n_lt0, n_0le, n_gvp, n_gx, n_add, n_mul, decide_eq_true_eq, Option.bind_some, if_false, if_true, not_false_eq_true, not_true_eq_false, ej.2.2]
            by_cases q2 : tone F V h.2.1 w k = h.2.2
            · rw [if_pos q2, if_pos (by simp [q2])]
            · rw [if_neg q2, if_neg (by simp [q1, q2]; omega)]
        · rw [if_pos q1, if_pos (by simp [q1])]
      cases hb : okH F V w k h with
      | true =>
        refine Or.inl ⟨(), ?_, by rw [next, hb]⟩
        show r_X2_agrees_2 f 18 (m + 1) (nI w) (nI k) (nI j) I L = _
        rw [run, hb, if_pos rfl]
      | false =>
        refine Or.inr ⟨(nI 0, I, L), ?_, ?_⟩
        · show r_X2_agrees_2 f 18 (m + 1) (nI w) (nI k) (nI j) I L = _
          rw [run, hb, if_neg (by decide)]
        · rw [agN_false (j := j + 1) (by rw [next, hb]) H.length (by omega)]
          rfl)
    (fun m _ hp => ⟨(nI (bI (agN F V H w k H.length)), I, L), by
      show r_X2_agrees_2 f 18 (m + 1) (nI w) (nI k) (nI H.length) I L = _
      rw [r_X2_agrees_2, hH.1, if_pos (by simp (disch := omega) only [n_le, n_lt, n_eq, n_eq0, n_0lt, n_le0, n_lt0, n_0le, n_gvp, n_gx, n_add, n_mul, decide_eq_true_eq, Option.bind_some, if_false, if_true, not_false_eq_true, not_true_eq_false]; omega), hp]
      rfl, rfl⟩) (d := H.length) (j := 0) (N := 100) (s := ()) (by omega) (by omega) rfl
  obtain ⟨z, e, rfl⟩ := h
  exact e
theorem fits_r {I : gII} {L : gLL} {F : TFen} {V : TMom} {H : List (Nat × Nat × Nat)} {w k a : Nat} {K : Int32 → Int32 → Int32 → gII → gLL → Option gRs} (hF : okF F) (hc : rFen I F) (hV : okM F V) (hM : rMom I 63 0 V) (hH : rHear I H) (h6 : H.length ≤ 6) (hh : ∀ h ∈ H, h.1 < 4 ∧ h.2.1 < 5 ∧ h.2.2 ≤ 12) (hw : w ≤ 9) (hk : k < 4) : r_X8_weights_19 K 100 (nI k) (nI a) (nI w) (nI 1) (nI 0) I L = K (nI k) (nI (a ||| (if agN F V H w k H.length then 2 ^ w else 0))) (nI (w + 1)) I L := by
  have hG := hF.1
  have p2 : 2 ^ w < 8192 := p13 (by omega)
  have h := gloop (fun m j (s : Nat) => r_X8_weights_19 K m (nI k) (nI a) (nI w) (nI s) (nI j) I L) (fun j s => s = bI (agN F V H w k j)) (n := H.length)
    (fun m j s hj hp => by
      have ej := hH.2 j _ (H_get hj)
      have bj := hh _ (getD_in (d := (0, 0, 0)) hj)
      generalize hx : H.getD j (0, 0, 0) = h at ej bj
      have h6' : j < 6 := by omega
      refine ⟨bI (agN F V H w k j && okH F V w k h), ?_, by
        show _ = bI (agN F V H w k j && okH F V w k (H.getD j (0, 0, 0)))
        rw [hx]⟩
      show r_X8_weights_19 K (m + 1) (nI k) (nI a) (nI w) (nI s) (nI j) I L = r_X8_weights_19 K m (nI k) (nI a) (nI w) _ (nI (j + 1)) I L
      have s1 : s ≤ 1 := by
        rw [hp]
        unfold bI
        split <;> omega
      have z0' : (nI 0 : Int32) = 0 ↔ True := by simp [z0]
      have z1' : (nI 1 : Int32) = 0 ↔ False := by simp [z1]
      rw [r_X8_weights_19, hH.1, isGate_m hF hc]
      unfold r_X8_weights_38 r_X8_weights_61
      simp (disch := omega) only [n_le, n_lt, n_eq, n_eq0, n_0lt, n_le0, n_lt0, n_0le, n_gvp, n_gx, n_add, n_mul, decide_eq_true_eq, Option.bind_some, if_false, if_true, not_false_eq_true, not_true_eq_false, h6', ej.1, ej.2.1, ej.2.2]
      simp only [show ((0 : Nat) = 0) = True from eq_self 0, show ((1 : Nat) = 0) = False from by simp, if_true, if_false]
      rw [if_neg (by omega)]
      cases ha : agN F V H w k j with
      | false =>
        have hs0 : s = 0 := by rw [hp, ha]; rfl
        subst hs0
        by_cases q1 : h.1 = k
        · rw [if_neg (by simpa using q1), if_pos rfl, if_pos rfl]
          split <;> rfl
        · rw [if_pos q1, if_pos rfl]
          rfl
      | true =>
        have hs0 : s = 1 := by rw [hp, ha]; rfl
        subst hs0
        rw [Bool.true_and]
        by_cases q1 : h.1 = k
        · rw [if_neg (by simpa using q1)]
          rcases inb_cases (nI h.2.1) (n := fG F) (by omega) with e | ⟨gg, hg, e2, e⟩
          · have : fG F ≤ h.2.1 := by
              unfold inb at e
              simp (disch := omega) only [n_lt0, n_le, if_false] at e
              by_cases q : fG F ≤ h.2.1
              · exact q
              · rw [if_neg q] at e
                exact absurd e (by decide)
            rw [e, if_pos z0, if_neg (by omega)]
            unfold okH
            simp [this, bI]
          · have : h.2.1 = gg := by
              rw [n_eq (by omega) (by omega)] at e2
              exact e2
            rw [e, if_neg z1, if_neg (by omega), tone_r (lv := 0) hF hc hV (by simpa using hM) (by omega) (show h.2.1 < fG F by omega) hw hk]
            have tl := tone_le F V h.2.1 w k
            simp (disch := omega) only [n_le, n_lt, n_eq, n_eq0, n_0lt, n_le0, n_lt0, n_0le, n_gvp, n_gx, n_add, n_mul, decide_eq_true_eq, Option.bind_some, if_false, if_true, not_false_eq_true, not_true_eq_false, ej.2.2]
            unfold okH
            by_cases q2 : tone F V h.2.1 w k = h.2.2
            · rw [if_neg (by simpa using q2)]
              simp [q2, bI]
            · rw [if_pos q2]
              have q3 : ¬ fG F ≤ h.2.1 := by omega
              simp [q1, q2, q3, bI]
        · rw [if_pos q1, if_neg (by omega)]
          unfold okH
          simp [q1, bI])
    (d := H.length) (j := 0) (N := 100) (s := 1) (by omega) (by omega) rfl
  obtain ⟨m, s, e, hs⟩ := h
  refine e.trans ?_
  show r_X8_weights_19 K (m + 1) (nI k) (nI a) (nI w) (nI s) (nI H.length) I L = _
  rw [r_X8_weights_19, hH.1, if_pos (by simp (disch := omega) only [n_le, n_lt, n_eq, n_eq0, n_0lt, n_le0, n_lt0, n_0le, n_gvp, n_gx, n_add, n_mul, decide_eq_true_eq, Option.bind_some, if_false, if_true, not_false_eq_true, not_true_eq_false]; omega), hs]
  cases ha : agN F V H w k H.length with
  | false =>
    rw [show bI false = 0 from rfl, if_pos z0, n_or, n_add]
    rfl
  | true =>
    rw [show bI true = 1 from rfl, if_neg z1, n_shl (by omega) (by omega), n_or, n_add, Nat.one_mul]
    rfl
def wtN (F : TFen) (V : TMom) (H : List (Nat × Nat × Nat)) (k : Nat) : Nat → Nat
  | 0 => 0
  | w + 1 => if w = 0 then 0 else wtN F V H k w ||| (if agN F V H w k H.length then 2 ^ w else 0)
theorem ag_weights (x : Int32) : mAg (fun f g I L => r_X7_weights f g I L x) (fun I L => r_X8_weights I L x) := by
  refine mAg_ask (fun f g I L z hw e a q => w_X7_weights id e) (fun S hS => ?_)
  have hF := hS.2.1
  have hV := hS.2.2.1
  have ek : ∀ {I : gII} {L : gLL} {x : Int32}, f_X7_isKind I L x = inb x 4 := rfl
  rcases inb_cases x (n := 4) (by omega) with e2 | ⟨k, hk, rfl, e2⟩
  · refine ⟨-2, fun f g I L hw hc => ⟨I, L, ?_⟩, fun I L hr => ⟨I, L, ?_, rSame_refl⟩⟩
    · show r_X7_weights f g I L x = _
      unfold r_X7_weights
      rw [ek, e2, if_neg (by simp [z0])]
    · show r_X8_weights I L x = _
      unfold r_X8_weights
      rw [in_c (by omega) (by omega), irg_inb (by omega), e2, if_neg (by simp [z0])]
  · have step : ∀ j, 1 ≤ j → wtN (sF S) (sV S) (sH S) k (j + 1) = wtN (sF S) (sV S) (sH S) k j ||| (if agN (sF S) (sV S) (sH S) j k (sH S).length then 2 ^ j else 0) := fun j hj => by
      rw [wtN, if_neg (by omega)]
    refine ⟨nI (wtN (sF S) (sV S) (sH S) k 10), fun f g I L hw hc => ⟨I, L, ?_⟩, fun I L hr => ⟨I, L, ?_, rSame_refl⟩⟩
    · show r_X7_weights f g I L (nI k) = _
      have h := gloopE (fun m j (c : Int32) => r_X7_weights_9 f g m (nI k) c (nI j) I L) (fun j c => 1 ≤ j ∧ c = nI (wtN (sF S) (sV S) (sH S) k j)) (fun z => z = (nI (wtN (sF S) (sV S) (sH S) k 10), I, L)) (n := 10)
        (fun m j c hj hp => Or.inl ⟨nI (wtN (sF S) (sV S) (sH S) k (j + 1)), by
          show r_X7_weights_9 f g (m + 1) (nI k) c (nI j) I L = r_X7_weights_9 f g m (nI k) _ (nI (j + 1)) I L
          have p2 : 2 ^ j < 8192 := p13 (by omega)
          rw [hp.2, r_X7_weights_9, agrees_c hF hc.2.1 hV hc.2.2.1 hc.2.2.2.2.2.1 hS.2.2.2.2.2.1 hS.2.2.2.2.2.2 (by omega) hk, step j hp.1]
          unfold r_X7_weights_28
          simp (disch := omega) only [n_le, n_lt, n_eq, n_eq0, n_0lt, n_le0, n_lt0, n_0le, n_gvp, n_gx, n_add, n_mul, decide_eq_true_eq, Option.bind_some, if_false, if_true, not_false_eq_true, not_true_eq_false]
          rw [if_neg (by omega)]
          cases ha : agN (sF S) (sV S) (sH S) j k (sH S).length with
          | false =>
            rw [if_pos (by rfl)]
            simp
          | true =>
            rw [if_neg (show ¬ nI (bI true) = 0 from z1), n_shl (by omega) (by omega), n_or, Nat.one_mul]
            rfl, by omega, rfl⟩)
        (fun m c hp => ⟨(nI (wtN (sF S) (sV S) (sH S) k 10), I, L), by
          show r_X7_weights_9 f g (m + 1) (nI k) c (nI 10) I L = _
          rw [hp.2, r_X7_weights_9, if_pos (by decide)], rfl⟩) (d := 9) (j := 1) (N := 100) (s := nI 0) (by omega) (by omega) ⟨by omega, rfl⟩
      obtain ⟨z, e, rfl⟩ := h
      unfold r_X7_weights
      rw [ek, e2, if_pos z1]
      exact e
    · show r_X8_weights I L (nI k) = _
      have h := gloopE (fun m j (c : Int32) => r_X8_weights_12 m (nI k) c (nI j) I L) (fun j c => 1 ≤ j ∧ c = nI (wtN (sF S) (sV S) (sH S) k j)) (fun z => z = (nI (wtN (sF S) (sV S) (sH S) k 10), I, L)) (n := 10)
        (fun m j c hj hp => Or.inl ⟨nI (wtN (sF S) (sV S) (sH S) k (j + 1)), by
          show r_X8_weights_12 (m + 1) (nI k) c (nI j) I L = r_X8_weights_12 m (nI k) _ (nI (j + 1)) I L
          rw [hp.2, r_X8_weights_12, fits_r hF hr.2.1 hV hr.2.2.1 hr.2.2.2.2.2.1 hS.2.2.2.2.2.1 hS.2.2.2.2.2.2 (by omega) hk, step j hp.1]
          simp (disch := omega) only [n_le, n_lt, n_eq, n_eq0, n_0lt, n_le0, n_lt0, n_0le, n_gvp, n_gx, n_add, n_mul, decide_eq_true_eq, Option.bind_some, if_false, if_true, not_false_eq_true, not_true_eq_false]
          rw [if_neg (by omega)], by omega, rfl⟩)
        (fun m c hp => ⟨(nI (wtN (sF S) (sV S) (sH S) k 10), I, L), by
          show r_X8_weights_12 (m + 1) (nI k) c (nI 10) I L = _
          rw [hp.2, r_X8_weights_12, if_pos (by decide)], rfl⟩) (d := 9) (j := 1) (N := 100) (s := nI 0) (by omega) (by omega) ⟨by omega, rfl⟩
      obtain ⟨z, e, rfl⟩ := h
      unfold r_X8_weights
      rw [in_c (by omega) (by omega), irg_inb (by omega), e2, if_pos z1]
      exact e
