/-! FIT, HARMONY, A TRIAL -/
theorem lAt_app {xs ys : List Nat} {j : Nat} : lAt (xs.reverse ++ ys) j = if j < xs.length then nI (xs.getD (xs.length - 1 - j) 0) else lAt ys (j - xs.length) := by
  unfold lAt
  by_cases h : j < xs.length
  · rw [if_pos (by rw [List.length_append, List.length_reverse]; omega), if_pos h, List.getD_eq_getElem?_getD, List.getD_eq_getElem?_getD, List.getElem?_append_left (by rw [List.length_reverse]; exact h), List.getElem?_reverse h]
  · rw [if_neg h, List.getD_eq_getElem?_getD, List.getElem?_append_right (by rw [List.length_reverse]; omega), List.length_append, List.length_reverse, ← List.getD_eq_getElem?_getD]
    by_cases q : j - xs.length < ys.length
    · rw [if_pos q, if_pos (by omega)]
    · rw [if_neg q, if_neg (by omega)]
def fitE (F : TFen) (zs : List Nat) (v b : Nat) : Nat := if lAt zs b = nI (fv F (4 * v + 3 - b)) then 1 else 0
def fitL (F : TFen) (zs : List Nat) (v : Nat) : Nat := fitE F zs v 0 + fitE F zs v 1 + fitE F zs v 2 + fitE F zs v 3
theorem fitE_le (F : TFen) (zs : List Nat) (v b : Nat) : fitE F zs v b ≤ 1 := by
  unfold fitE
  split <;> omega
theorem fitL_le (F : TFen) (zs : List Nat) (v : Nat) : fitL F zs v ≤ 4 := by
  have h0 := fitE_le F zs v 0
  have h1 := fitE_le F zs v 1
  have h2 := fitE_le F zs v 2
  have h3 := fitE_le F zs v 3
  unfold fitL
  omega
theorem fit_step {I : gII} {L : gLL} {F : TFen} {V : TMom} {f m s v j c n : Nat} {xs : List Nat} (hF : okF F) (hc : cFen I f F) (hV : okM F V) (hM : cMom I L m V) (hs : cSong I s xs) (hx : xs.length ≤ 12) (hv : v < fV F) (hj : j < 4) : r_X1_fitBehind_4 f m s (n + 1) (nI v) (nI c) (nI j) I L = r_X1_fitBehind_4 f m s n (nI v) (nI (c + fitE F (xs.reverse ++ ms V) v j)) (nI (j + 1)) I L := by
  have hV2 := hF.2.2.2.1
  have ev := hc.2.2.2.2.2.2.2.2 (4 * v + 3 - j) (by omega)
  have ei : nI (v * 4 + 4) - nI 1 - nI j = nI (4 * v + 3 - j) := by
    rw [n_sub (by omega), n_sub (by omega)]
    congr 1
    omega
  have h8 : 4 * v + 3 - j < 8 := by omega
  have fin : ∀ x, x = lAt (xs.reverse ++ ms V) j → r_X1_fitBehind_27 f m s (r_X1_fitBehind_4 f m s n) (nI v) (nI c) (nI j) x I L = r_X1_fitBehind_4 f m s n (nI v) (nI (c + fitE F (xs.reverse ++ ms V) v j)) (nI (j + 1)) I L := by
    intro x hx
    unfold r_X1_fitBehind_27 fitE
    rw [n_mul, n_add, ei]
    simp (disch := omega) only [n_le, n_lt, n_eq, n_eq0, n_0lt, n_le0, n_lt0, n_0le, n_gvp, n_gx, n_add, n_mul, decide_eq_true_eq, Option.bind_some, if_false, if_true, not_false_eq_true, not_true_eq_false, h8, ev]
    rw [hx]
    by_cases q : lAt (xs.reverse ++ ms V) j = nI (fv F (4 * v + 3 - j))
    · rw [if_neg (by simpa using q), if_pos q]
    · rw [if_pos q, if_neg q, Nat.add_zero c]
  rw [r_X1_fitBehind_4, hs.1]
  simp (disch := omega) only [n_le, n_lt, n_eq, n_eq0, n_0lt, n_le0, n_lt0, n_0le, n_gvp, n_gx, n_add, n_mul, decide_eq_true_eq, Option.bind_some, if_false, if_true, not_false_eq_true, not_true_eq_false]
  rw [if_neg (by omega)]
  by_cases q : xs.length ≤ j
  · rw [if_pos q, n_sub q, fromLast_c hV hM (by omega)]
    apply fin
    exact ((lAt_app (xs := xs) (ys := ms V) (j := j)).trans (if_neg (by omega))).symm
  · have e1 : nI xs.length - nI 1 - nI j = nI (xs.length - 1 - j) := by
      rw [n_sub (by omega), n_sub (by omega)]
    have h12 : xs.length - 1 - j < 12 := by omega
    rw [if_neg q, e1]
    simp (disch := omega) only [n_le, n_lt, n_eq, n_eq0, n_0lt, n_le0, n_lt0, n_0le, n_gvp, n_gx, n_add, n_mul, decide_eq_true_eq, Option.bind_some, if_false, if_true, not_false_eq_true, not_true_eq_false, h12]
    apply fin
    exact (hs.2 _ (by omega)).trans ((lAt_app (xs := xs) (ys := ms V) (j := j)).trans (if_pos (by omega))).symm
theorem fitBehind_c {I : gII} {L : gLL} {F : TFen} {V : TMom} {f m s v : Nat} {xs : List Nat} (hF : okF F) (hc : cFen I f F) (hV : okM F V) (hM : cMom I L m V) (hs : cSong I s xs) (hx : xs.length ≤ 12) (hv : v < fV F) : r_X1_fitBehind I L f m s (nI v) = some (nI (fitL F (xs.reverse ++ ms V) v), I, L) := by
  unfold r_X1_fitBehind
  rw [show (100 : Nat) = 95 + 1 + 1 + 1 + 1 + 1 from rfl, fit_step hF hc hV hM hs hx hv (by omega), fit_step hF hc hV hM hs hx hv (by omega), fit_step hF hc hV hM hs hx hv (by omega), fit_step hF hc hV hM hs hx hv (by omega), r_X1_fitBehind_4, if_pos (by decide), Nat.zero_add]
  rfl
theorem fitr_step {I : gII} {L : gLL} {F : TFen} {V : TMom} {lv v j c n : Nat} (hlv : lv < 2) (hF : okF F) (hc : rFen I F) (hV : okM F V) (hM : rMom I 63 (27 * lv) V) (hv : v < fV F) (hj : j < 4) : r_X8_fitOn_4 (n + 1) (nI lv) (nI v) (nI c) (nI j) I L = r_X8_fitOn_4 n (nI lv) (nI v) (nI (c + fitE F (ms V) v (3 - j))) (nI (j + 1)) I L := by
  have hV2 := hF.2.2.2.1
  have ev := hc.2.2.2.2.2.2.2.2 (4 * v + j) (by omega)
  have h8 : 4 * v + j < 8 := by omega
  rw [r_X8_fitOn_4]
  unfold r_X8_fitOn_26 fitE
  rw [n_sub (by omega), sungOn_r hlv hV hM (by omega)]
  simp (disch := omega) only [n_le, n_lt, n_eq, n_eq0, n_0lt, n_le0, n_lt0, n_0le, n_gvp, n_gx, n_add, n_mul, decide_eq_true_eq, Option.bind_some, if_false, if_true, not_false_eq_true, not_true_eq_false, h8, ev]
  rw [if_neg (by omega), show 4 * v + 3 - (3 - j) = 4 * v + j by omega]
  by_cases q : lAt (ms V) (3 - j) = nI (fv F (4 * v + j))
  · rw [if_neg (by simpa using q), if_pos q]
  · rw [if_pos q, if_neg q]
theorem fitOn_r {I : gII} {L : gLL} {F : TFen} {V : TMom} {lv v : Nat} (hlv : lv < 2) (hF : okF F) (hc : rFen I F) (hV : okM F V) (hM : rMom I 63 (27 * lv) V) (hv : v < fV F) : r_X8_fitOn I L (nI lv) (nI v) = some (nI (fitL F (ms V) v), I, L) := by
  unfold r_X8_fitOn
  rw [show (100 : Nat) = 95 + 1 + 1 + 1 + 1 + 1 from rfl, fitr_step hlv hF hc hV hM hv (by omega), fitr_step hlv hF hc hV hM hv (by omega), fitr_step hlv hF hc hV hM hv (by omega), fitr_step hlv hF hc hV hM hv (by omega), r_X8_fitOn_4, if_pos (by decide)]
  unfold fitL
  congr 3
  show 0 + fitE F (ms V) v 3 + fitE F (ms V) v 2 + fitE F (ms V) v 1 + fitE F (ms V) v 0 = _
  omega
theorem fitIn_c {I : gII} {L : gLL} {F : TFen} {V : TMom} {f g m v : Nat} (hw : gfw f g) (hm : m = 18 ∨ m = 19) (hF : okF F) (hc : cFen I f F) (hV : okM F V) (hM : cMom I L m V) (hv : v < fV F) : r_X7_fitIn f g I L m (nI v) = some (nI (fitL F (ms V) v), gu2 I 53 1 (nI 0), L) := by
  have hf := gfe_or hw.f
  unfold r_X7_fitIn
  rw [fitBehind_c (I := gu2 I 53 1 (nI 0)) (xs := []) hF (cFen_kept (fun a q1 q2 => gu2_other (by omega)) hc) hV (cMom_kept (gu2_other (by omega)) rfl hM) ⟨by rw [g2a]; rfl, fun j hj => by simp at hj⟩ (by simp) hv]
  rfl
theorem ag_fit (x : Int32) : mAg (fun f g I L => r_X7_fit f g I L x) (fun I L => r_X8_fit I L x) := by
  refine mAg_ask (fun f g I L z hw e a q => by
    have := cHold_lt hw q
    exact w_X7_fit (by omega) e) (fun S hS => ?_)
  have hF := hS.2.1
  have hV := hS.2.2.1
  have hV2 := hF.2.2.2.1
  rcases inb_cases x (n := fV (sF S)) (by omega) with e | ⟨v, hv, rfl, e⟩
  · refine ⟨-1, fun f g I L hw hc => ⟨I, L, ?_⟩, fun I L hr => ⟨I, L, ?_, rSame_refl⟩⟩
    · show r_X7_fit f g I L x = _
      unfold r_X7_fit
      rw [isVerse_c hc.2.1, e, if_neg (by simp [z0])]
    · show r_X8_fit I L x = _
      unfold r_X8_fit r_X8_fit_10
      rw [isVerse_m hF hr.2.1]
      simp only [Option.bind_some]
      rw [e, if_pos z0]
  · refine ⟨nI (fitL (sF S) (ms (sV S)) v), fun f g I L hw hc => ⟨gu2 I 53 1 (nI 0), L, ?_⟩, fun I L hr => ⟨I, L, ?_, rSame_refl⟩⟩
    · show r_X7_fit f g I L (nI v) = _
      unfold r_X7_fit
      rw [isVerse_c hc.2.1, e, if_pos z1, fitIn_c hw (Or.inl rfl) hF hc.2.1 hV hc.2.2.1 hv]
      rfl
    · show r_X8_fit I L (nI v) = _
      unfold r_X8_fit r_X8_fit_10
      rw [isVerse_m hF hr.2.1]
      simp only [Option.bind_some]
      rw [e, if_neg z1, fitOn_r (lv := 0) (by omega) hF hr.2.1 hV (by simpa using hr.2.2.1) hv]
      rfl
def sumTo : Nat → (Nat → Nat) → Nat
  | 0, _ => 0
  | n + 1, h => sumTo n h + h n
theorem sumTo_le {h : Nat → Nat} {k : Nat} : ∀ n, (∀ i, i < n → h i ≤ k) → sumTo n h ≤ n * k
  | 0, _ => by simp [sumTo]
  | n + 1, hh => by
    have := sumTo_le n (fun i hi => hh i (by omega))
    have := hh n (by omega)
    show sumTo n h + h n ≤ (n + 1) * k
    rw [Nat.add_mul, Nat.one_mul]
    omega
theorem sumTo_congr {h h' : Nat → Nat} : ∀ n, (∀ i, i < n → h i = h' i) → sumTo n h = sumTo n h'
  | 0, _ => rfl
  | n + 1, hh => by
    show sumTo n h + h n = sumTo n h' + h' n
    rw [sumTo_congr n (fun i hi => hh i (by omega)), hh n (by omega)]
def hm (a b : Nat) : Nat := if a = 12 ∨ b = 12 then 0 else 953 / 2 ^ (if a ≤ b then b - a else a - b) % 2
def harm (xs ys : List Nat) : Nat := sumTo (min xs.length ys.length) (fun i => hm (xs.getD i 0) (ys.getD i 0))
theorem hm_comm (a b : Nat) : hm a b = hm b a := by
  unfold hm
  by_cases h : a = 12 ∨ b = 12
  · rw [if_pos h, if_pos h.symm]
  · have h' : ¬ (b = 12 ∨ a = 12) := fun q => h q.symm
    rw [if_neg h, if_neg h']
    rcases Nat.lt_trichotomy a b with q | q | q
    · have q1 : a ≤ b := by omega
      have q2 : ¬ b ≤ a := by omega
      rw [if_pos q1, if_neg q2]
    · rw [q]
    · have q1 : b ≤ a := by omega
      have q2 : ¬ a ≤ b := by omega
      rw [if_neg q2, if_pos q1]
theorem harm_comm (xs ys : List Nat) : harm xs ys = harm ys xs := by
  unfold harm
  rw [Nat.min_comm]
  exact sumTo_congr _ (fun i _ => hm_comm _ _)
theorem hm_le (a b : Nat) : hm a b ≤ 1 := by
  unfold hm
  split <;> omega
theorem hm_c : ∀ a, a < 12 → ∀ b, b < 12 → (gshr (nI 953) (f_J9_abs_0f7a4 (fun _ _ => 0) (fun _ _ => 0) (nI a - nI b))) &&& nI 1 = nI (hm a b) := by decide +kernel
theorem hm_r : ∀ a, a < 12 → ∀ b, b < 12 → (if f_X8_isSweet (fun _ _ => 0) (fun _ _ => 0) (if nI a ≤ nI b then nI b - nI a else nI a - nI b) = 0 then nI 0 else nI 1) = nI (hm a b) := by decide +kernel
theorem hm_12 {a b : Nat} (h : a = 12 ∨ b = 12) : hm a b = 0 := by
  unfold hm
  rw [if_pos h]
theorem harmonyWith_c {I : gII} {L : gLL} {s t : Nat} {xs ys : List Nat} (hs : cSong I s xs) (ht : cSong I t ys) (hx : xs.length ≤ 12) (hy : ys.length ≤ 12) (lx : ∀ u ∈ xs, u ≤ 12) (ly : ∀ u ∈ ys, u ≤ 12) : r_X6_harmonyWith I L s t = some (nI (harm xs ys), I, L) := by
  have hmin : f_J9_min_7cf53 I L (I s 1) (I t 1) = nI (min xs.length ys.length) := by
    unfold f_J9_min_7cf53
    rw [hs.1, ht.1]
    simp (disch := omega) only [n_le, n_lt, n_eq, n_eq0, n_0lt, n_le0, n_lt0, n_0le, n_gvp, n_gx, n_add, n_mul, decide_eq_true_eq, Option.bind_some, if_false, if_true, not_false_eq_true, not_true_eq_false]
    by_cases q : ys.length < xs.length
    · rw [if_pos q, Nat.min_eq_right (by omega)]
    · rw [if_neg q, Nat.min_eq_left (by omega)]
  have h := gloopE (fun m j (c : Int32) => r_X6_harmonyWith_10 s t m (nI (min xs.length ys.length)) c (nI j) I L) (fun j c => c = nI (sumTo j (fun i => hm (xs.getD i 0) (ys.getD i 0)))) (fun z => z = (nI (harm xs ys), I, L)) (n := min xs.length ys.length)
    (fun m j c hj hp => Or.inl ⟨nI (sumTo (j + 1) (fun i => hm (xs.getD i 0) (ys.getD i 0))), by
      show r_X6_harmonyWith_10 s t (m + 1) _ c (nI j) I L = r_X6_harmonyWith_10 s t m _ _ (nI (j + 1)) I L
      have h12 : j < 12 := by omega
      have ex := hs.2 j (by omega)
      have ey := ht.2 j (by omega)
      have bx := lx _ (getD_in (d := 0) (show j < xs.length by omega))
      have byy := ly _ (getD_in (d := 0) (show j < ys.length by omega))
      rw [hp, r_X6_harmonyWith_10]
      unfold r_X6_harmonyWith_42
      simp (disch := omega) only [n_le, n_lt, n_eq, n_eq0, n_0lt, n_le0, n_lt0, n_0le, n_gvp, n_gx, n_add, n_mul, decide_eq_true_eq, Option.bind_some, if_false, if_true, not_false_eq_true, not_true_eq_false, h12, ex, ey]
      rw [if_neg (by omega)]
      show _ = r_X6_harmonyWith_10 s t m _ (nI (sumTo j (fun i => hm (xs.getD i 0) (ys.getD i 0)) + hm (xs.getD j 0) (ys.getD j 0))) (nI (j + 1)) I L
      by_cases qx : xs.getD j 0 = 12
      · rw [if_pos qx, hm_12 (Or.inl qx)]
        rfl
      · rw [if_neg qx]
        by_cases qy : ys.getD j 0 = 12
        · rw [if_pos qy, hm_12 (Or.inr qy)]
          rfl
        · rw [if_neg qy, show f_J9_abs_0f7a4 I L (nI (xs.getD j 0) - nI (ys.getD j 0)) = f_J9_abs_0f7a4 (fun _ _ => 0) (fun _ _ => 0) (nI (xs.getD j 0) - nI (ys.getD j 0)) from rfl, hm_c _ (by omega) _ (by omega), n_add], rfl⟩)
    (fun m c hp => ⟨(nI (harm xs ys), I, L), by
      show r_X6_harmonyWith_10 s t (m + 1) _ c (nI _) I L = _
      rw [hp, r_X6_harmonyWith_10, if_pos (by simp (disch := omega) only [n_le, n_lt, n_eq, n_eq0, n_0lt, n_le0, n_lt0, n_0le, n_gvp, n_gx, n_add, n_mul, decide_eq_true_eq, Option.bind_some, if_false, if_true, not_false_eq_true, not_true_eq_false]; omega)]
      rfl, rfl⟩) (d := min xs.length ys.length) (j := 0) (N := 100) (s := nI 0) (by omega) (by omega) rfl
  unfold r_X6_harmonyWith
  rw [hmin]
  obtain ⟨z, e, rfl⟩ := h
  exact e
theorem harmonyOf_r {I : gII} {L : gLL} {xs ys : List Nat} (hs : ∀ j, j < xs.length → I 69 j = nI (xs.getD j 0)) (ht : ∀ j, j < ys.length → I 69 (12 + j) = nI (ys.getD j 0)) (hx : xs.length ≤ 12) (hy : ys.length ≤ 12) (lx : ∀ u ∈ xs, u ≤ 12) (ly : ∀ u ∈ ys, u ≤ 12) : r_X8_harmonyOf I L (nI xs.length) (nI ys.length) = some (nI (harm xs ys), I, L) := by
  have h := gloopE (fun m j (c : Int32) => r_X8_harmonyOf_4 m (nI xs.length) (nI ys.length) c (nI j) I L) (fun j c => c = nI (sumTo j (fun i => hm (xs.getD i 0) (ys.getD i 0)))) (fun z => z = (nI (harm xs ys), I, L)) (n := min xs.length ys.length)
    (fun m j c hj hp => Or.inl ⟨nI (sumTo (j + 1) (fun i => hm (xs.getD i 0) (ys.getD i 0))), by
      show r_X8_harmonyOf_4 (m + 1) _ _ c (nI j) I L = r_X8_harmonyOf_4 m _ _ _ (nI (j + 1)) I L
      have h24 : j < 24 := by omega
      have h24' : 12 + j < 24 := by omega
      have ex := hs j (by omega)
      have ey := ht j (by omega)
      have bx := lx _ (getD_in (d := 0) (show j < xs.length by omega))
      have byy := ly _ (getD_in (d := 0) (show j < ys.length by omega))
      rw [hp, r_X8_harmonyOf_4]
      unfold r_X8_harmonyOf_43 r_X8_harmonyOf_39 r_X8_harmonyOf_43
      simp (disch := omega) only [n_le, n_lt, n_eq, n_eq0, n_0lt, n_le0, n_lt0, n_0le, n_gvp, n_gx, n_add, n_mul, decide_eq_true_eq, Option.bind_some, if_false, if_true, not_false_eq_true, not_true_eq_false, h24, h24', ex, ey]
      rw [if_neg (by omega), if_neg (by omega)]
      show _ = r_X8_harmonyOf_4 m _ _ (nI (sumTo j (fun i => hm (xs.getD i 0) (ys.getD i 0)) + hm (xs.getD j 0) (ys.getD j 0))) (nI (j + 1)) I L
      by_cases qx : xs.getD j 0 = 12
      · rw [if_pos qx, hm_12 (Or.inl qx)]
      · rw [if_neg qx]
        by_cases qy : ys.getD j 0 = 12
        · rw [if_pos qy, hm_12 (Or.inr qy)]
        · have key := hm_r (xs.getD j 0) (by omega) (ys.getD j 0) (by omega)
          have kI : ∀ x, f_X8_isSweet I L x = f_X8_isSweet (fun _ _ => 0) (fun _ _ => 0) x := fun x => rfl
          have h1 := hm_le (xs.getD j 0) (ys.getD j 0)
          simp (disch := omega) only [n_le] at key
          rw [if_neg qy, kI, kI]
          by_cases ql : xs.getD j 0 ≤ ys.getD j 0
          · rw [if_pos ql] at key ⊢
            by_cases qs : f_X8_isSweet (fun _ _ => 0) (fun _ _ => 0) (nI (ys.getD j 0) - nI (xs.getD j 0)) = 0
            · rw [if_pos qs] at key ⊢
              rw [n_eq (by omega) (by omega)] at key
              rw [← key]
            · rw [if_neg qs] at key ⊢
              rw [n_eq (by omega) (by omega)] at key
              rw [← key]
          · rw [if_neg ql] at key ⊢
            by_cases qs : f_X8_isSweet (fun _ _ => 0) (fun _ _ => 0) (nI (xs.getD j 0) - nI (ys.getD j 0)) = 0
            · rw [if_pos qs] at key ⊢
              rw [n_eq (by omega) (by omega)] at key
              rw [← key]
            · rw [if_neg qs] at key ⊢
              rw [n_eq (by omega) (by omega)] at key
              rw [← key], rfl⟩)
    (fun m c hp => ⟨(nI (harm xs ys), I, L), by
      show r_X8_harmonyOf_4 (m + 1) _ _ c (nI _) I L = _
      rw [hp, r_X8_harmonyOf_4]
      simp (disch := omega) only [n_le, n_lt, n_eq, n_eq0, n_0lt, n_le0, n_lt0, n_0le, n_gvp, n_gx, n_add, n_mul, decide_eq_true_eq, Option.bind_some, if_false, if_true, not_false_eq_true, not_true_eq_false]
      rcases Nat.le_total xs.length ys.length with q | q
      · rw [if_pos (by omega)]
        rfl
      · by_cases q2 : xs.length ≤ min xs.length ys.length
        · rw [if_pos q2]
          rfl
        · rw [if_neg q2, if_pos (by omega)]
          rfl, rfl⟩) (d := min xs.length ys.length) (j := 0) (N := 100) (s := nI 0) (by omega) (by omega) rfl
  obtain ⟨z, e, rfl⟩ := h
  exact e
theorem ag_harmony (x y x2 y2 : Int32) : mAg (fun f g I L => r_X7_harmony f g I L x y x2 y2) (fun I L => r_X8_harmony I L x y x2 y2) := by
  refine mAg_ask (fun f g I L z hw e a q => by
    have := cHold_lt hw q
    exact w_X7_harmony (by omega) e) (fun S hS => ?_)
  have hF := hS.2.1
  have hV := hS.2.2.1
  have hB := hF.2.2.1
  have hL := hF.2.1
  rcases inb_cases x (n := fB (sF S)) (by omega) with e | ⟨b, hb, rfl, e⟩
  · refine ⟨-1, fun f g I L hw hc => ⟨I, L, ?_⟩, fun I L hr => ⟨I, L, ?_, rSame_refl⟩⟩
    · show r_X7_harmony f g I L x y x2 y2 = _
      unfold r_X7_harmony r_X7_harmony_20
      rw [isBeast_c hc.2.1, e, if_pos z0]
    · show r_X8_harmony I L x y x2 y2 = _
      unfold r_X8_harmony r_X8_harmony_16
      rw [isBeast_m hF hr.2.1, Option.bind_some, e, if_pos z0]
  rcases inb_cases y (n := fL (sF S)) (by omega) with e2 | ⟨l, hl, rfl, e2⟩
  · refine ⟨-1, fun f g I L hw hc => ⟨I, L, ?_⟩, fun I L hr => ⟨I, L, ?_, rSame_refl⟩⟩
    · show r_X7_harmony f g I L (nI b) y x2 y2 = _
      unfold r_X7_harmony r_X7_harmony_20
      rw [isBeast_c hc.2.1, isLane_c hc.2.1, e, e2, if_neg z1, if_pos z0]
    · show r_X8_harmony I L (nI b) y x2 y2 = _
      unfold r_X8_harmony r_X8_harmony_16
      rw [isBeast_m hF hr.2.1, Option.bind_some, e, if_neg z1, isLane_m hF hr.2.1, Option.bind_some, e2, if_pos z0]
  rcases inb_cases x2 (n := fB (sF S)) (by omega) with e3 | ⟨b2, hb2, rfl, e3⟩
  · refine ⟨-1, fun f g I L hw hc => ⟨I, L, ?_⟩, fun I L hr => ⟨I, L, ?_, rSame_refl⟩⟩
    · show r_X7_harmony f g I L (nI b) (nI l) x2 y2 = _
      unfold r_X7_harmony r_X7_harmony_20
      rw [isBeast_c hc.2.1, isLane_c hc.2.1, e, e2, if_neg z1, if_neg z1, isBeast_c hc.2.1, e3, if_pos z0]
    · show r_X8_harmony I L (nI b) (nI l) x2 y2 = _
      unfold r_X8_harmony r_X8_harmony_16
      rw [isBeast_m hF hr.2.1, Option.bind_some, e, if_neg z1, isLane_m hF hr.2.1, Option.bind_some, e2, if_neg z1, isBeast_m hF hr.2.1, Option.bind_some, e3, if_pos z0]
  rcases inb_cases y2 (n := fL (sF S)) (by omega) with e4 | ⟨l2, hl2, rfl, e4⟩
  · refine ⟨-1, fun f g I L hw hc => ⟨I, L, ?_⟩, fun I L hr => ⟨I, L, ?_, rSame_refl⟩⟩
    · show r_X7_harmony f g I L (nI b) (nI l) (nI b2) y2 = _
      unfold r_X7_harmony r_X7_harmony_20
      rw [isBeast_c hc.2.1, isLane_c hc.2.1, e, e2, if_neg z1, if_neg z1, isBeast_c hc.2.1, e3, if_neg z1, isLane_c hc.2.1, e4, if_neg (by simp [z0])]
    · show r_X8_harmony I L (nI b) (nI l) (nI b2) y2 = _
      unfold r_X8_harmony r_X8_harmony_16
      rw [isBeast_m hF hr.2.1, Option.bind_some, e, if_neg z1, isLane_m hF hr.2.1, Option.bind_some, e2, if_neg z1, isBeast_m hF hr.2.1, Option.bind_some, e3, if_neg z1, isLane_m hF hr.2.1, Option.bind_some, e4, if_neg (by simp [z0])]
  refine ⟨nI (harm (song (sF S) (sV S) b l) (song (sF S) (sV S) b2 l2)), fun f g I L hw hc => ?_, fun I L hr => ?_⟩
  · show ∃ I' L', r_X7_harmony f g I L (nI b) (nI l) (nI b2) (nI l2) = _
    obtain ⟨c1, c2, c3, -⟩ := hc
    have hf := gfe_or hw.f
    obtain ⟨I1, e5, s1, k1⟩ := sing_c (s := 53) hw.f rfl rfl hF c2 hV c3 hb hl
    obtain ⟨I2, e6, s2, k2⟩ := sing_c (L := L) (s := 55) hw.f rfl rfl hF (cFen_kept (fun a q1 q2 => k1 a (by omega) (by omega)) c2) hV (cMom_kept (k1 18 (by decide) (by decide)) rfl c3) hb2 hl2
    have s1' : cSong I2 53 (song (sF S) (sV S) b l) := ⟨by rw [k2 53 (by decide) (by decide)]; exact s1.1, fun j hj => by rw [k2 54 (by decide) (by decide)]; exact s1.2 j hj⟩
    refine ⟨I2, L, ?_⟩
    unfold r_X7_harmony
    rw [isBeast_c c2, isLane_c c2, e, e2, if_neg z1, if_neg z1, isBeast_c c2, e3, if_neg z1, isLane_c c2, e4, if_pos z1, e5, Option.bind_some, e6, Option.bind_some, harmonyWith_c s1' s2 (song_len _ _ _ _) (song_len _ _ _ _) (song_le _ _ _ _) (song_le _ _ _ _)]
    rfl
  · show ∃ I' L', r_X8_harmony I L (nI b) (nI l) (nI b2) (nI l2) = _ ∧ _
    obtain ⟨r1, r2, r3, -⟩ := hr
    obtain ⟨I1, e5, s1, k1, j1⟩ := lay_r (L := L) (lv := 0) (row := 0) hF r2 hV (by simpa using r3) (by omega) (by omega) hb hl
    have r2' : rFen I1 (sF S) := rFen_kept (fun j hj => j1 j (by omega)) (fun a q1 q2 => k1 a (by omega) (by omega)) r2
    have r3' : rMom I1 63 0 (sV S) := rMom_kept (k1 63 (by decide) (by decide)) r3
    obtain ⟨I2, e6, s2, k2, j2, q2⟩ := lay_rx (L := L) (lv := 0) (row := 1) hF r2' hV (by simpa using r3') (by omega) (by omega) hb2 hl2
    have s1' : ∀ j, j < (song (sF S) (sV S) b l).length → I2 69 j = nI ((song (sF S) (sV S) b l).getD j 0) := fun j hj => by
      have := s1.2 j hj
      rw [Nat.mul_zero, Nat.zero_add] at this
      have h12 := song_len (sF S) (sV S) b l
      rw [q2 j (by omega), this]
    refine ⟨I2, L, ?_, rSame_trans (rSame_lay (L := L) k1 j1) (rSame_lay k2 j2)⟩
    unfold r_X8_harmony
    rw [isBeast_m hF r2, Option.bind_some, e, if_neg z1, isLane_m hF r2, Option.bind_some, e2, if_neg z1, isBeast_m hF r2, Option.bind_some, e3, if_neg z1, isLane_m hF r2, Option.bind_some, e4, if_pos z1, e5, Option.bind_some, e6, Option.bind_some, harmonyOf_r s1' (fun j hj => s2.2 j hj) (song_len _ _ _ _) (song_len _ _ _ _) (song_le _ _ _ _) (song_le _ _ _ _)]
    rfl
