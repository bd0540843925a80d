/-! BEST ROWS: the class's search -/
theorem gloopQ {σ ρ : Type} (R : Nat → Nat → σ → ρ) (P : Nat → σ → Prop) (Q : ρ → Prop) {n : Nat}
    (hs : ∀ m j s, j < n → P j s → (∃ s', R (m + 1) j s = R m (j + 1) s' ∧ P (j + 1) s') ∨ Q (R (m + 1) j s))
    (he : ∀ m s, P n s → Q (R (m + 1) n s)) : ∀ {d j N : Nat} {s : σ}, j + d = n → d < N → P j s → Q (R N j s) := by
  intro d
  induction d with
  | zero =>
    intro j N s hj hN hp
    have hj : j = n := hj
    subst hj
    obtain ⟨m, rfl⟩ : ∃ m, N = m + 1 := ⟨N - 1, by omega⟩
    exact he m s hp
  | succ d ih =>
    intro j N s hj hN hp
    obtain ⟨m, rfl⟩ : ∃ m, N = m + 1 := ⟨N - 1, by omega⟩
    rcases hs m j s (by omega) hp with ⟨s', e, hp'⟩ | h
    · rw [e]
      exact ih (by omega) (by omega) hp'
    · exact h
theorem take_app {xs ys : List Nat} {n : Nat} : (xs ++ ys.take n).take n = (xs ++ ys).take n := by
  rw [List.take_append, List.take_append, List.take_take, Nat.min_eq_left (Nat.sub_le _ _)]
theorem sing_ms {xs : List Nat} : ∀ {V : TMom}, (ms V).length ≤ 12 → ms (singS V xs) = (xs.reverse ++ ms V).take 12 := by
  induction xs with
  | nil =>
    intro V h
    show ms V = (ms V).take 12
    rw [List.take_of_length_le h]
  | cons t ts ih =>
    intro V h
    show ms (singS (addS V t) ts) = _
    rw [ih (by rw [addS_len V t h]; omega)]
    show (ts.reverse ++ (t :: ms V).take 12).take 12 = _
    rw [take_app, List.reverse_cons, List.append_assoc]
    rfl
theorem lAt_take {zs : List Nat} {b : Nat} (hb : b < 12) : lAt (zs.take 12) b = lAt zs b := by
  unfold lAt
  rw [List.length_take, take_getD hb]
  by_cases q : b < zs.length
  · rw [if_pos q, if_pos (by omega)]
  · rw [if_neg q, if_neg (by omega)]
theorem fit_drive {F : TFen} {V : TMom} {b l v : Nat} (hl : (ms V).length ≤ 12) : fitL F (ms (driveS F V b l)) v = fitL F ((song F V b l).reverse ++ ms V) v := by
  have e : ms (driveS F V b l) = ((song F V b l).reverse ++ ms V).take 12 := sing_ms hl
  unfold fitL fitE
  rw [e, lAt_take (by omega), lAt_take (by omega), lAt_take (by omega), lAt_take (by omega)]
theorem tk_le {st : Nat × Int32} {fit row : Nat} (h : st.1 ≤ 5) (hf : fit ≤ 4) : (tk st fit row).1 ≤ 5 := by
  unfold tk
  split
  · show fit + 1 ≤ 5
    omega
  · exact h
theorem itN_P {σ : Type} {f : Nat → σ → σ} {P : σ → Prop} (h : ∀ i s, P s → P (f i s)) : ∀ n {s : σ}, P s → P (itN f n s)
  | 0, _, hs => hs
  | n + 1, _, hs => h n _ (itN_P h n hs)
theorem cfS_le {F : TFen} {v : Nat} : ∀ n V r (st : Nat × Int32), st.1 ≤ 5 → (cfS F v n V r st).1 ≤ 5 := by
  intro n
  induction n with
  | zero => exact fun V r st h => tk_le h (fitL_le _ _ _)
  | succ n ih =>
    intro V r st h
    rw [cfS]
    refine itN_P (P := fun s : Nat × Int32 => s.1 ≤ 5) (fun d s hs => ?_) _ h
    show (match goS F V (d / fL F) (d % fL F) with
      | none => s
      | some W => cfS F v n W (100 * r + 10 * (d / fL F + 1) + d % fL F + 1) s).1 ≤ 5
    cases goS F V (d / fL F) (d % fL F) with
    | none => exact hs
    | some W => exact ih W _ s hs
theorem cfS_5 {F : TFen} {v : Nat} : ∀ n V r (st : Nat × Int32), st.1 = 5 → cfS F v n V r st = st := by
  intro n
  induction n with
  | zero =>
    intro V r st h
    show tk st _ _ = st
    unfold tk
    have := fitL_le F (ms V) v
    rw [if_neg (by omega)]
  | succ n ih =>
    intro V r st h
    rw [cfS]
    refine itN_id _ (fun d _ => ?_)
    cases goS F V (d / fL F) (d % fL F) with
    | none => rfl
    | some W => exact ih W _ st h
/-- one BEAST in one LANE tried -/
def sDs (F : TFen) (v n : Nat) (V : TMom) (r d : Nat) (st : Nat × Int32) : Nat × Int32 := match goS F V (d / fL F) (d % fL F) with
    | none => st
    | some W => cfS F v n W (100 * r + 10 * (d / fL F + 1) + d % fL F + 1) st
theorem cfS_it {F : TFen} {v n : Nat} {V : TMom} {r : Nat} {st : Nat × Int32} : cfS F v (n + 1) V r st = itN (sDs F v n V r) (fB F * fL F) st := by
  rw [cfS]
  rfl
theorem sDs_5 {F : TFen} {v n : Nat} {V : TMom} {r d : Nat} {st : Nat × Int32} (h : st.1 = 5) : sDs F v n V r d st = st := by
  unfold sDs
  cases goS F V (d / fL F) (d % fL F) with
  | none => rfl
  | some W => exact cfS_5 n W _ st h
theorem sDs_le {F : TFen} {v n : Nat} {V : TMom} {r N : Nat} {st : Nat × Int32} (h : st.1 ≤ 5) : (itN (sDs F v n V r) N st).1 ≤ 5 := by
  refine itN_P (P := fun s : Nat × Int32 => s.1 ≤ 5) (fun d s hs => ?_) _ h
  unfold sDs
  cases goS F V (d / fL F) (d % fL F) with
  | none => exact hs
  | some W => exact cfS_le n W _ s hs
def tH (I : gII) (st : Nat × Int32) : Prop := I 44 2 = mv st.1 ∧ I 44 3 = st.2
def tFr (n : Nat) (I I' : gII) (L L' : gLL) : Prop := ∀ a, a ≠ 44 → a ≠ 46 → a ≠ 47 → ¬ (48 ≤ a ∧ a < 48 + n) → I' a = I a ∧ L' a = L a
theorem tFr_trans {n : Nat} {I I' I'' : gII} {L L' L'' : gLL} (h : tFr n I I' L L') (k : tFr n I' I'' L' L'') : tFr n I I'' L L'' := fun a a1 a2 a3 a4 => ⟨(k a a1 a2 a3 a4).1.trans (h a a1 a2 a3 a4).1, (k a a1 a2 a3 a4).2.trans (h a a1 a2 a3 a4).2⟩
theorem tFr_fen {n f g : Nat} {I I' : gII} {L L' : gLL} {F : TFen} (hw : gfw f g) (h : tFr n I I' L L') (hc : cFen I f F) : cFen I' f F := by
  have hf := gfe_or hw.f
  exact cFen_kept (fun a q1 q2 => (h a (by omega) (by omega) (by omega) (by omega)).1) hc
theorem take_c {I : gII} {L : gLL} {st : Nat × Int32} {fit row : Nat} (h : tH I st) (hs : st.1 ≤ 5) (hf : fit ≤ 4) : tH (i_X5_take I L (nI fit) (nI row)) (tk st fit row) ∧ ∀ a, a ≠ 44 → i_X5_take I L (nI fit) (nI row) a = I a := by
  unfold i_X5_take tk
  rw [h.1]
  by_cases q : st.1 ≤ fit
  · have qm : ¬ nI fit ≤ mv st.1 := fun w => by
      have := (mv_le _ hs _ hf).mp w
      omega
    rw [if_neg qm, if_pos q]
    refine ⟨⟨?_, ?_⟩, fun a ha => by rw [gu2_other ha, gu2_other ha]⟩
    · rw [g2n (by decide), g2a]
      show _ = mv (fit + 1)
      unfold mv
      rw [if_neg (by omega)]
      rfl
    · rw [g2a]
  · have qm : nI fit ≤ mv st.1 := (mv_le _ hs _ hf).mpr (by omega)
    rw [if_pos qm, if_neg q]
    exact ⟨h, fun a _ => rfl⟩
/-- one try: the last drive is only sung, an earlier one is done and the rest looked through -/
theorem try_one {REC : gII → gLL → Nat → Nat → Int32 → Int32 → Int32 → Option gRs} {K2 : Int32 → Int32 → Int32 → Int32 → gII → gLL → Option gRs} {I : gII} {L : gLL} {F : TFen} {V : TMom} {f g m n v r b l k : Nat} {st : Nat × Int32} (hw : gfw f g) (hF : okF F) (hc : cFen I f F) (hV : okM F V) (hmo : gmo m = true) (hM : cMom I L m V) (hm : ¬ (48 ≤ m ∧ m < 48 + n)) (hn : n ≤ 2) (hv : v < fV F) (hb : b < fB F) (hl : l < fL F) (hh : mh V / 2 ^ b % 2 = 0) (hst : tH I st) (hs5 : st.1 ≤ 5) (hs4 : st.1 ≠ 5)
    (hrec : 0 < n → ∀ (I : gII) (L : gLL) (W : TMom) (r : Nat) (st : Nat × Int32), cFen I f F → okM F W → cMom I L (48 + (n - 1)) W → tH I st → st.1 ≤ 5 → ∃ I' L', REC I L f (48 + (n - 1)) (nI v) (nI n) (nI r) = some (0, I', L') ∧ tH I' (cfS F v n W r st) ∧ tFr (n - 1) I I' L L') :
    ∃ I' L', r_X5_tryRows_13 REC f m K2 (k + 1) (nI v) (nI (n + 1)) (nI r) (nI b) (nI l) I L = r_X5_tryRows_13 REC f m K2 k (nI v) (nI (n + 1)) (nI r) (nI b) (nI (l + 1)) I' L' ∧ tH I' (cfS F v n (driveS F V b l) (100 * r + 10 * (b + 1) + l + 1) st) ∧ tFr n I I' L L' := by
  have hf := gfe_or hw.f
  have hL := hF.2.1
  have hB := hF.2.2.1
  have hmm := gmo_or hmo
  have e4 : ¬ nI 4 ≤ I 44 2 := by
    rw [hst.1]
    intro q
    have := (mv_le _ hs5 4 (by omega)).mp q
    omega
  have er : nI 100 * nI r + nI 10 * (nI b + nI 1) + nI l + nI 1 = nI (100 * r + 10 * (b + 1) + l + 1) := by
    simp only [n_add, n_mul]
  rw [r_X5_tryRows_13, hc.2.1, if_neg (show ¬ nI (fL F) ≤ nI l by simp (disch := omega) only [n_le, n_lt, n_eq, n_eq0, n_0lt, n_le0, n_lt0, n_0le, n_gvp, n_gx, n_add, n_mul, decide_eq_true_eq, Option.bind_some, if_false, if_true, not_false_eq_true, not_true_eq_false]; omega), if_neg e4, er]
  unfold r_X5_tryRows_81
  rcases Nat.eq_zero_or_pos n with q0 | q0
  · subst q0
    rw [if_neg (by decide)]
    obtain ⟨I1, e1, s1, k1⟩ := sing_c (s := 46) hw.f hmo rfl hF hc hV hM hb hl
    have hc1 : cFen I1 f F := cFen_kept (fun a q1 q2 => k1 a (by omega) (by omega)) hc
    have hM1 : cMom I1 L m V := cMom_kept (k1 m (by omega) (by omega)) rfl hM
    have fl4 := fitL_le F ((song F V b l).reverse ++ ms V) v
    have hst1 : tH I1 st := ⟨by rw [k1 44 (by decide) (by decide)]; exact hst.1, by rw [k1 44 (by decide) (by decide)]; exact hst.2⟩
    obtain ⟨t1, t2⟩ := take_c (L := L) (row := 100 * r + 10 * (b + 1) + l + 1) hst1 hs5 fl4
    refine ⟨_, L, ?_, ?_, fun a a1 a2 a3 a4 => ⟨(t2 a a1).trans (k1 a a2 a3), rfl⟩⟩
    · rw [e1, Option.bind_some, fitBehind_c hF hc1 hV hM1 s1 (song_len _ _ _ _) hv, Option.bind_some, n_add]
    · show tH _ (tk st (fitL F (ms (driveS F V b l)) v) _)
      rw [fit_drive hV.2.2.2.2.2.2.2]
      exact t1
  · have eN : nI (n + 1) - nI 2 = nI (n - 1) := by
      rw [n_sub (by omega)]
      congr 1
    have eM : nI (n + 1) - nI 1 = nI n := by
      rw [n_sub (by omega)]
      congr 1
    have h2 : n - 1 < 2 := by omega
    have bm := cMom_become (m := 48 + (n - 1)) hM
    have kI : ∀ a, a ≠ 48 + (n - 1) → i_X4_become I L (48 + (n - 1)) m a = I a := fun a ha => wi_X4_become ha
    have kL : ∀ a, a ≠ 48 + (n - 1) → l_X4_become I L (48 + (n - 1)) m a = L a := fun a ha => wl_X4_become ha
    have hc1 : cFen (i_X4_become I L (48 + (n - 1)) m) f F := cFen_kept (fun a q1 q2 => kI a (by omega)) hc
    have hmo2 : gmo (48 + (n - 1)) = true := by
      rcases (by omega : n = 1 ∨ n = 2) with rfl | rfl <;> rfl
    obtain ⟨I2, L2, e2, m2, s2, k2⟩ := sendHome_c (s := 46) hw.f hmo2 rfl (fun a q1 q2 => by omega) hF hc1 hV bm hb hl
    have fr2 : ∀ a, a ≠ 48 + (n - 1) → a ≠ 46 → a ≠ 47 → I2 a = I a ∧ L2 a = L a := fun a a1 a2 a3 => ⟨((k2 a a1).2 a2 a3).trans (kI a a1), (k2 a a1).1.trans (kL a a1)⟩
    have hc2 : cFen I2 f F := cFen_kept (fun a q1 q2 => (fr2 a (by omega) (by omega) (by omega)).1) hc
    have hst2 : tH I2 st := ⟨by rw [(fr2 44 (by omega) (by decide) (by decide)).1]; exact hst.1, by rw [(fr2 44 (by omega) (by decide) (by decide)).1]; exact hst.2⟩
    obtain ⟨I3, L3, e3, t3, fr3⟩ := hrec q0 I2 L2 (driveS F V b l) (100 * r + 10 * (b + 1) + l + 1) st hc2 (driveS_ok hb hV) m2 hst2 hs5
    refine ⟨I3, L3, ?_, t3, fun a a1 a2 a3 a4 => ?_⟩
    · rw [if_pos (show nI 1 < nI (n + 1) by simp (disch := omega) only [n_le, n_lt, n_eq, n_eq0, n_0lt, n_le0, n_lt0, n_0le, n_gvp, n_gx, n_add, n_mul, decide_eq_true_eq, Option.bind_some, if_false, if_true, not_false_eq_true, not_true_eq_false]; omega), eN, eM, n_gx (by omega), if_pos (show gvp (nI (n - 1)) 2 = true by rw [n_gvp (by omega)]; simpa using h2), e2, Option.bind_some]
      dsimp only
      rw [e3, Option.bind_some, n_add]
    · have x3 := fr3 a a1 a2 a3 (by omega)
      have x2 := fr2 a (by omega) a2 a3
      exact ⟨x3.1.trans x2.1, x3.2.trans x2.2⟩
