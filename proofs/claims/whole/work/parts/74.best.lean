/-! BEST, FEWEST -/
theorem rows_c {REC : gII → gLL → Nat → Nat → Int32 → Int32 → Int32 → Option gRs} {I : gII} {L : gLL} {F : TFen} {V : TMom} {f g m n v r : Nat} {st : Nat × Int32} (hw : gfw f g) (hF : okF F) (hc : cFen I f F) (hV : okM F V) (hmo : gmo m = true) (hM : cMom I L m V) (hm : ¬ (48 ≤ m ∧ m < 48 + n)) (hn : n ≤ 2) (hv : v < fV F) (hst : tH I st) (hs5 : st.1 ≤ 5)
    (hrec : 0 < n → ∀ (I : gII) (L : gLL) (W : TMom) (r : Nat) (st : Nat × Int32), cFen I f F → okM F W → cMom I L (48 + (n - 1)) W → tH I st → st.1 ≤ 5 → ∃ I' L', REC I L f (48 + (n - 1)) (nI v) (nI n) (nI r) = some (0, I', L') ∧ tH I' (cfS F v n W r st) ∧ tFr (n - 1) I I' L L') :
    ∃ I' L', r_X5_tryRows_2 REC f m 100 (nI v) (nI (n + 1)) (nI r) (nI 0) I L = some (0, I', L') ∧ tH I' (cfS F v (n + 1) V r st) ∧ tFr n I I' L L' := by
  have hf := gfe_or hw.f
  have hL := hF.2.1
  have hB := hF.2.2.1
  have hmm := gmo_or hmo
  have h32 := okM_h32 hF hV
  have keepM : ∀ {I' : gII} {L' : gLL}, tFr n I I' L L' → cMom I' L' m V := fun h => by
    have := h m (by omega) (by omega) (by omega) hm
    exact cMom_kept this.1 this.2 hM
  have h := gloopE (fun k b (s : gII × gLL) => r_X5_tryRows_2 REC f m k (nI v) (nI (n + 1)) (nI r) (nI b) s.1 s.2) (fun b s => tH s.1 (itN (sDs F v n V r) (b * fL F) st) ∧ tFr n I s.1 L s.2) (fun z => ∃ I' L', z = (0, I', L') ∧ tH I' (itN (sDs F v n V r) (fB F * fL F) st) ∧ tFr n I I' L L') (n := fB F)
    (fun k b s hb hp => by
      have hc' := tFr_fen hw hp.2 hc
      have hM' := keepM hp.2
      have eb : ¬ nI (fB F) ≤ nI b := by
        simp (disch := omega) only [n_le, n_lt, n_eq, n_eq0, n_0lt, n_le0, n_lt0, n_0le, n_gvp, n_gx, n_add, n_mul, decide_eq_true_eq, Option.bind_some, if_false, if_true, not_false_eq_true, not_true_eq_false]
        omega
      rcases (by omega : mh V / 2 ^ b % 2 = 1 ∨ mh V / 2 ^ b % 2 = 0) with hh | hh
      · refine Or.inl ⟨s, ?_, ?_, hp.2⟩
        · show r_X5_tryRows_2 REC f m (k + 1) (nI v) (nI (n + 1)) (nI r) (nI b) s.1 s.2 = r_X5_tryRows_2 REC f m k (nI v) (nI (n + 1)) (nI r) (nI (b + 1)) s.1 s.2
          rw [r_X5_tryRows_2, hc'.2.2.1, if_neg eb, isHome_c hM'.2.2.2.2.1 (by omega) (by omega), hh, if_neg z1]
          unfold r_X5_tryRows_83
          rw [n_add]
        · rw [Nat.add_mul, Nat.one_mul, itN_add, itN_id]
          · exact hp.1
          · intro i hi
            unfold sDs
            rw [(dm hi).1, (dm hi).2]
            have : goS F V b i = none := by
              unfold goS
              exact if_neg (by omega)
            rw [this]
      · have lane := gloopQ (fun k' l (t : gII × gLL) => r_X5_tryRows_13 REC f m (r_X5_tryRows_2 REC f m k) k' (nI v) (nI (n + 1)) (nI r) (nI b) (nI l) t.1 t.2) (fun l t => tH t.1 (itN (sDs F v n V r) (b * fL F + l) st) ∧ tFr n I t.1 L t.2) (fun x => ∃ I' L', x = r_X5_tryRows_2 REC f m k (nI v) (nI (n + 1)) (nI r) (nI (b + 1)) I' L' ∧ tH I' (itN (sDs F v n V r) (b * fL F + fL F) st) ∧ tFr n I I' L L') (n := fL F)
          (fun k' l t hl ht => by
            have hc'' := tFr_fen hw ht.2 hc
            have hM'' := keepM ht.2
            have s5 := sDs_le (F := F) (v := v) (n := n) (V := V) (r := r) (N := b * fL F + l) hs5
            by_cases q : (itN (sDs F v n V r) (b * fL F + l) st).1 = 5
            · refine Or.inr ⟨t.1, t.2, ?_, ?_, ht.2⟩
              · show r_X5_tryRows_13 REC f m (r_X5_tryRows_2 REC f m k) (k' + 1) (nI v) (nI (n + 1)) (nI r) (nI b) (nI l) t.1 t.2 = _
                rw [r_X5_tryRows_13, hc''.2.1, if_neg (show ¬ nI (fL F) ≤ nI l by simp (disch := omega) only [n_le, n_lt, n_eq, n_eq0, n_0lt, n_le0, n_lt0, n_0le, n_gvp, n_gx, n_add, n_mul, decide_eq_true_eq, Option.bind_some, if_false, if_true, not_false_eq_true, not_true_eq_false]; omega), ht.1.1, q, if_pos (by decide)]
                unfold r_X5_tryRows_83
                rw [n_add]
              · rw [show b * fL F + fL F = (b * fL F + l) + (fL F - l) by omega, itN_add, itN_id]
                · exact ht.1
                · intro i _
                  exact sDs_5 q
            · obtain ⟨I1, L1, e1, t1, f1⟩ := try_one (REC := REC) (K2 := r_X5_tryRows_2 REC f m k) (k := k') hw hF hc'' hV hmo hM'' hm hn hv hb hl hh ht.1 s5 q hrec
              refine Or.inl ⟨(I1, L1), e1, ?_, tFr_trans ht.2 f1⟩
              show tH I1 (sDs F v n V r (b * fL F + l) (itN (sDs F v n V r) (b * fL F + l) st))
              have eg : goS F V b l = some (driveS F V b l) := by
                unfold goS
                exact if_pos ⟨hb, hl, hh⟩
              have es : sDs F v n V r (b * fL F + l) (itN (sDs F v n V r) (b * fL F + l) st) = cfS F v n (driveS F V b l) (100 * r + 10 * (b + 1) + l + 1) (itN (sDs F v n V r) (b * fL F + l) st) := by
                generalize itN (sDs F v n V r) (b * fL F + l) st = x
                unfold sDs
                rw [(dm hl).1, (dm hl).2, eg]
              rw [es]
              exact t1)
          (fun k' t ht => by
            refine ⟨t.1, t.2, ?_, ht.1, ht.2⟩
            show r_X5_tryRows_13 REC f m (r_X5_tryRows_2 REC f m k) (k' + 1) (nI v) (nI (n + 1)) (nI r) (nI b) (nI (fL F)) t.1 t.2 = _
            rw [r_X5_tryRows_13, (tFr_fen hw ht.2 hc).2.1, if_pos (show nI (fL F) ≤ nI (fL F) by simp (disch := omega) only [n_le, n_lt, n_eq, n_eq0, n_0lt, n_le0, n_lt0, n_0le, n_gvp, n_gx, n_add, n_mul, decide_eq_true_eq, Option.bind_some, if_false, if_true, not_false_eq_true, not_true_eq_false]; omega)]
            unfold r_X5_tryRows_83
            rw [n_add]) (d := fL F) (j := 0) (N := 100) (s := s) (by omega) (by omega) hp
        obtain ⟨I', L', e, t', f'⟩ := lane
        refine Or.inl ⟨(I', L'), ?_, ?_, f'⟩
        · show r_X5_tryRows_2 REC f m (k + 1) (nI v) (nI (n + 1)) (nI r) (nI b) s.1 s.2 = _
          rw [r_X5_tryRows_2, hc'.2.2.1, if_neg eb, isHome_c hM'.2.2.2.2.1 (by omega) (by omega), hh, if_pos z0]
          exact e
        · rw [Nat.add_mul, Nat.one_mul]
          exact t')
    (fun k s hp => by
      refine ⟨(0, s.1, s.2), ?_, s.1, s.2, rfl, hp.1, hp.2⟩
      show r_X5_tryRows_2 REC f m (k + 1) (nI v) (nI (n + 1)) (nI r) (nI (fB F)) s.1 s.2 = _
      rw [r_X5_tryRows_2, (tFr_fen hw hp.2 hc).2.2.1, if_pos (by simp (disch := omega) only [n_le, n_lt, n_eq, n_eq0, n_0lt, n_le0, n_lt0, n_0le, n_gvp, n_gx, n_add, n_mul, decide_eq_true_eq, Option.bind_some, if_false, if_true, not_false_eq_true, not_true_eq_false]; omega)]) (d := fB F) (j := 0) (N := 100) (s := (I, L)) (by omega) (by omega) ⟨by rw [Nat.zero_mul]; exact hst, fun a _ _ _ _ => ⟨rfl, rfl⟩⟩
  obtain ⟨z, e, I', L', rfl, h1, h2⟩ := h
  rw [cfS_it]
  exact ⟨I', L', e, h1, h2⟩
theorem rec_c {F : TFen} {f g v : Nat} (hw : gfw f g) (hF : okF F) (hv : v < fV F) : ∀ n, n ≤ 2 → ∀ d, n < d → ∀ (I : gII) (L : gLL) (m : Nat) (V : TMom) (r : Nat) (st : Nat × Int32), cFen I f F → okM F V → gmo m = true → ¬ (48 ≤ m ∧ m < 48 + n) → cMom I L m V → tH I st → st.1 ≤ 5 → ∃ I' L', r_X5_tryRows_rec d I L f m (nI v) (nI (n + 1)) (nI r) = some (0, I', L') ∧ tH I' (cfS F v (n + 1) V r st) ∧ tFr n I I' L L' := by
  intro n
  induction n with
  | zero =>
    intro hn d hd I L m V r st hc hV hmo hm hM hst hs5
    obtain ⟨d, rfl⟩ : ∃ d', d = d' + 1 := ⟨d - 1, by omega⟩
    exact rows_c (REC := r_X5_tryRows_rec d) hw hF hc hV hmo hM hm hn hv hst hs5 (fun h => absurd h (by omega))
  | succ n ih =>
    intro hn d hd I L m V r st hc hV hmo hm hM hst hs5
    obtain ⟨d, rfl⟩ : ∃ d', d = d' + 1 := ⟨d - 1, by omega⟩
    refine rows_c (REC := r_X5_tryRows_rec d) hw hF hc hV hmo hM hm hn hv hst hs5 (fun _ I L W r st hc hW hM hst hs5 => ?_)
    have hmo2 : gmo (48 + n) = true := by
      rcases (by omega : n = 0 ∨ n = 1) with rfl | rfl <;> rfl
    exact ih (by omega) d (by omega) I L (48 + n) W r st hc hW hmo2 (by omega) hM hst hs5
theorem look_c {I : gII} {L : gLL} {F : TFen} {V : TMom} {f g v n : Nat} (hw : gfw f g) (hF : okF F) (hc : cFen I f F) (hV : okM F V) (hM : cMom I L 18 V) (hv : v < fV F) (n1 : 1 ≤ n) (n3 : n ≤ 3) : ∃ I' L', r_X5_look I L f 18 (nI v) (nI n) = some (0, I', L') ∧ tH I' (cfS F v n V 0 (0, -9)) ∧ (∀ a, a < 44 → I' a = I a ∧ L' a = L a) := by
  have hf := gfe_or hw.f
  have kI : ∀ a, a ≠ 44 → gu2 (gu2 I 44 2 (-9)) 44 3 (-9) a = I a := fun a ha => by rw [gu2_other ha, gu2_other ha]
  obtain ⟨I', L', e, t, fr⟩ := rec_c (f := f) (g := g) hw hF hv (n - 1) (by omega) 4 (by omega) (gu2 (gu2 I 44 2 (-9)) 44 3 (-9)) L 18 V 0 (0, -9) (cFen_kept (fun a q1 q2 => kI a (by omega)) hc) hV rfl (by omega) (cMom_kept (kI 18 (by decide)) rfl hM) ⟨by rw [g2n (by decide), g2a]; rfl, g2a⟩ (Nat.zero_le _)
  rw [show n - 1 + 1 = n by omega] at e t
  refine ⟨I', L', ?_, t, fun a ha => ?_⟩
  · unfold r_X5_look r_X5_tryRows
    have em : ∀ {I : gII} {L : gLL}, f_J9_min_7cf53 I L (nI n) (nI 3) = nI n := fun {I L} => by
      unfold f_J9_min_7cf53
      rw [if_neg (by simp (disch := omega) only [n_le, n_lt, n_eq, n_eq0, n_0lt, n_le0, n_lt0, n_0le, n_gvp, n_gx, n_add, n_mul, decide_eq_true_eq, Option.bind_some, if_false, if_true, not_false_eq_true, not_true_eq_false]; omega)]
    rw [em, e]
    rfl
  · have x := fr a (by omega) (by omega) (by omega) (by omega)
    exact ⟨x.1.trans (kI a (by omega)), x.2⟩
theorem ag_best (x y u : Int32) : mAg (fun f g I L => r_X7_best f g I L x y u) (fun I L => r_X8_best I L x y u) := by
  refine mAg_ask (fun f g I L z hw e a q => by
    have := cHold_lt hw q
    exact w_X7_best (by omega) e) (fun S hS => ?_)
  have hF := hS.2.1
  have hV := hS.2.2.1
  have hV2 := hF.2.2.2.1
  rcases inb_cases x (n := fV (sF S)) (by omega) with e | ⟨v, hv, rfl, e⟩
  · refine ⟨-1, fun f g I L hw hc => ⟨I, L, ?_⟩, fun I L hr => ⟨I, L, ?_, rSame_refl⟩⟩
    · show r_X7_best f g I L x y u = _
      unfold r_X7_best
      rw [isVerse_c hc.2.1, e, if_neg zn0]
    · show r_X8_best I L x y u = _
      unfold r_X8_best
      rw [isVerse_m hF hr.2.1, Option.bind_some, e, if_neg zn0]
  have cls : ∀ {f g : Nat} {I : gII} {L : gLL}, cFen I f (sF S) → r_X7_best f g I L (nI v) y u = if y < nI 1 then some ((-2 : Int32), I, L) else if y ≤ nI 3 then ((r_X5_look I L f 18 (nI v) y).bind (fun z14 => (if u = 0 then (r_X7_best_33 f g (z14.2.1 44 2) z14.2.1 z14.2.2) else (r_X7_best_33 f g (z14.2.1 44 3) z14.2.1 z14.2.2)))) else some ((-2 : Int32), I, L) := fun hc => by
    unfold r_X7_best r_X7_best_13
    rw [isVerse_c hc, e, if_pos z1]
  have rfr : ∀ {I : gII} {L : gLL}, rFen I (sF S) → r_X8_best I L (nI v) y u = if ¬ irg y 1 3 = 0 then ((r_X8_bestFit I L (nI v) y).bind (fun z18 => (if u = 0 then (r_X8_best_30 z18.1 z18.2.1 z18.2.2) else (if z18.1 = (-9 : Int32) then (r_X8_best_30 z18.1 z18.2.1 z18.2.2) else ((r_X8_told z18.2.1 z18.2.2 y (z18.2.1 57 28)).bind (fun z21 => some (z21.1, z21.2.1, z21.2.2))))))) else some ((-2 : Int32), I, L) := fun hc => by
    unfold r_X8_best
    rw [isVerse_m hF hc, Option.bind_some, e, if_pos z1, in_c (by omega) (by omega)]
  rcases irg_cases y (lo := 1) (hi := 3) (by omega) (by omega) with ⟨h, e3⟩ | ⟨h1, h2, h3, e3⟩ | ⟨n, n1, n3, rfl, e3⟩
  · exact ⟨-2, fun f g I L hw hc => ⟨I, L, (cls hc.2.1).trans (if_pos h)⟩, fun I L hr => ⟨I, L, (rfr hr.2.1).trans (by rw [e3, if_neg zn0]), rSame_refl⟩⟩
  · exact ⟨-2, fun f g I L hw hc => ⟨I, L, (cls hc.2.1).trans ((if_neg h1).trans (if_neg h3))⟩, fun I L hr => ⟨I, L, (rfr hr.2.1).trans (by rw [e3, if_neg zn0]), rSame_refl⟩⟩
  have key : cfS (sF S) v n (sV S) 0 (0, -9) = ((bcS (sF S) v n (sV S) (eB (sF S) ^ n)).1, if (bcS (sF S) v n (sV S) (eB (sF S) ^ n)).1 = 0 then -9 else nI (tld (sF S) n 0 (bcS (sF S) v n (sV S) (eB (sF S) ^ n)).2)) := by
    rw [cf_rf]
    exact bc_rf _
  have bl := bcS_le (F := sF S) (v := v) (n := n) (V := sV S) (eB (sF S) ^ n)
  refine ⟨(if u = 0 then mv (bcS (sF S) v n (sV S) (eB (sF S) ^ n)).1 else if (bcS (sF S) v n (sV S) (eB (sF S) ^ n)).1 = 0 then -9 else nI (tld (sF S) n 0 (bcS (sF S) v n (sV S) (eB (sF S) ^ n)).2)), fun f g I L hw hc => ?_, fun I L hr => ?_⟩
  · obtain ⟨I', L', e5, t5, -⟩ := look_c (n := n) hw hF hc.2.1 hV hc.2.2.1 hv n1 n3
    rw [key] at t5
    refine ⟨I', L', (cls hc.2.1).trans ((if_neg (by simp (disch := omega) only [n_le, n_lt, n_eq, n_eq0, n_0lt, n_le0, n_lt0, n_0le, n_gvp, n_gx, n_add, n_mul, decide_eq_true_eq, Option.bind_some, if_false, if_true, not_false_eq_true, not_true_eq_false]; omega)).trans ((if_pos (by simp (disch := omega) only [n_le, n_lt, n_eq, n_eq0, n_0lt, n_le0, n_lt0, n_0le, n_gvp, n_gx, n_add, n_mul, decide_eq_true_eq, Option.bind_some, if_false, if_true, not_false_eq_true, not_true_eq_false]; omega)).trans ?_))⟩
    rw [e5, Option.bind_some]
    unfold r_X7_best_33
    dsimp only
    rw [t5.1, t5.2]
    by_cases q : u = 0
    · rw [if_pos q, if_pos q]
    · rw [if_neg q, if_neg q]
  · obtain ⟨I', e5, p5, b5⟩ := bestFit_r (L := L) (n := n) hF hr.2.1 hV hr.2.2.1 n3 hv
    refine ⟨I', L, (rfr hr.2.1).trans ?_, rB_same b5⟩
    rw [e3, if_pos z1, e5, Option.bind_some]
    unfold r_X8_best_30
    dsimp only
    by_cases q : u = 0
    · rw [if_pos q, if_pos q]
    · rw [if_neg q, if_neg q]
      by_cases q0 : (bcS (sF S) v n (sV S) (eB (sF S) ^ n)).1 = 0
      · rw [if_pos ((mv_9 _ bl.1).mpr q0), if_pos q0, q0]
        rfl
      · have lt : (bcS (sF S) v n (sV S) (eB (sF S) ^ n)).2 < eB (sF S) ^ n := by
          rcases bl.2 with w | w
          · exact w
          · rcases Nat.eq_zero_or_pos (eB (sF S) ^ n) with p | p
            · rw [p] at q0
              exact absurd rfl q0
            · omega
        rw [if_neg (fun h => q0 ((mv_9 _ bl.1).mp h)), if_neg q0, p5, told_r hF (rB_fen b5 hr.2.1) n3 lt, Option.bind_some]
theorem few8_r {I : gII} {L : gLL} {F : TFen} {V : TMom} {v : Nat} (hF : okF F) (hc : rFen I F) (hV : okM F V) (hM : rMom I 63 0 V) (hv : v < fV F) : ∃ I', r_X8_fewest_8 100 (nI v) (nI 0) I L = some ((if (bcS F v 0 V 1).1 = 5 then nI 0 else if (bcS F v 1 V (eB F ^ 1)).1 = 5 then nI 1 else if (bcS F v 2 V (eB F ^ 2)).1 = 5 then nI 2 else if (bcS F v 3 V (eB F ^ 3)).1 = 5 then nI 3 else -9), I', L) ∧ rBm I I' := by
  have hml := hV.2.2.2.2.2.2.2
  have step : ∀ k n (s : gII), n ≤ 3 → rBm I s → ∃ s', r_X8_fewest_8 (k + 1) (nI v) (nI n) s L = (if (bcS F v n V (eB F ^ n)).1 = 5 then some (nI n, s', L) else r_X8_fewest_8 k (nI v) (nI (n + 1)) s' L) ∧ rBm I s' := by
    intro k n s hn hs
    obtain ⟨s', e, p, b⟩ := bestFit_r (L := L) (n := n) hF (rB_fen hs hc) hV (rB_mom0 hml hs hM) hn hv
    have bl := bcS_le (F := F) (v := v) (n := n) (V := V) (eB F ^ n)
    refine ⟨s', ?_, rB_trans hs b⟩
    rw [r_X8_fewest_8, if_neg (by simp (disch := omega) only [n_le, n_lt, n_eq, n_eq0, n_0lt, n_le0, n_lt0, n_0le, n_gvp, n_gx, n_add, n_mul, decide_eq_true_eq, Option.bind_some, if_false, if_true, not_false_eq_true, not_true_eq_false]; omega), e, Option.bind_some]
    dsimp only
    by_cases q : (bcS F v n V (eB F ^ n)).1 = 5
    · rw [if_neg (fun h => h ((mv_4 _ bl.1).mpr q)), if_pos q]
    · rw [if_pos (fun h => q ((mv_4 _ bl.1).mp h)), if_neg q, n_add]
  obtain ⟨s0, e0, b0⟩ := step 99 0 I (by omega) rB_refl
  obtain ⟨s1, e1, b1⟩ := step 98 1 s0 (by omega) b0
  obtain ⟨s2, e2, b2⟩ := step 97 2 s1 (by omega) b1
  obtain ⟨s3, e3, b3⟩ := step 96 3 s2 (by omega) b2
  rw [Nat.pow_zero] at e0
  by_cases q0 : (bcS F v 0 V 1).1 = 5
  · rw [if_pos q0] at e0 ⊢
    exact ⟨s0, e0, b0⟩
  rw [if_neg q0] at e0 ⊢
  by_cases q1 : (bcS F v 1 V (eB F ^ 1)).1 = 5
  · rw [if_pos q1] at e1 ⊢
    exact ⟨s1, e0.trans e1, b1⟩
  rw [if_neg q1] at e1 ⊢
  by_cases q2 : (bcS F v 2 V (eB F ^ 2)).1 = 5
  · rw [if_pos q2] at e2 ⊢
    exact ⟨s2, e0.trans (e1.trans e2), b2⟩
  rw [if_neg q2] at e2 ⊢
  by_cases q3 : (bcS F v 3 V (eB F ^ 3)).1 = 5
  · rw [if_pos q3] at e3 ⊢
    exact ⟨s3, e0.trans (e1.trans (e2.trans e3)), b3⟩
  rw [if_neg q3] at e3 ⊢
  refine ⟨s3, e0.trans (e1.trans (e2.trans (e3.trans ?_))), b3⟩
  rw [show (96 : Nat) = 95 + 1 from rfl, r_X8_fewest_8, if_pos (by decide)]
theorem few18_c {I : gII} {L : gLL} {F : TFen} {V : TMom} {f g v : Nat} (hw : gfw f g) (hF : okF F) (hc : cFen I f F) (hV : okM F V) (hM : cMom I L 18 V) (hv : v < fV F) : ∃ I' L', r_X7_fewest_18 f g 100 (nI v) (nI 1) I L = some ((if (bcS F v 1 V (eB F ^ 1)).1 = 5 then nI 1 else if (bcS F v 2 V (eB F ^ 2)).1 = 5 then nI 2 else if (bcS F v 3 V (eB F ^ 3)).1 = 5 then nI 3 else -9), I', L') := by
  have hf := gfe_or hw.f
  have step : ∀ k n (s : gII) (t : gLL), 1 ≤ n → n ≤ 3 → (∀ a, a < 44 → s a = I a ∧ t a = L a) → ∃ s' t', r_X7_fewest_18 f g (k + 1) (nI v) (nI n) s t = (if (bcS F v n V (eB F ^ n)).1 = 5 then some (nI n, s', t') else r_X7_fewest_18 f g k (nI v) (nI (n + 1)) s' t') ∧ ∀ a, a < 44 → s' a = I a ∧ t' a = L a := by
    intro k n s t n1 hn hs
    obtain ⟨s', t', e, p, b⟩ := look_c (n := n) hw hF (cFen_kept (fun a q1 q2 => (hs a (by omega)).1) hc) hV (cMom_kept (hs 18 (by decide)).1 (hs 18 (by decide)).2 hM) hv n1 hn
    have bl := bcS_le (F := F) (v := v) (n := n) (V := V) (eB F ^ n)
    rw [cf_rf, bc_rf] at p
    have p1 : s' 44 2 = mv (bcS F v n V (eB F ^ n)).1 := p.1
    refine ⟨s', t', ?_, fun a ha => ⟨(b a ha).1.trans (hs a ha).1, (b a ha).2.trans (hs a ha).2⟩⟩
    rw [r_X7_fewest_18, if_neg (by simp (disch := omega) only [n_le, n_lt, n_eq, n_eq0, n_0lt, n_le0, n_lt0, n_0le, n_gvp, n_gx, n_add, n_mul, decide_eq_true_eq, Option.bind_some, if_false, if_true, not_false_eq_true, not_true_eq_false]; omega), e, Option.bind_some]
    dsimp only
    by_cases q : (bcS F v n V (eB F ^ n)).1 = 5
    · rw [if_pos q, if_neg (fun h => h (by rw [p1]; exact (mv_4 _ bl.1).mpr q))]
    · rw [if_neg q, if_pos (fun h => q ((mv_4 _ bl.1).mp (by rw [← p1]; exact h))), n_add]
  obtain ⟨s1, t1, e1, b1⟩ := step 99 1 I L (by omega) (by omega) (fun a _ => ⟨rfl, rfl⟩)
  obtain ⟨s2, t2, e2, b2⟩ := step 98 2 s1 t1 (by omega) (by omega) b1
  obtain ⟨s3, t3, e3, b3⟩ := step 97 3 s2 t2 (by omega) (by omega) b2
  by_cases q1 : (bcS F v 1 V (eB F ^ 1)).1 = 5
  · rw [if_pos q1] at e1 ⊢
    exact ⟨s1, t1, e1⟩
  rw [if_neg q1] at e1 ⊢
  by_cases q2 : (bcS F v 2 V (eB F ^ 2)).1 = 5
  · rw [if_pos q2] at e2 ⊢
    exact ⟨s2, t2, e1.trans e2⟩
  rw [if_neg q2] at e2 ⊢
  by_cases q3 : (bcS F v 3 V (eB F ^ 3)).1 = 5
  · rw [if_pos q3] at e3 ⊢
    exact ⟨s3, t3, e1.trans (e2.trans e3)⟩
  rw [if_neg q3] at e3 ⊢
  refine ⟨s3, t3, e1.trans (e2.trans (e3.trans ?_))⟩
  rw [show (97 : Nat) = 96 + 1 from rfl, r_X7_fewest_18, if_pos (by decide)]
theorem ag_fewest (x : Int32) : mAg (fun f g I L => r_X7_fewest f g I L x) (fun I L => r_X8_fewest I L x) := by
  refine mAg_ask (fun f g I L z hw e a q => by
    have := cHold_lt hw q
    exact w_X7_fewest (by omega) e) (fun S hS => ?_)
  have hF := hS.2.1
  have hV := hS.2.2.1
  have hV2 := hF.2.2.2.1
  rcases inb_cases x (n := fV (sF S)) (by omega) with e | ⟨v, hv, rfl, e⟩
  · refine ⟨-1, fun f g I L hw hc => ⟨I, L, ?_⟩, fun I L hr => ⟨I, L, ?_, rSame_refl⟩⟩
    · show r_X7_fewest f g I L x = _
      unfold r_X7_fewest
      rw [isVerse_c hc.2.1, e, if_neg zn0]
    · show r_X8_fewest I L x = _
      unfold r_X8_fewest
      rw [isVerse_m hF hr.2.1, Option.bind_some, e, if_neg zn0]
  have b0 : (bcS (sF S) v 0 (sV S) 1).1 = fitL (sF S) (ms (sV S)) v + 1 := by
    rw [bcS_s (W := sV S) rfl]
    show (if 0 ≤ fitL (sF S) (ms (sV S)) v then (fitL (sF S) (ms (sV S)) v + 1, 0) else (0, 0) : Nat × Nat).1 = _
    rw [if_pos (Nat.zero_le _)]
  have fl4 := fitL_le (sF S) (ms (sV S)) v
  refine ⟨(if (bcS (sF S) v 0 (sV S) 1).1 = 5 then nI 0 else if (bcS (sF S) v 1 (sV S) (eB (sF S) ^ 1)).1 = 5 then nI 1 else if (bcS (sF S) v 2 (sV S) (eB (sF S) ^ 2)).1 = 5 then nI 2 else if (bcS (sF S) v 3 (sV S) (eB (sF S) ^ 3)).1 = 5 then nI 3 else -9), fun f g I L hw hc => ?_, fun I L hr => ?_⟩
  · show ∃ I' L', r_X7_fewest f g I L (nI v) = _
    have hf := gfe_or hw.f
    obtain ⟨I', L', e5⟩ := few18_c (I := gu2 I 53 1 (nI 0)) (L := L) hw hF (cFen_kept (fun a q1 q2 => gu2_other (by omega)) hc.2.1) hV (cMom_kept (gu2_other (by decide)) rfl hc.2.2.1) hv
    unfold r_X7_fewest
    rw [isVerse_c hc.2.1, e, if_pos z1, fitIn_c hw (Or.inl rfl) hF hc.2.1 hV hc.2.2.1 hv, Option.bind_some]
    dsimp only
    by_cases q : (bcS (sF S) v 0 (sV S) 1).1 = 5
    · have q4 : nI (fitL (sF S) (ms (sV S)) v) = nI 4 := by
        congr 1
        omega
      rw [if_pos q, if_neg (fun h => h q4)]
      exact ⟨_, L, rfl⟩
    · have q4 : ¬ nI (fitL (sF S) (ms (sV S)) v) = nI 4 := by
        rw [n_eq (by omega) (by omega)]
        omega
      rw [if_neg q, if_pos q4]
      exact ⟨I', L', e5⟩
  · show ∃ I' L', r_X8_fewest I L (nI v) = _ ∧ _
    obtain ⟨I', e5, b5⟩ := few8_r (L := L) hF hr.2.1 hV hr.2.2.1 hv
    refine ⟨I', L, ?_, rB_same b5⟩
    unfold r_X8_fewest
    rw [isVerse_m hF hr.2.1, Option.bind_some, e, if_pos z1]
    exact e5
