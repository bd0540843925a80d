/-! WINTERS, the loop; nx: the next seed -/
def winR (nx : Int64 → Int64) (F : TFen) : Nat → Int64 → TMom → Nat
  | 0, _, _ => 0
  | k + 1, s, W => (wiS F W (chN (nx s))).1 + winR nx F k (nx s) (wiS F W (chN (nx s))).2
def seedR (nx : Int64 → Int64) : Nat → Int64 → Int64
  | 0, s => s
  | k + 1, s => seedR nx k (nx s)
theorem winR_succ {nx : Int64 → Int64} {F : TFen} {k : Nat} {s : Int64} {W : TMom} : winR nx F (k + 1) s W = (wiS F W (chN (nx s))).1 + winR nx F k (nx s) (wiS F W (chN (nx s))).2 := rfl
theorem seedR_succ {nx : Int64 → Int64} {k : Nat} {s : Int64} : seedR nx (k + 1) s = seedR nx k (nx s) := rfl
theorem winR_0 {nx : Int64 → Int64} {F : TFen} {s : Int64} {W : TMom} : winR nx F 0 s W = 0 := rfl
theorem seedR_0 {nx : Int64 → Int64} {s : Int64} : seedR nx 0 s = s := rfl
theorem chN_lt (x : Int64) : chN x < 21 := Nat.mod_lt _ (by decide)
theorem win17_c {nx : Int64 → Int64} (hnx : ∀ s : Int64, s * lN 6364136223846793005 + lN 1442695040888963407 = nx s) {I : gII} {L : gLL} {F : TFen} {W : TMom} {f g n : Nat} (hw : gfw f g) (hF : okF F) (hc : cFen I f F) (hW : okM F W) (hM : cMom I L 19 W) (hn : n ≤ 30) : ∃ I' L', r_X7_winters_17 f g 100 (nI n) (nI 0) (nI 0) I L = some (nI (winR nx F n (L 2 14) W), I', L') ∧ L' 2 14 = seedR nx n (L 2 14) ∧ ∀ a, a ≠ 19 → a ≠ 53 → a ≠ 54 → I' a = I a ∧ (a ≠ 2 → L' a = L a) := by
  have hf := gfe_or hw.f
  have h := gloopE (fun m j (s : Int32 × gII × gLL) => r_X7_winters_17 f g m (nI n) s.1 (nI j) s.2.1 s.2.2) (fun j s => ∃ W' a, okM F W' ∧ cMom s.2.1 s.2.2 19 W' ∧ s.1 = nI a ∧ a + winR nx F (n - j) (s.2.2 2 14) W' = winR nx F n (L 2 14) W ∧ seedR nx (n - j) (s.2.2 2 14) = seedR nx n (L 2 14) ∧ ∀ a, a ≠ 19 → a ≠ 53 → a ≠ 54 → s.2.1 a = I a ∧ (a ≠ 2 → s.2.2 a = L a)) (fun z => ∃ I' L', z = (nI (winR nx F n (L 2 14) W), I', L') ∧ L' 2 14 = seedR nx n (L 2 14) ∧ ∀ a, a ≠ 19 → a ≠ 53 → a ≠ 54 → I' a = I a ∧ (a ≠ 2 → L' a = L a)) (n := n)
    (fun m j s hj hp => by
      obtain ⟨W', a, okW', m', ea, ew, es, fr⟩ := hp
      have hc' : cFen s.2.1 f F := cFen_kept (fun a q1 q2 => (fr a (by omega) (by omega) (by omega)).1) hc
      have m'' : cMom s.2.1 (gu2 s.2.2 2 14 (nx (s.2.2 2 14))) 19 W' := cMom_kept rfl (gu2_other (by decide)) m'
      obtain ⟨I1, L1, e1, m1⟩ := doChance_c hw hF hc' okW' m'' (chN_lt (nx (s.2.2 2 14)))
      have fr1 : ∀ a, a ≠ 19 → a ≠ 53 → a ≠ 54 → I1 a = s.2.1 a ∧ L1 a = gu2 s.2.2 2 14 (nx (s.2.2 2 14)) a := fun a a1 a2 a3 => w_X7_doChance (by omega) e1
      have l2 : L1 2 14 = nx (s.2.2 2 14) := by rw [(fr1 2 (by decide) (by decide) (by decide)).2, g2a]
      rw [show n - j = (n - (j + 1)) + 1 by omega] at ew es
      refine Or.inl ⟨(nI (a + (wiS F W' (chN (nx (s.2.2 2 14)))).1), I1, L1), ?_, _, _, wiS_ok okW', m1, rfl, ?_, ?_, fun b b1 b2 b3 => ⟨((fr1 b b1 b2 b3).1).trans (fr b b1 b2 b3).1, fun b4 => ((fr1 b b1 b2 b3).2).trans ((gu2_other b4).trans ((fr b b1 b2 b3).2 b4))⟩⟩
      · show r_X7_winters_17 f g (m + 1) (nI n) s.1 (nI j) s.2.1 s.2.2 = r_X7_winters_17 f g m (nI n) _ (nI (j + 1)) I1 L1
        rw [ea, r_X7_winters_17, g2a, ch_v]
        rw [hnx, e1]
        simp (disch := omega) only [n_le, n_lt, n_eq, n_eq0, n_0lt, n_le0, n_lt0, n_0le, n_gvp, n_gx, n_add, n_mul, decide_eq_true_eq, Option.bind_some, if_false, if_true, not_false_eq_true, not_true_eq_false]
        rw [if_neg (by omega)]
      · show a + (wiS F W' (chN (nx (s.2.2 2 14)))).1 + winR nx F (n - (j + 1)) (L1 2 14) _ = _
        rw [l2, ← ew, winR_succ, Nat.add_assoc]
      · show seedR nx (n - (j + 1)) (L1 2 14) = _
        rw [l2, ← es, seedR_succ])
    (fun m s hp => by
      obtain ⟨W', a, okW', m', ea, ew, es, fr⟩ := hp
      rw [Nat.sub_self, winR_0, Nat.add_zero] at ew
      rw [Nat.sub_self, seedR_0] at es
      refine ⟨(s.1, s.2.1, s.2.2), ?_, s.2.1, s.2.2, ?_, es, fr⟩
      · show r_X7_winters_17 f g (m + 1) (nI n) s.1 (nI n) s.2.1 s.2.2 = _
        rw [r_X7_winters_17, if_pos (by simp (disch := omega) only [n_le, n_lt, n_eq, n_eq0, n_0lt, n_le0, n_lt0, n_0le, n_gvp, n_gx, n_add, n_mul, decide_eq_true_eq, Option.bind_some, if_false, if_true, not_false_eq_true, not_true_eq_false]; omega)]
      · rw [ea, ew]) (d := n) (j := 0) (N := 100) (s := (nI 0, I, L)) (by omega) (by omega) ⟨W, 0, hW, hM, rfl, Nat.zero_add _, rfl, fun a _ _ _ => ⟨rfl, fun _ => rfl⟩⟩
  obtain ⟨z, e, I', L', rfl, h1, h2⟩ := h
  exact ⟨I', L', e, h1, h2⟩
