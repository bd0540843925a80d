/-! TWO HERDSMEN -/
def unb (xs : List Nat) : Nat := if cnt xs = xs.length then 1 else 0
def gain (F : TFen) (V : TMom) (one other a b : Nat) : Nat := if a = b then 0 else harm (song F V one a) (song F V other b) + unb (song F V one a)
theorem harm_le {xs ys : List Nat} (h : xs.length ≤ 12) : harm xs ys ≤ 12 := by
  have := sumTo_le (h := fun i => hm (xs.getD i 0) (ys.getD i 0)) (k := 1) (min xs.length ys.length) (fun i _ => hm_le _ _)
  unfold harm
  omega
theorem unb_le (xs : List Nat) : unb xs ≤ 1 := by
  unfold unb
  split <;> omega
theorem gain_le (F : TFen) (V : TMom) (one other a b : Nat) : gain F V one other a b ≤ 13 := by
  have h1 := harm_le (ys := song F V other b) (song_len F V one a)
  have h2 := unb_le (song F V one a)
  unfold gain
  split <;> omega
theorem unbroken_c {I : gII} {L : gLL} {s : Nat} {xs : List Nat} (hs : cSong I s xs) (hx : xs.length ≤ 12) (lx : ∀ u ∈ xs, u ≤ 12) : r_X3_isUnbroken I L s = some (nI (unb xs), I, L) := by
  have := cnt_le xs
  unfold r_X3_isUnbroken unb
  rw [count_c lx hx hs]
  simp (disch := omega) only [n_le, n_lt, n_eq, n_eq0, n_0lt, n_le0, n_lt0, n_0le, n_gvp, n_gx, n_add, n_mul, decide_eq_true_eq, Option.bind_some, if_false, if_true, not_false_eq_true, not_true_eq_false, hs.1]
  by_cases q : cnt xs = xs.length
  · rw [if_neg (fun h => h q), if_pos q]
  · rw [if_pos q, if_neg q]
theorem meet_c {I : gII} {L : gLL} {a b : Nat} {xs ys : List Nat} (hs : cSong I 53 xs) (ht : cSong I 55 ys) (hx : xs.length ≤ 12) (hy : ys.length ≤ 12) (lx : ∀ u ∈ xs, u ≤ 12) (ly : ∀ u ∈ ys, u ≤ 12) (ha : a < 3) (hb : b < 3) : ∃ I', r_X3_meet I L (nI a) 53 (nI b) 55 = some (0, I', L) ∧ I' 51 (a * 3 + b) = nI (if a = b then 0 else harm xs ys + unb xs) ∧ I' 52 (a * 3 + b) = nI (if a = b then 0 else harm xs ys + unb ys) ∧ (∀ j, j ≠ a * 3 + b → I' 51 j = I 51 j ∧ I' 52 j = I 52 j) ∧ ∀ c, c ≠ 51 → c ≠ 52 → I' c = I c := by
  have h9 : a * 3 + b < 9 := by omega
  unfold r_X3_meet r_X3_meet_13
  simp (disch := omega) only [n_le, n_lt, n_eq, n_eq0, n_0lt, n_le0, n_lt0, n_0le, n_gvp, n_gx, n_add, n_mul, decide_eq_true_eq, Option.bind_some, if_false, if_true, not_false_eq_true, not_true_eq_false, h9]
  by_cases q : a = b
  · have f : ¬ ¬ a = b := fun h => h q
    rw [if_neg f]
    refine ⟨_, rfl, ?_, ?_, fun j hj => ⟨?_, ?_⟩, fun c c1 c2 => ?_⟩
    · rw [gu2_other (by decide), g2a, if_pos q]
    · rw [g2a, if_pos q]
    · rw [gu2_other (by decide), g2n hj]
    · rw [g2n hj, gu2_other (by decide)]
    · rw [gu2_other c2, gu2_other c1]
  · rw [if_pos q, harmonyWith_c hs ht hx hy lx ly]
    simp only [Option.bind_some]
    rw [unbroken_c hs hx lx]
    simp only [Option.bind_some]
    have u1 := unb_le xs
    have u2 := unb_le ys
    have key : ∀ u, r_X3_meet_42 53 55 (nI (a * 3 + b)) (nI (harm xs ys)) (nI (a * 3 + b)) (nI (harm xs ys)) (nI u) I L = some (0, gu2 (gu2 I 51 (a * 3 + b) (nI (harm xs ys + u))) 52 (a * 3 + b) (nI (harm xs ys + unb ys)), L) := by
      intro u
      unfold r_X3_meet_42
      have ht' : cSong (gu2 I 51 (a * 3 + b) (nI (harm xs ys + u))) 55 ys := ⟨by rw [gu2_other (by decide)]; exact ht.1, fun j hj => by rw [gu2_other (by decide)]; exact ht.2 j hj⟩
      rw [n_add, n_gx (by omega), unbroken_c ht' hy ly]
      simp (disch := omega) only [n_le, n_lt, n_eq, n_eq0, n_0lt, n_le0, n_lt0, n_0le, n_gvp, n_gx, n_add, n_mul, decide_eq_true_eq, Option.bind_some, if_false, if_true, not_false_eq_true, not_true_eq_false, h9]
      rcases (by omega : unb ys = 0 ∨ unb ys = 1) with w | w
      · rw [w, if_pos rfl, n_add]
      · rw [w, if_neg (by decide), n_add]
    have e : (if nI (unb xs) = 0 then r_X3_meet_42 53 55 (nI (a * 3 + b)) (nI (harm xs ys)) (nI (a * 3 + b)) (nI (harm xs ys)) (nI 0) I L else r_X3_meet_42 53 55 (nI (a * 3 + b)) (nI (harm xs ys)) (nI (a * 3 + b)) (nI (harm xs ys)) (nI 1) I L) = some (0, gu2 (gu2 I 51 (a * 3 + b) (nI (harm xs ys + unb xs))) 52 (a * 3 + b) (nI (harm xs ys + unb ys)), L) := by
      rcases (by omega : unb xs = 0 ∨ unb xs = 1) with w | w
      · rw [w, if_pos z0, key]
      · rw [w, if_neg z1, key]
    refine ⟨_, e, ?_, ?_, fun j hj => ⟨?_, ?_⟩, fun c c1 c2 => ?_⟩
    · rw [gu2_other (by decide), g2a, if_neg q]
    · rw [g2a, if_neg q]
    · rw [gu2_other (by decide), g2n hj]
    · rw [g2n hj, gu2_other (by decide)]
    · rw [gu2_other c2, gu2_other c1]
/-- both herdsmen's numbers lie in the cells 51, 52 -/
def cGain (I : gII) (gn go : Nat → Nat → Nat) (a b : Nat) : Prop := I 51 (a * 3 + b) = nI (gn a b) ∧ I 52 (a * 3 + b) = nI (go a b)
def rsN (gn go : Nat → Nat → Nat) (a b : Nat) : Nat → Bool
  | 0 => true
  | l + 1 => rsN gn go a b l && (decide (gn l b ≤ gn a b) && decide (go a l ≤ go a b))
theorem rsN_false {gn go : Nat → Nat → Nat} {a b j : Nat} (h : rsN gn go a b j = false) : ∀ n, j ≤ n → rsN gn go a b n = false := by
  intro n
  induction n with
  | zero =>
    intro hn
    rw [show (0 : Nat) = j by omega]
    exact h
  | succ n ih =>
    intro hn
    by_cases q : j = n + 1
    · rw [← q]
      exact h
    · show (rsN gn go a b n && _) = false
      rw [ih (by omega), Bool.false_and]
theorem atRest_c {I : gII} {L : gLL} {gn go : Nat → Nat → Nat} {n a b : Nat} (hn : n ≤ 3) (h : ∀ a b, a < n → b < n → cGain I gn go a b) (h1 : ∀ a b, gn a b ≤ 13) (h2 : ∀ a b, go a b ≤ 13) (ha : a < n) (hb : b < n) : r_X3_isAtRest I L (nI a) (nI b) (nI n) = some (nI (bI (rsN gn go a b n)), I, L) := by
  have gab := h a b ha hb
  have h9 : a * 3 + b < 9 := by omega
  have hh := gloopE (fun m j (_ : Unit) => r_X3_isAtRest_8 m (nI a) (nI b) (nI n) (nI (a * 3 + b)) (nI j) I L) (fun j _ => rsN gn go a b j = true) (fun z => z = (nI (bI (rsN gn go a b n)), I, L)) (n := n)
    (fun m j _ hj hp => by
      have g1 := (h j b hj hb).1
      have g2 := (h a j ha hj).2
      have b1 := h1 j b
      have b2 := h1 a b
      have b3 := h2 a j
      have b4 := h2 a b
      have next : rsN gn go a b (j + 1) = (decide (gn j b ≤ gn a b) && decide (go a j ≤ go a b)) := by
        show (rsN gn go a b j && _) = _
        rw [hp, Bool.true_and]
      have h91 : j * 3 + b < 9 := by omega
      have h92 : a * 3 + j < 9 := by omega
      have run : r_X3_isAtRest_8 (m + 1) (nI a) (nI b) (nI n) (nI (a * 3 + b)) (nI j) I L = if gn a b < gn j b then some (nI 0, I, L) else if go a j ≤ go a b then r_X3_isAtRest_8 m (nI a) (nI b) (nI n) (nI (a * 3 + b)) (nI (j + 1)) I L else some (nI 0, I, L) := by
        rw [r_X3_isAtRest_8]
        unfold r_X3_isAtRest_37
        simp (disch := omega) only [n_le, n_lt, n_eq, n_eq0, n_0lt, n_le0, n_lt0, n_0le, n_gvp, n_gx, n_add, n_mul, decide_eq_true_eq, Option.bind_some, if_false, if_true, not_false_eq_true, not_true_eq_false, h9, h91, h92, g1, g2, gab.1, gab.2]
        rw [if_neg (by omega)]
      by_cases q1 : gn a b < gn j b
      · refine Or.inr ⟨(nI 0, I, L), run.trans (if_pos q1), ?_⟩
        rw [rsN_false (j := j + 1) (by rw [next]; simp; omega) n (by omega)]
        rfl
      · by_cases q2 : go a j ≤ go a b
        · refine Or.inl ⟨(), ?_, ?_⟩
          · refine run.trans ?_
            rw [if_neg q1, if_pos q2]
          · rw [next]
            simp
            omega
        · refine Or.inr ⟨(nI 0, I, L), ?_, ?_⟩
          · refine run.trans ?_
            rw [if_neg q1, if_neg q2]
          · rw [rsN_false (j := j + 1) (by rw [next]; simp; omega) n (by omega)]
            rfl)
    (fun m _ hp => ⟨(nI (bI (rsN gn go a b n)), I, L), by
      show r_X3_isAtRest_8 (m + 1) (nI a) (nI b) (nI n) (nI (a * 3 + b)) (nI n) I L = _
      rw [r_X3_isAtRest_8, if_pos (by simp (disch := omega) only [n_le, n_lt, n_eq, n_eq0, n_0lt, n_le0, n_lt0, n_0le, n_gvp, n_gx, n_add, n_mul, decide_eq_true_eq, Option.bind_some, if_false, if_true, not_false_eq_true, not_true_eq_false]; omega), hp]
      rfl, rfl⟩) (d := n) (j := 0) (N := 100) (s := ()) (by omega) (by omega) rfl
  obtain ⟨z, e, rfl⟩ := hh
  unfold r_X3_isAtRest
  rw [n_mul, n_add]
  exact e
/-- how many rest, and the first -/
def stN (gn go : Nat → Nat → Nat) (n : Nat) : Nat → Nat × Int32
  | 0 => (0, -9)
  | k + 1 => if rsN gn go (k / n) (k % n) n then ((stN gn go n k).1 + 1, if (stN gn go n k).1 = 0 then nI (10 * (k / n) + k % n) else (stN gn go n k).2) else stN gn go n k
theorem stN_le (gn go : Nat → Nat → Nat) (n : Nat) : ∀ k, (stN gn go n k).1 ≤ k
  | 0 => Nat.le_refl 0
  | k + 1 => by
    have := stN_le gn go n k
    rw [stN]
    split
    · show (stN gn go n k).1 + 1 ≤ k + 1
      omega
    · omega
theorem dm {a b n : Nat} (hb : b < n) : (a * n + b) / n = a ∧ (a * n + b) % n = b := by
  have hn : 0 < n := by omega
  refine ⟨?_, ?_⟩
  · rw [Nat.mul_comm, Nat.mul_add_div hn, Nat.div_eq_of_lt hb, Nat.add_zero]
  · rw [Nat.mul_comm, Nat.mul_add_mod, Nat.mod_eq_of_lt hb]
theorem settle_c {I : gII} {L : gLL} {gn go : Nat → Nat → Nat} {n : Nat} (hn : n ≤ 3) (h : ∀ a b, a < n → b < n → cGain I gn go a b) (h1 : ∀ a b, gn a b ≤ 13) (h2 : ∀ a b, go a b ≤ 13) : ∃ I', r_X3_settle I L (nI n) = some (0, I', L) ∧ I' 50 2 = nI (stN gn go n (n * n)).1 ∧ I' 50 3 = (stN gn go n (n * n)).2 ∧ ∀ c, c ≠ 50 → I' c = I c := by
  have hh := gloopE (fun m j (s : gII) => r_X3_settle_8 m (nI n) (nI j) s L) (fun j s => s 50 2 = nI (stN gn go n (j * n)).1 ∧ s 50 3 = (stN gn go n (j * n)).2 ∧ ∀ c, c ≠ 50 → s c = I c) (fun z => ∃ I', z = (0, I', L) ∧ I' 50 2 = nI (stN gn go n (n * n)).1 ∧ I' 50 3 = (stN gn go n (n * n)).2 ∧ ∀ c, c ≠ 50 → I' c = I c) (n := n)
    (fun m a s ha hp => by
      obtain ⟨m2, s2, e2, p1, p2, p3⟩ := gloop (fun m' b (t : gII) => r_X3_settle_13 (r_X3_settle_8 m) m' (nI n) (nI a) (nI b) t L) (fun b t => t 50 2 = nI (stN gn go n (a * n + b)).1 ∧ t 50 3 = (stN gn go n (a * n + b)).2 ∧ ∀ c, c ≠ 50 → t c = I c) (n := n)
        (fun m' b t hb hp => by
          have hg : ∀ a b, a < n → b < n → cGain t gn go a b := fun a b ha hb => ⟨by rw [hp.2.2 51 (by decide)]; exact (h a b ha hb).1, by rw [hp.2.2 52 (by decide)]; exact (h a b ha hb).2⟩
          have hle := stN_le gn go n (a * n + b)
          have hmul : a * n + b < 100 := by
            have : a * n ≤ 3 * 3 := Nat.mul_le_mul (by omega) hn
            omega
          obtain ⟨d1, d2⟩ := dm (a := a) hb
          have nxt : stN gn go n (a * n + b + 1) = if rsN gn go a b n then ((stN gn go n (a * n + b)).1 + 1, if (stN gn go n (a * n + b)).1 = 0 then nI (10 * a + b) else (stN gn go n (a * n + b)).2) else stN gn go n (a * n + b) := by
            rw [stN, d1, d2]
          show ∃ t', r_X3_settle_13 (r_X3_settle_8 m) (m' + 1) (nI n) (nI a) (nI b) t L = r_X3_settle_13 (r_X3_settle_8 m) m' (nI n) (nI a) (nI (b + 1)) t' L ∧ t' 50 2 = nI (stN gn go n (a * n + b + 1)).1 ∧ t' 50 3 = (stN gn go n (a * n + b + 1)).2 ∧ ∀ c, c ≠ 50 → t' c = I c
          rw [r_X3_settle_13, atRest_c hn hg h1 h2 ha hb, nxt]
          unfold r_X3_settle_34
          simp (disch := omega) only [n_le, n_lt, n_eq, n_eq0, n_0lt, n_le0, n_lt0, n_0le, n_gvp, n_gx, n_add, n_mul, decide_eq_true_eq, Option.bind_some, if_false, if_true, not_false_eq_true, not_true_eq_false]
          rw [if_neg (show ¬ n ≤ b by omega)]
          cases hr : rsN gn go a b n with
          | false =>
            rw [if_pos (show nI (bI false) = 0 from z0)]
            exact ⟨t, rfl, hp.1, hp.2.1, hp.2.2⟩
          | true =>
            have t3 : ∀ x, gu2 t 50 3 x 50 2 = nI (stN gn go n (a * n + b)).1 := fun x => by rw [g2n (by decide), hp.1]
            rw [if_neg (show ¬ nI (bI true) = 0 from z1), hp.1, hp.2.1, t3, t3, n_add]
            simp only [if_true]
            simp (disch := omega) only [n_le, n_lt, n_eq, n_eq0, n_0lt, n_le0, n_lt0, n_0le, n_gvp, n_gx, n_add, n_mul, decide_eq_true_eq, Option.bind_some, if_false, if_true, not_false_eq_true, not_true_eq_false]
            by_cases q : (stN gn go n (a * n + b)).1 = 0
            · rw [if_neg (fun h => h q)]
              refine ⟨_, rfl, by rw [g2a], ?_, fun c hc => by rw [gu2_other hc, gu2_other hc, hp.2.2 c hc]⟩
              rw [g2n (by decide), g2a, if_pos q]
            · rw [if_pos q]
              refine ⟨_, rfl, by rw [g2a], ?_, fun c hc => by rw [gu2_other hc, gu2_other hc, hp.2.2 c hc]⟩
              rw [g2n (by decide), g2a, if_neg q])
        (d := n) (j := 0) (N := 100) (s := s) (by omega) (by omega) hp
      refine Or.inl ⟨s2, ?_, ?_, ?_, p3⟩
      · show r_X3_settle_8 (m + 1) (nI n) (nI a) s L = r_X3_settle_8 m (nI n) (nI (a + 1)) s2 L
        rw [r_X3_settle_8, if_neg (by simp (disch := omega) only [n_le, n_lt, n_eq, n_eq0, n_0lt, n_le0, n_lt0, n_0le, n_gvp, n_gx, n_add, n_mul, decide_eq_true_eq, Option.bind_some, if_false, if_true, not_false_eq_true, not_true_eq_false]; omega)]
        refine e2.trans ?_
        show r_X3_settle_13 (r_X3_settle_8 m) (m2 + 1) (nI n) (nI a) (nI n) s2 L = _
        rw [r_X3_settle_13, if_pos (by simp (disch := omega) only [n_le, n_lt, n_eq, n_eq0, n_0lt, n_le0, n_lt0, n_0le, n_gvp, n_gx, n_add, n_mul, decide_eq_true_eq, Option.bind_some, if_false, if_true, not_false_eq_true, not_true_eq_false]; omega), n_add]
      · rw [p1, Nat.add_mul, Nat.one_mul]
      · rw [p2, Nat.add_mul, Nat.one_mul])
    (fun m s hp => ⟨(0, s, L), by
      show r_X3_settle_8 (m + 1) (nI n) (nI n) s L = _
      rw [r_X3_settle_8, if_pos (by simp (disch := omega) only [n_le, n_lt, n_eq, n_eq0, n_0lt, n_le0, n_lt0, n_0le, n_gvp, n_gx, n_add, n_mul, decide_eq_true_eq, Option.bind_some, if_false, if_true, not_false_eq_true, not_true_eq_false]; omega)], s, rfl, hp⟩) (d := n) (j := 0) (N := 100) (s := gu2 (gu2 I 50 2 (nI 0)) 50 3 (-9)) (by omega) (by omega) ⟨by rw [g2n (by decide), g2a, Nat.zero_mul]; rfl, by rw [g2a, Nat.zero_mul]; rfl, fun c hc => by rw [gu2_other hc, gu2_other hc]⟩
  obtain ⟨z, e, I', rfl, a1, a2, a3⟩ := hh
  exact ⟨I', e, a1, a2, a3⟩
