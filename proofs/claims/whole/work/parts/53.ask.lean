/-! GATES AND BEASTS, ASKED -/
/-- whether a GATE is in a LANE -/
def hasG (F : TFen) (l g : Nat) : Bool := decide (fl F (3 * l) = g) || decide (fl F (3 * l + 1) = g) || decide (fl F (3 * l + 2) = g)
def lanesN (F : TFen) (g : Nat) : Nat → Nat
  | 0 => 0
  | l + 1 => lanesN F g l ||| (if hasG F l g then 2 ^ l else 0)
def lanesR (F : TFen) (g : Nat) : Nat → Nat
  | 0 => 0
  | k + 1 => lanesR F g k ||| (if fl F k = g then 2 ^ (k / 3) else 0)
theorem lanesN_lt (F : TFen) (g : Nat) : ∀ n, lanesN F g n < 2 ^ n
  | 0 => Nat.one_pos
  | n + 1 => by
    have h := lanesN_lt F g n
    have h2 : (2 : Nat) ^ n < 2 ^ (n + 1) := Nat.pow_lt_pow_right (by decide) (by omega)
    show lanesN F g n ||| (if hasG F n g then 2 ^ n else 0) < 2 ^ (n + 1)
    refine Nat.or_lt_two_pow (by omega) ?_
    split
    · exact h2
    · exact Nat.pow_pos (by decide)
theorem or3 (a x : Nat) (p q r : Bool) : ((a ||| (if p then x else 0)) ||| (if q then x else 0)) ||| (if r then x else 0) = a ||| (if (p || q || r) then x else 0) := by
  cases p <;> cases q <;> cases r <;> simp [Nat.or_assoc]
theorem lanesR_N (F : TFen) (g : Nat) : ∀ n, lanesR F g (3 * n) = lanesN F g n
  | 0 => rfl
  | n + 1 => by
    have ih := lanesR_N F g n
    show lanesR F g (3 * n + 3) = lanesN F g n ||| (if hasG F n g then 2 ^ n else 0)
    show ((lanesR F g (3 * n) ||| (if fl F (3 * n) = g then 2 ^ (3 * n / 3) else 0)) ||| (if fl F (3 * n + 1) = g then 2 ^ ((3 * n + 1) / 3) else 0)) ||| (if fl F (3 * n + 2) = g then 2 ^ ((3 * n + 2) / 3) else 0) = _
    rw [ih, show 3 * n / 3 = n by omega, show (3 * n + 1) / 3 = n by omega, show (3 * n + 2) / 3 = n by omega]
    have := or3 (lanesN F g n) (2 ^ n) (decide (fl F (3 * n) = g)) (decide (fl F (3 * n + 1) = g)) (decide (fl F (3 * n + 2) = g))
    simp only [decide_eq_true_eq] at this
    rw [this]
    rfl
def gatesN (F : TFen) (l : Nat) : Nat := 2 ^ fl F (3 * l) ||| 2 ^ fl F (3 * l + 1) ||| 2 ^ fl F (3 * l + 2)
theorem or5 : ∀ a, a < 5 → ∀ b, b < 5 → ∀ c, c < 5 → 2 ^ a ||| 2 ^ b ||| 2 ^ c < 32 ∧ ∀ g, g < 5 → (2 ^ a ||| 2 ^ b ||| 2 ^ c) / 2 ^ g % 2 = if (decide (a = g) || decide (b = g) || decide (c = g)) = true then 1 else 0 := by decide +kernel
theorem gatesN_lt {F : TFen} {l : Nat} (hF : okF F) (hl : l < fL F) : gatesN F l < 32 ∧ ∀ g, g < 5 → gatesN F l / 2 ^ g % 2 = if hasG F l g then 1 else 0 := by
  have hG := hF.1
  have a := hF.2.2.2.2.2.1 (3 * l) (by omega)
  have b := hF.2.2.2.2.2.1 (3 * l + 1) (by omega)
  have c := hF.2.2.2.2.2.1 (3 * l + 2) (by omega)
  exact or5 _ (by omega) _ (by omega) _ (by omega)
theorem gatesOf_c {I : gII} {L : gLL} {F : TFen} {f l : Nat} (hF : okF F) (hc : cFen I f F) (hl : l < fL F) : r_X1_gatesOf I L f (nI l) = some (nI (gatesN F l), I, L) := by
  have hG := hF.1
  have hL := hF.2.1
  have a := hF.2.2.2.2.2.1 (3 * l) (by omega)
  have b := hF.2.2.2.2.2.1 (3 * l + 1) (by omega)
  have c := hF.2.2.2.2.2.1 (3 * l + 2) (by omega)
  have ea := hc.2.2.2.2.2.1 (3 * l) (by omega)
  have eb := hc.2.2.2.2.2.1 (3 * l + 1) (by omega)
  have ec := hc.2.2.2.2.2.1 (3 * l + 2) (by omega)
  have pa : 2 ^ fl F (3 * l) ≤ 32 := pow_le5 (by omega)
  have pb : 2 ^ fl F (3 * l + 1) ≤ 32 := pow_le5 (by omega)
  have pc : 2 ^ fl F (3 * l + 2) ≤ 32 := pow_le5 (by omega)
  unfold r_X1_gatesOf
  rw [show (100 : Nat) = 96 + 1 + 1 + 1 + 1 from rfl, r_X1_gatesOf_4]
  simp (disch := omega) only [n_le, n_lt, n_eq, n_eq0, n_0lt, n_le0, n_lt0, n_0le, n_gvp, n_gx, n_add, n_mul, decide_eq_true_eq, Option.bind_some, if_false, if_true, not_false_eq_true, not_true_eq_false, show l * 3 + 0 = 3 * l from by omega, ea, n_shl, n_or, Nat.one_mul, Nat.zero_or]
  rw [if_neg (by omega), if_pos (by omega), r_X1_gatesOf_4]
  simp (disch := omega) only [n_le, n_lt, n_eq, n_eq0, n_0lt, n_le0, n_lt0, n_0le, n_gvp, n_gx, n_add, n_mul, decide_eq_true_eq, Option.bind_some, if_false, if_true, not_false_eq_true, not_true_eq_false, show l * 3 + (0 + 1) = 3 * l + 1 from by omega, eb, n_shl, n_or, Nat.one_mul]
  rw [if_neg (by omega), if_pos (by omega), r_X1_gatesOf_4]
  simp (disch := omega) only [n_le, n_lt, n_eq, n_eq0, n_0lt, n_le0, n_lt0, n_0le, n_gvp, n_gx, n_add, n_mul, decide_eq_true_eq, Option.bind_some, if_false, if_true, not_false_eq_true, not_true_eq_false, show l * 3 + (0 + 1 + 1) = 3 * l + 2 from by omega, ec, n_shl, n_or, Nat.one_mul]
  rw [if_neg (by omega), if_pos (by omega), r_X1_gatesOf_4]
  simp (disch := omega) only [n_le, n_lt, n_eq, n_eq0, n_0lt, n_le0, n_lt0, n_0le, n_gvp, n_gx, n_add, n_mul, decide_eq_true_eq, Option.bind_some, if_false, if_true, not_false_eq_true, not_true_eq_false]
  rw [if_pos (by omega)]
  rfl
theorem lanesWith_c {I : gII} {L : gLL} {F : TFen} {f g : Nat} (hF : okF F) (hc : cFen I f F) (hg : g < 5) : r_X1_lanesWith I L f (nI g) = some (nI (lanesN F g (fL F)), I, L) := by
  have hL := hF.2.1
  have h := gloopE (fun m j (s : Int32) => r_X1_lanesWith_4 f m (nI g) s (nI j) I L) (fun j s => s = nI (lanesN F g j)) (fun z => z = (nI (lanesN F g (fL F)), I, L)) (n := fL F)
    (fun m j s hj hp => Or.inl ⟨nI (lanesN F g (j + 1)), by
      show r_X1_lanesWith_4 f (m + 1) (nI g) s (nI j) I L = r_X1_lanesWith_4 f m (nI g) (nI (lanesN F g (j + 1))) (nI (j + 1)) I L
      obtain ⟨g1, g2⟩ := gatesN_lt hF hj
      have p2 : 2 ^ j ≤ 32 := pow_le5 (by omega)
      rw [hp, r_X1_lanesWith_4, hc.2.1, gatesOf_c hF hc hj]
      simp (disch := omega) only [n_le, n_lt, n_eq, n_eq0, n_0lt, n_le0, n_lt0, n_0le, n_gvp, n_gx, n_add, n_mul, decide_eq_true_eq, Option.bind_some, if_false, if_true, not_false_eq_true, not_true_eq_false, bit_n, g2 g hg]
      rw [if_neg (by omega)]
      have e : gshl (nI (if hasG F j g = true then 1 else 0)) (nI j) = nI (if hasG F j g = true then 2 ^ j else 0) := by
        split
        · rw [n_shl (by omega) (by omega), Nat.one_mul]
        · rw [n_shl (by omega) (by omega), Nat.zero_mul]
      rw [e, n_or]
      rfl, rfl⟩)
    (fun m s hp => ⟨(nI (lanesN F g (fL F)), I, L), by
      show r_X1_lanesWith_4 f (m + 1) (nI g) s (nI (fL F)) I L = _
      rw [hp, r_X1_lanesWith_4, hc.2.1, if_pos (by simp (disch := omega) only [n_le, n_lt, n_eq, n_eq0, n_0lt, n_le0, n_lt0, n_0le, n_gvp, n_gx, n_add, n_mul, decide_eq_true_eq, Option.bind_some, if_false, if_true, not_false_eq_true, not_true_eq_false]; omega)], rfl⟩) (d := fL F) (j := 0) (N := 100) (s := nI 0) (by omega) (by omega) rfl
  obtain ⟨z, e, rfl⟩ := h
  exact e
theorem lanesOf_r {I : gII} {L : gLL} {F : TFen} {g : Nat} (hF : okF F) (hc : rFen I F) (hg : g < 5) : r_X8_lanesOf I L (nI g) = some (nI (lanesN F g (fL F)), I, L) := by
  have hL := hF.2.1
  have hG := hF.1
  have h := gloopE (fun m j (s : Int32) => r_X8_lanesOf_4 m (nI g) s (nI j) I L) (fun j s => s = nI (lanesR F g j)) (fun z => z = (nI (lanesR F g (3 * fL F)), I, L)) (n := 3 * fL F)
    (fun m j s hj hp => Or.inl ⟨nI (lanesR F g (j + 1)), by
      show r_X8_lanesOf_4 (m + 1) (nI g) s (nI j) I L = r_X8_lanesOf_4 m (nI g) (nI (lanesR F g (j + 1))) (nI (j + 1)) I L
      have ej := hc.2.2.2.2.2.1 j hj
      have lj := hF.2.2.2.2.2.1 j hj
      have p2 : 2 ^ (j / 3) ≤ 32 := pow_le5 (by omega)
      rw [hp, r_X8_lanesOf_4, hc.2.1]
      unfold r_X8_lanesOf_24
      simp (disch := omega) only [n_le, n_lt, n_eq, n_eq0, n_0lt, n_le0, n_lt0, n_0le, n_gvp, n_gx, n_add, n_mul, decide_eq_true_eq, Option.bind_some, if_false, if_true, not_false_eq_true, not_true_eq_false, ej, n_div]
      rw [if_neg (by omega), if_pos (by omega)]
      show _ = r_X8_lanesOf_4 m (nI g) (nI (lanesR F g j ||| (if fl F j = g then 2 ^ (j / 3) else 0))) (nI (j + 1)) I L
      by_cases q : fl F j = g
      · rw [if_neg (by simpa using q), if_pos q, n_shl (by omega) (by omega), Nat.one_mul, n_or]
      · rw [if_pos q, if_neg q, n_or], rfl⟩)
    (fun m s hp => ⟨(nI (lanesR F g (3 * fL F)), I, L), by
      show r_X8_lanesOf_4 (m + 1) (nI g) s (nI (3 * fL F)) I L = _
      rw [hp, r_X8_lanesOf_4, hc.2.1, n_mul, if_pos (by simp (disch := omega) only [n_le, n_lt, n_eq, n_eq0, n_0lt, n_le0, n_lt0, n_0le, n_gvp, n_gx, n_add, n_mul, decide_eq_true_eq, Option.bind_some, if_false, if_true, not_false_eq_true, not_true_eq_false]; omega)], rfl⟩) (d := 3 * fL F) (j := 0) (N := 100) (s := nI 0) (by omega) (by omega) rfl
  obtain ⟨z, e, rfl⟩ := h
  rw [lanesR_N] at e
  exact e
theorem ag_gate (x y : Int32) : mAg (fun f g I L => r_X7_gate f g I L x y) (fun I L => r_X8_gate I L x y) := by
  refine mAg_ask (fun f g I L z hw e a q => w_X7_gate id e) (fun S hS => ?_)
  have hF := hS.2.1
  have hV := hS.2.2.1
  have hG := hF.1
  have h32 := okM_h32 hF hV
  rcases inb_cases x (n := fG (sF S)) (by omega) with e | ⟨k, hk, rfl, e⟩
  · refine ⟨-1, fun f g I L hw hc => ⟨I, L, ?_⟩, fun I L hr => ⟨I, L, ?_, rSame_refl⟩⟩
    · show r_X7_gate f g I L x y = _
      unfold r_X7_gate
      rw [isGate_c hc.2.1, e, if_neg (by simp [z0])]
    · show r_X8_gate I L x y = _
      unfold r_X8_gate
      rw [isGate_m hF hr.2.1, Option.bind_some, e, if_neg (by simp [z0])]
  · refine ⟨if y = nI 0 then nI (mn (sV S) k) else if y = nI 1 then nI (fk (sF S) k) else if y = nI 2 then nI (mp (sV S) k) else if y = nI 3 then nI (mo (sV S) / 2 ^ k % 2) else if y = nI 4 then nI (mi (sV S) / 2 ^ k % 2) else if y = nI 5 then nI (lanesN (sF S) k (fL (sF S))) else -2, fun f g I L hw hc => ⟨I, L, ?_⟩, fun I L hr => ⟨I, L, ?_, rSame_refl⟩⟩
    · show r_X7_gate f g I L (nI k) y = _
      obtain ⟨c1, c2, c3, -⟩ := hc
      have e1 := c3.2.2.1
      have e2 := c3.2.2.2.1
      unfold r_X7_gate
      rw [isGate_c c2, e, if_pos z1, noteOf_c c3 hV (by omega), passedOf_c c3 hV (by omega), e1, e2, bit_n (by omega) (by omega), bit_n (by omega) (by omega), lanesWith_c hF c2 (by omega)]
      have h5 : k < 5 := by omega
      simp (disch := omega) only [n_le, n_lt, n_eq, n_eq0, n_0lt, n_le0, n_lt0, n_0le, n_gvp, n_gx, n_add, n_mul, decide_eq_true_eq, Option.bind_some, if_false, if_true, not_false_eq_true, not_true_eq_false, c2.2.2.2.2.1 k hk, h5]
      repeat' split
      all_goals rfl
    · show r_X8_gate I L (nI k) y = _
      obtain ⟨r1, r2, r3, -⟩ := hr
      obtain ⟨q0, q5, q10, q11, -⟩ := r3
      have q0 := q0 k (by omega)
      have q5 := q5 k (by omega)
      rw [Nat.zero_add] at q0 q5 q10 q11
      unfold r_X8_gate
      rw [isGate_m hF r2, Option.bind_some, e, if_pos z1, lanesOf_r hF r2 (by omega)]
      have h5 : k < 5 := by omega
      have h54 : k < 54 := by omega
      have h55 : 5 + k < 54 := by omega
      simp (disch := omega) only [n_le, n_lt, n_eq, n_eq0, n_0lt, n_le0, n_lt0, n_0le, n_gvp, n_gx, n_add, n_mul, decide_eq_true_eq, Option.bind_some, if_false, if_true, not_false_eq_true, not_true_eq_false, q0, q5, q10, q11, bit_n, r2.2.2.2.2.1 k hk, h5, h54, h55]
      repeat' split
      all_goals rfl
theorem ag_beast (x y : Int32) : mAg (fun f g I L => r_X7_beast f g I L x y) (fun I L => r_X8_beast I L x y) := by
  refine mAg_ask (fun f g I L z hw e a q => w_X7_beast id e) (fun S hS => ?_)
  have hF := hS.2.1
  have hV := hS.2.2.1
  have hB := hF.2.2.1
  have h32 := okM_h32 hF hV
  rcases inb_cases x (n := fB (sF S)) (by omega) with e | ⟨k, hk, rfl, e⟩
  · refine ⟨-1, fun f g I L hw hc => ⟨I, L, ?_⟩, fun I L hr => ⟨I, L, ?_, rSame_refl⟩⟩
    · show r_X7_beast f g I L x y = _
      unfold r_X7_beast
      rw [isBeast_c hc.2.1, e, if_neg (by simp [z0])]
    · show r_X8_beast I L x y = _
      unfold r_X8_beast
      rw [isBeast_m hF hr.2.1, Option.bind_some, e, if_neg (by simp [z0])]
  · refine ⟨if y = nI 0 then nI (fw (sF S) k) else if y = nI 1 then nI (fb (sF S) k) else if y = nI 2 then nI (mh (sV S) / 2 ^ k % 2) else -2, fun f g I L hw hc => ⟨I, L, ?_⟩, fun I L hr => ⟨I, L, ?_, rSame_refl⟩⟩
    · show r_X7_beast f g I L (nI k) y = _
      obtain ⟨c1, c2, c3, -⟩ := hc
      have e1 := c3.2.2.2.2.1
      unfold r_X7_beast
      rw [isBeast_c c2, e, if_pos z1, e1, bit_n (by omega) (by omega)]
      have h5 : k < 5 := by omega
      simp (disch := omega) only [n_le, n_lt, n_eq, n_eq0, n_0lt, n_le0, n_lt0, n_0le, n_gvp, n_gx, n_add, n_mul, decide_eq_true_eq, Option.bind_some, if_false, if_true, not_false_eq_true, not_true_eq_false, c2.2.2.2.2.2.2.1 k hk, c2.2.2.2.2.2.2.2.1 k hk, h5]
      repeat' split
      all_goals rfl
    · show r_X8_beast I L (nI k) y = _
      obtain ⟨r1, r2, r3, -⟩ := hr
      have q12 := r3.2.2.2.2.1
      rw [Nat.zero_add] at q12
      unfold r_X8_beast r_X8_beast_34
      rw [isBeast_m hF r2, Option.bind_some, e, if_pos z1, ← z0]
      have h5 : k < 5 := by omega
      simp (disch := omega) only [n_le, n_lt, n_eq, n_eq0, n_0lt, n_le0, n_lt0, n_0le, n_gvp, n_gx, n_add, n_mul, decide_eq_true_eq, Option.bind_some, if_false, if_true, not_false_eq_true, not_true_eq_false, q12, bit_n, r2.2.2.2.2.2.2.1 k hk, r2.2.2.2.2.2.2.2.1 k hk, h5]
      by_cases h0 : y = nI 0
      · rw [if_neg (by simpa using h0), if_pos h0]
      · rw [if_pos h0, if_neg h0]
        by_cases h1 : y = nI 1
        · rw [if_neg (by simpa using h1), if_pos h1]
        · rw [if_pos h1, if_neg h1]
          by_cases h2 : y = nI 2
          · rw [if_neg (by simpa using h2), if_pos h2]
          · rw [if_pos h2, if_neg h2]
theorem ag_tone (x y : Int32) : mAg (fun f g I L => r_X7_tone f g I L x y) (fun I L => r_X8_tone I L x y) := by
  refine mAg_ask (fun f g I L z hw e a q => w_X7_tone id e) (fun S hS => ?_)
  have hF := hS.2.1
  have hV := hS.2.2.1
  have hB := hF.2.2.1
  have hG := hF.1
  rcases inb_cases x (n := fG (sF S)) (by omega) with e | ⟨k, hk, rfl, e⟩
  · refine ⟨-1, fun f g I L hw hc => ⟨I, L, ?_⟩, fun I L hr => ⟨I, L, ?_, rSame_refl⟩⟩
    · show r_X7_tone f g I L x y = _
      unfold r_X7_tone r_X7_tone_10
      rw [isGate_c hc.2.1, e, if_pos z0]
    · show r_X8_tone I L x y = _
      unfold r_X8_tone r_X8_tone_22
      rw [isGate_m hF hr.2.1, Option.bind_some, e, if_pos z0]
  · rcases inb_cases y (n := fB (sF S)) (by omega) with e2 | ⟨b, hb, rfl, e2⟩
    · refine ⟨-1, fun f g I L hw hc => ⟨I, L, ?_⟩, fun I L hr => ⟨I, L, ?_, rSame_refl⟩⟩
      · show r_X7_tone f g I L (nI k) y = _
        unfold r_X7_tone r_X7_tone_10
        rw [isGate_c hc.2.1, isBeast_c hc.2.1, e, e2, if_neg z1, if_neg (by simp [z0])]
      · show r_X8_tone I L (nI k) y = _
        unfold r_X8_tone r_X8_tone_22
        rw [isGate_m hF hr.2.1, Option.bind_some, e, if_neg z1, isBeast_m hF hr.2.1, Option.bind_some, e2, if_pos z0]
    · have hw9 := hF.2.2.2.2.2.2.1 b hb
      have hk4 := hF.2.2.2.2.2.2.2.1 b hb
      refine ⟨nI (tone (sF S) (sV S) k (fw (sF S) b) (fb (sF S) b)), fun f g I L hw hc => ⟨I, L, ?_⟩, fun I L hr => ⟨I, L, ?_, rSame_refl⟩⟩
      · show r_X7_tone f g I L (nI k) (nI b) = _
        obtain ⟨c1, c2, c3, -⟩ := hc
        unfold r_X7_tone
        rw [isGate_c c2, isBeast_c c2, e, e2, if_neg z1, if_pos z1]
        simp (disch := omega) only [n_le, n_lt, n_eq, n_eq0, n_0lt, n_le0, n_lt0, n_0le, n_gvp, n_gx, n_add, n_mul, decide_eq_true_eq, Option.bind_some, if_false, if_true, not_false_eq_true, not_true_eq_false, c2.2.2.2.2.2.2.1 b hb, c2.2.2.2.2.2.2.2.1 b hb]
        rw [if_pos (by omega), if_pos (by omega), tone_c hF c2 hV c3 hk hw9.2 hk4]
        rfl
      · show r_X8_tone I L (nI k) (nI b) = _
        obtain ⟨r1, r2, r3, -⟩ := hr
        unfold r_X8_tone r_X8_tone_22
        rw [isGate_m hF r2, Option.bind_some, e, if_neg z1, isBeast_m hF r2, Option.bind_some, e2, if_neg z1]
        simp (disch := omega) only [n_le, n_lt, n_eq, n_eq0, n_0lt, n_le0, n_lt0, n_0le, n_gvp, n_gx, n_add, n_mul, decide_eq_true_eq, Option.bind_some, if_false, if_true, not_false_eq_true, not_true_eq_false, r2.2.2.2.2.2.2.1 b hb, r2.2.2.2.2.2.2.2.1 b hb]
        rw [if_pos (by omega), if_pos (by omega), tone_r (lv := 0) hF r2 hV (by simpa using r3) (by omega) hk hw9.2 hk4]
        rfl
theorem ag_song (x y w : Int32) : mAg (fun f g I L => r_X7_song f g I L x y w) (fun I L => r_X8_song I L x y w) := by
  refine mAg_ask (fun f g I L z hw e a q => by
    have := cHold_lt hw q
    exact w_X7_song (by omega) e) (fun S hS => ?_)
  have hF := hS.2.1
  have hV := hS.2.2.1
  have hB := hF.2.2.1
  have hL := hF.2.1
  rcases inb_cases x (n := fB (sF S)) (by omega) with e | ⟨b, hb, rfl, e⟩
  · refine ⟨-1, fun f g I L hw hc => ⟨I, L, ?_⟩, fun I L hr => ⟨I, L, ?_, rSame_refl⟩⟩
    · show r_X7_song f g I L x y w = _
      unfold r_X7_song r_X7_song_10
      rw [isBeast_c hc.2.1, e, if_pos z0]
    · show r_X8_song I L x y w = _
      unfold r_X8_song r_X8_song_8
      rw [isBeast_m hF hr.2.1, Option.bind_some, e, if_pos z0]
  rcases inb_cases y (n := fL (sF S)) (by omega) with e2 | ⟨l, hl, rfl, e2⟩
  · refine ⟨-1, fun f g I L hw hc => ⟨I, L, ?_⟩, fun I L hr => ⟨I, L, ?_, rSame_refl⟩⟩
    · show r_X7_song f g I L (nI b) y w = _
      unfold r_X7_song r_X7_song_10
      rw [isBeast_c hc.2.1, isLane_c hc.2.1, e, e2, if_neg z1, if_neg (by simp [z0])]
    · show r_X8_song I L (nI b) y w = _
      unfold r_X8_song r_X8_song_8
      rw [isBeast_m hF hr.2.1, Option.bind_some, e, if_neg z1, isLane_m hF hr.2.1, Option.bind_some, e2, if_neg (by simp [z0])]
  rcases irg_cases w (lo := 0) (hi := 12) (by omega) (by omega) with ⟨h, e3⟩ | ⟨h1, h2, h3, e3⟩ | ⟨k, -, hk, rfl, e3⟩
  · have h : w < 0 := h
    refine ⟨-2, fun f g I L hw hc => ⟨I, L, ?_⟩, fun I L hr => ⟨I, L, ?_, rSame_refl⟩⟩
    · show r_X7_song f g I L (nI b) (nI l) w = _
      unfold r_X7_song r_X7_song_17
      rw [isBeast_c hc.2.1, isLane_c hc.2.1, e, e2, if_neg z1, if_pos z1, if_pos h]
    · show r_X8_song I L (nI b) (nI l) w = _
      unfold r_X8_song
      rw [isBeast_m hF hr.2.1, Option.bind_some, e, if_neg z1, isLane_m hF hr.2.1, Option.bind_some, e2, if_pos z1, in_c (by omega) (by omega), e3, if_neg (by simp [z0])]
  · have h1 : ¬ w < 0 := h1
    refine ⟨-2, fun f g I L hw hc => ⟨I, L, ?_⟩, fun I L hr => ⟨I, L, ?_, rSame_refl⟩⟩
    · show r_X7_song f g I L (nI b) (nI l) w = _
      unfold r_X7_song r_X7_song_17
      rw [isBeast_c hc.2.1, isLane_c hc.2.1, e, e2, if_neg z1, if_pos z1, if_neg h1, if_neg h3]
    · show r_X8_song I L (nI b) (nI l) w = _
      unfold r_X8_song
      rw [isBeast_m hF hr.2.1, Option.bind_some, e, if_neg z1, isLane_m hF hr.2.1, Option.bind_some, e2, if_pos z1, in_c (by omega) (by omega), e3, if_neg (by simp [z0])]
  · have hlen := song_len (sF S) (sV S) b l
    refine ⟨if k = 12 then nI (song (sF S) (sV S) b l).length else lAt (song (sF S) (sV S) b l) k, fun f g I L hw hc => ?_, fun I L hr => ?_⟩
    · show ∃ I' L', r_X7_song f g I L (nI b) (nI l) (nI k) = _
      obtain ⟨c1, c2, c3, -⟩ := hc
      obtain ⟨I1, e1, s1, k1⟩ := sing_c (s := 53) hw.f rfl rfl hF c2 hV c3 hb hl
      refine ⟨I1, L, ?_⟩
      unfold r_X7_song r_X7_song_47 lAt
      rw [isBeast_c c2, isLane_c c2, e, e2, if_neg z1, if_pos z1, e1]
      simp (disch := omega) only [n_le, n_lt, n_eq, n_eq0, n_0lt, n_le0, n_lt0, n_0le, n_gvp, n_gx, n_add, n_mul, decide_eq_true_eq, Option.bind_some, if_false, if_true, not_false_eq_true, not_true_eq_false, s1.1]
      rw [if_pos hk]
      by_cases q : k = 12
      · rw [if_neg (by simpa using q), if_pos q]
      · rw [if_pos q, if_neg q]
        by_cases q2 : k < (song (sF S) (sV S) b l).length
        · rw [if_neg (by omega), if_pos (by omega), if_pos q2, s1.2 k q2]
        · rw [if_pos (by omega), if_neg q2]
    · show ∃ I' L', r_X8_song I L (nI b) (nI l) (nI k) = _ ∧ _
      obtain ⟨r1, r2, r3, -⟩ := hr
      obtain ⟨I1, e1, s1, k1, j1⟩ := lay_r (L := L) (lv := 0) (row := 0) hF r2 hV (by simpa using r3) (by omega) (by omega) hb hl
      refine ⟨I1, L, ?_, rSame_lay k1 j1⟩
      unfold r_X8_song r_X8_song_39 lAt
      rw [isBeast_m hF r2, Option.bind_some, e, if_neg z1, isLane_m hF r2, Option.bind_some, e2, if_pos z1, in_c (by omega) (by omega), e3, if_pos z1, e1]
      simp (disch := omega) only [n_le, n_lt, n_eq, n_eq0, n_0lt, n_le0, n_lt0, n_0le, n_gvp, n_gx, n_add, n_mul, decide_eq_true_eq, Option.bind_some, if_false, if_true, not_false_eq_true, not_true_eq_false]
      by_cases q : k = 12
      · rw [if_neg (by simpa using q), if_pos q]
      · rw [if_pos q, if_neg q]
        by_cases q2 : k < (song (sF S) (sV S) b l).length
        · have := s1.2 k q2
          rw [Nat.mul_zero, Nat.zero_add] at this
          rw [if_neg (by omega), if_pos (by omega), if_pos q2, this]
        · rw [if_pos (by omega), if_neg q2]
