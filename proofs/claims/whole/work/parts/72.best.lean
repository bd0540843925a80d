/-! BEST ROWS: what both look for -/
def itN {σ : Type} (f : Nat → σ → σ) : Nat → σ → σ
  | 0, s => s
  | n + 1, s => f n (itN f n s)
theorem itN_add {σ : Type} {f : Nat → σ → σ} {a : Nat} {s : σ} : ∀ b, itN f (a + b) s = itN (fun i => f (a + i)) b (itN f a s)
  | 0 => rfl
  | b + 1 => by
    show f (a + b) (itN f (a + b) s) = f (a + b) (itN (fun i => f (a + i)) b (itN f a s))
    rw [itN_add b]
theorem itN_mul {σ : Type} {f : Nat → σ → σ} {E : Nat} {s : σ} : ∀ a, itN f (a * E) s = itN (fun d s => itN (fun j => f (d * E + j)) E s) a s
  | 0 => by rw [Nat.zero_mul]; rfl
  | a + 1 => by
    rw [Nat.add_mul, Nat.one_mul, itN_add, itN_mul a]
    rfl
theorem itN_congr {σ : Type} {f g : Nat → σ → σ} {s : σ} : ∀ n, (∀ i, i < n → ∀ s, f i s = g i s) → itN f n s = itN g n s
  | 0, _ => rfl
  | n + 1, h => by
    show f n (itN f n s) = g n (itN g n s)
    rw [itN_congr n (fun i hi => h i (by omega)), h n (by omega)]
theorem itN_id {σ : Type} {f : Nat → σ → σ} {s : σ} : ∀ n, (∀ i, i < n → f i s = s) → itN f n s = s
  | 0, _ => rfl
  | n + 1, h => by
    show f n (itN f n s) = s
    rw [itN_id n (fun i hi => h i (by omega)), h n (by omega)]
def tk (st : Nat × Int32) (fit row : Nat) : Nat × Int32 := if st.1 ≤ fit then (fit + 1, nI row) else st
def cfS (F : TFen) (v : Nat) : Nat → TMom → Nat → Nat × Int32 → Nat × Int32
  | 0, V, r, st => tk st (fitL F (ms V) v) r
  | n + 1, V, r, st => itN (fun d st => match goS F V (d / fL F) (d % fL F) with
    | none => st
    | some W => cfS F v n W (100 * r + 10 * (d / fL F + 1) + d % fL F + 1) st) (fB F * fL F) st
def eB (F : TFen) : Nat := fB F * fL F
def dgt (F : TFen) (n c : Nat) : Nat := c / eB F ^ n % eB F
def rowR (F : TFen) : Nat → TMom → Nat → Option TMom
  | 0, V, _ => some V
  | n + 1, V, c => match goS F V (dgt F n c / fL F) (dgt F n c % fL F) with
    | none => none
    | some W => rowR F n W c
def tld (F : TFen) : Nat → Nat → Nat → Nat
  | 0, r, _ => r
  | n + 1, r, c => tld F n (100 * r + 10 * (dgt F n c / fL F + 1) + dgt F n c % fL F + 1) c
theorem dgt_mod {F : TFen} {m n b j : Nat} (h : m < n) : dgt F m (b * eB F ^ n + j) = dgt F m j := by
  unfold dgt
  generalize eB F = E
  rcases Nat.eq_zero_or_pos E with q | q
  · subst q
    rw [Nat.zero_pow (by omega), Nat.mul_zero, Nat.zero_add]
  · have p : 0 < E ^ m := Nat.pow_pos q
    have e : E ^ n = E ^ m * (E * E ^ (n - m - 1)) := by
      rw [← Nat.pow_succ', ← Nat.pow_add]
      congr 1
      omega
    rw [e, show b * (E ^ m * (E * E ^ (n - m - 1))) = E ^ m * (E * (b * E ^ (n - m - 1))) by simp only [Nat.mul_comm, Nat.mul_left_comm, Nat.mul_assoc], Nat.mul_add_div p, Nat.mul_add_mod]
theorem rowR_mod {F : TFen} {N b j : Nat} : ∀ n V, n ≤ N → rowR F n V (b * eB F ^ N + j) = rowR F n V j := by
  intro n
  induction n with
  | zero => exact fun V _ => rfl
  | succ n ih =>
    intro V hn
    rw [rowR, rowR, dgt_mod (by omega)]
    cases goS F V (dgt F n j / fL F) (dgt F n j % fL F) with
    | none => rfl
    | some W => exact ih W (by omega)
theorem tld_mod {F : TFen} {N b j : Nat} : ∀ n r, n ≤ N → tld F n r (b * eB F ^ N + j) = tld F n r j := by
  intro n
  induction n with
  | zero => exact fun r _ => rfl
  | succ n ih =>
    intro r hn
    rw [tld, tld, dgt_mod (by omega)]
    exact ih _ (by omega)
theorem cf_rf {F : TFen} {v : Nat} : ∀ n V r st, cfS F v n V r st = itN (fun i st => match rowR F n V i with
    | none => st
    | some W => tk st (fitL F (ms W) v) (tld F n r i)) (eB F ^ n) st := by
  intro n
  induction n with
  | zero =>
    intro V r st
    rfl
  | succ n ih =>
    intro V r st
    rw [Nat.pow_succ, Nat.mul_comm, itN_mul, cfS]
    show itN _ (eB F) st = _
    refine itN_congr _ (fun d hd s => ?_)
    have hE : 0 < eB F := by omega
    have hp : 0 < eB F ^ n := Nat.pow_pos hE
    have dd : ∀ j, j < eB F ^ n → dgt F n (d * eB F ^ n + j) = d := fun j hj => by
      unfold dgt
      rw [(dm hj).1, Nat.mod_eq_of_lt hd]
    cases hg : goS F V (d / fL F) (d % fL F) with
    | none =>
      refine (itN_id _ (fun j hj => ?_)).symm
      rw [rowR, dd j hj, hg]
    | some W =>
      show cfS F v n W (100 * r + 10 * (d / fL F + 1) + d % fL F + 1) s = _
      rw [ih]
      refine itN_congr _ (fun j hj s => ?_)
      rw [rowR, tld, dd j hj, hg]
      show _ = (match rowR F n W (d * eB F ^ n + j) with
        | none => s
        | some W => tk s (fitL F (ms W) v) (tld F n (100 * r + 10 * (d / fL F + 1) + d % fL F + 1) (d * eB F ^ n + j)))
      rw [rowR_mod n W (Nat.le_refl _), tld_mod n _ (Nat.le_refl _)]
/-- the reference keeps the code of the row -/
def bcS (F : TFen) (v n : Nat) (V : TMom) : Nat → Nat × Nat
  | 0 => (0, 0)
  | i + 1 => match rowR F n V i with
    | none => bcS F v n V i
    | some W => if (bcS F v n V i).1 ≤ fitL F (ms W) v then (fitL F (ms W) v + 1, i) else bcS F v n V i
theorem bcS_n {F : TFen} {v n i : Nat} {V : TMom} (h : rowR F n V i = none) : bcS F v n V (i + 1) = bcS F v n V i := by
  rw [bcS, h]
theorem bcS_s {F : TFen} {v n i : Nat} {V W : TMom} (h : rowR F n V i = some W) : bcS F v n V (i + 1) = if (bcS F v n V i).1 ≤ fitL F (ms W) v then (fitL F (ms W) v + 1, i) else bcS F v n V i := by
  rw [bcS, h]
theorem bc_rf {F : TFen} {v n : Nat} {V : TMom} : ∀ N, itN (fun i st => match rowR F n V i with
    | none => st
    | some W => tk st (fitL F (ms W) v) (tld F n 0 i)) N (0, -9) = ((bcS F v n V N).1, if (bcS F v n V N).1 = 0 then -9 else nI (tld F n 0 (bcS F v n V N).2))
  | 0 => rfl
  | N + 1 => by
    have ih := bc_rf (F := F) (v := v) (n := n) (V := V) N
    show (match rowR F n V N with
      | none => itN _ N (0, -9)
      | some W => tk (itN _ N (0, -9)) (fitL F (ms W) v) (tld F n 0 N)) = _
    rw [ih]
    cases hr : rowR F n V N with
    | none => rw [bcS_n hr]
    | some W =>
      rw [bcS_s hr]
      show tk _ _ _ = _
      unfold tk
      by_cases q : (bcS F v n V N).1 ≤ fitL F (ms W) v
      · rw [if_pos q, if_pos q]
        rfl
      · rw [if_neg q, if_neg q]
theorem bcS_le {F : TFen} {v n : Nat} {V : TMom} : ∀ N, (bcS F v n V N).1 ≤ 5 ∧ ((bcS F v n V N).2 < N ∨ (bcS F v n V N).2 = 0)
  | 0 => ⟨Nat.zero_le _, Or.inr rfl⟩
  | N + 1 => by
    have ih := bcS_le (F := F) (v := v) (n := n) (V := V) N
    cases hr : rowR F n V N with
    | none =>
      rw [bcS_n hr]
      exact ⟨ih.1, by omega⟩
    | some W =>
      rw [bcS_s hr]
      have := fitL_le F (ms W) v
      by_cases q : (bcS F v n V N).1 ≤ fitL F (ms W) v
      · rw [if_pos q]
        exact ⟨by show fitL F (ms W) v + 1 ≤ 5; omega, Or.inl (by show N < N + 1; omega)⟩
      · rw [if_neg q]
        exact ⟨ih.1, by omega⟩
/-- how much, as both keep it -/
def mv (q : Nat) : Int32 := if q = 0 then -9 else nI (q - 1)
theorem mv_le : ∀ q, q ≤ 5 → ∀ k, k ≤ 4 → ((nI k ≤ mv q) ↔ k + 1 ≤ q) := by decide +kernel
theorem mv_n9 : ∀ q, q ≤ 5 → (-9 : Int32) ≤ mv q := by decide +kernel
theorem mv_4 : ∀ q, q ≤ 5 → ((mv q = nI 4) ↔ q = 5) := by decide +kernel
theorem mv_9 : ∀ q, q ≤ 5 → ((mv q = -9) ↔ q = 0) := by decide +kernel
theorem e_pow {F : TFen} {n : Nat} (hF : okF F) (hn : n ≤ 3) : eB F ≤ 15 ∧ eB F ^ n ≤ 3375 := by
  have h : eB F ≤ 15 := Nat.mul_le_mul hF.2.2.1 hF.2.1
  refine ⟨h, ?_⟩
  rcases (by omega : n = 0 ∨ n = 1 ∨ n = 2 ∨ n = 3) with rfl | rfl | rfl | rfl
  · exact Nat.le_trans (Nat.pow_le_pow_left h 0) (by decide)
  · exact Nat.le_trans (Nat.pow_le_pow_left h 1) (by decide)
  · exact Nat.le_trans (Nat.pow_le_pow_left h 2) (by decide)
  · exact Nat.le_trans (Nat.pow_le_pow_left h 3) (by decide)
def rBm (I I' : gII) : Prop := (∀ a, a ≠ 57 → a ≠ 63 → a ≠ 69 → I' a = I a) ∧ (∀ j, j ≠ 24 → j ≠ 28 → I' 57 j = I 57 j) ∧ ∀ j, j < 27 → I' 63 j = I 63 j
theorem rB_refl {I : gII} : rBm I I := ⟨fun _ _ _ _ => rfl, fun _ _ _ => rfl, fun _ _ => rfl⟩
theorem rB_trans {I I' I'' : gII} (h : rBm I I') (k : rBm I' I'') : rBm I I'' := ⟨fun a a1 a2 a3 => (k.1 a a1 a2 a3).trans (h.1 a a1 a2 a3), fun j h1 h2 => (k.2.1 j h1 h2).trans (h.2.1 j h1 h2), fun j hj => (k.2.2 j hj).trans (h.2.2 j hj)⟩
theorem rB_put {I : gII} {x : Int32} : rBm I (gu2 I 57 28 x) := ⟨fun a a1 _ _ => gu2_other a1, fun j _ h2 => g2n h2, fun j _ => by rw [gu2_other (by decide)]⟩
theorem rB_T {I I' : gII} (h : rT I I') : rBm I I' := ⟨h.1, fun j h1 _ => h.2.1 j h1, h.2.2⟩
theorem rB_fen {I I' : gII} {F : TFen} (h : rBm I I') (hc : rFen I F) : rFen I' F := rFen_kept (fun j hj => h.2.1 j (by omega) (by omega)) (fun a q1 q2 => h.1 a (by omega) (by omega) (by omega)) hc
theorem rB_same {I I' : gII} {L : gLL} (h : rBm I I') : rSame I I' L L := ⟨fun a q => h.1 a (by omega) (by omega) (by omega), h.2.2, fun j q => h.2.1 j (by omega) (by omega), rfl⟩
theorem rB_mom0 {I I' : gII} {V : TMom} (hl : (ms V).length ≤ 12) (h : rBm I I') (hM : rMom I 63 0 V) : rMom I' 63 0 V := rMom0_same hl h.2.2 hM
theorem driveRow_r {I : gII} {L : gLL} {F : TFen} {V : TMom} {n c : Nat} (hF : okF F) (hc : rFen I F) (hV : okM F V) (hM : rMom I 63 0 V) (hn : n ≤ 3) (hcn : c < eB F ^ n) : ∃ I', r_X8_driveRow I L (nI n) (nI c) = some (nI (oN (rowR F n V c)), I', L) ∧ (∀ W, rowR F n V c = some W → okM F W ∧ rMom I' 63 27 W) ∧ rT I I' := by
  have hB := hF.2.2.1
  have hL := hF.2.1
  obtain ⟨I1, e1, m1, k1, j1⟩ := trial_r (L := L) hV.2.2.2.2.2.2.2 hM
  have t1 := rT_trial k1 j1
  have hcb := (e_pow (n := n) hF hn).2
  have h := gloopE (fun m k (s : gII) => r_X8_driveRow_10 m (nI n) (nI c) (nI (eB F)) (nI k) s L) (fun k s => ∃ W, okM F W ∧ rMom s 63 27 W ∧ rT I s ∧ rowR F (n - k) W c = rowR F n V c) (fun z => ∃ I', z = (nI (oN (rowR F n V c)), I', L) ∧ (∀ W, rowR F n V c = some W → okM F W ∧ rMom I' 63 27 W) ∧ rT I I') (n := n)
    (fun m k s hk hp => by
      obtain ⟨W, okW, mW, tW, eW⟩ := hp
      have hc' := rT_fen tW hc
      have hE : 0 < eB F := by
        rcases Nat.eq_zero_or_pos (eB F) with q | q
        · rw [q, Nat.zero_pow (by omega)] at hcn
          omega
        · exact q
      have hL0 : 0 < fL F := by
        rcases Nat.eq_zero_or_pos (fL F) with q | q
        · unfold eB at hE
          rw [q, Nat.mul_zero] at hE
          omega
        · exact q
      have ep := e_pow (n := n - 1 - k) hF (by omega)
      have pp : 0 < eB F ^ (n - 1 - k) := Nat.pow_pos hE
      have hq : c / eB F ^ (n - 1 - k) ≤ c := Nat.div_le_self _ _
      have hd : dgt F (n - 1 - k) c < eB F := Nat.mod_lt _ hE
      have hd1 : dgt F (n - 1 - k) c / fL F ≤ dgt F (n - 1 - k) c := Nat.div_le_self _ _
      have hd2 : dgt F (n - 1 - k) c % fL F < fL F := Nat.mod_lt _ hL0
      rw [show n - k = (n - 1 - k) + 1 by omega, rowR] at eW
      have run : r_X8_driveRow_10 (m + 1) (nI n) (nI c) (nI (eB F)) (nI k) s L = (r_X8_canDrive s L (nI 1) (nI (dgt F (n - 1 - k) c / fL F)) (nI (dgt F (n - 1 - k) c % fL F))).bind (fun z19 => (if ¬ z19.1 = 0 then (if ¬ (z19.2.1 57 1) = 0 then (if ¬ (z19.2.1 57 1) = 0 then ((r_X8_driveOn z19.2.1 z19.2.2 (nI 1) ((nI (dgt F (n - 1 - k) c)) / (z19.2.1 57 1)) (grem (nI (dgt F (n - 1 - k) c)) (z19.2.1 57 1))).bind (fun z23 => (r_X8_driveRow_10 m (nI n) (nI c) (nI (eB F)) (nI (k + 1)) z23.2.1 z23.2.2))) else none) else none) else some (nI 0, z19.2.1, z19.2.2))) := by
        rw [r_X8_driveRow_10, if_neg (by simp (disch := omega) only [n_le, n_lt, n_eq, n_eq0, n_0lt, n_le0, n_lt0, n_0le, n_gvp, n_gx, n_add, n_mul, decide_eq_true_eq, Option.bind_some, if_false, if_true, not_false_eq_true, not_true_eq_false]; omega), n_sub (by omega), n_sub (by omega), power_r (by omega)]
        simp only [Option.bind_some]
        rw [hc'.2.1, if_pos (show ¬ nI (eB F ^ (n - 1 - k)) = 0 by rw [n_eq0 (by omega)]; omega), if_pos (show ¬ nI (eB F) = 0 by rw [n_eq0 (by omega)]; omega), if_pos (show ¬ nI (fL F) = 0 by rw [n_eq0 (by omega)]; omega), if_pos (show ¬ nI (fL F) = 0 by rw [n_eq0 (by omega)]; omega), n_div (by omega) pp (by omega), n_rem (by omega) hE (by omega)]
        show (r_X8_canDrive s L (nI 1) (nI (dgt F (n - 1 - k) c) / nI (fL F)) (grem (nI (dgt F (n - 1 - k) c)) (nI (fL F)))).bind _ = _
        rw [n_div (by omega) hL0 (by omega), n_rem (by omega) hL0 (by omega), n_add]
        rfl
      rw [canDrive_any hF hc' okW mW (by omega) (by omega)] at run
      simp only [Option.bind_some] at run
      cases hg : goS F W (dgt F (n - 1 - k) c / fL F) (dgt F (n - 1 - k) c % fL F) with
      | none =>
        rw [hg] at run eW
        have eW : none = rowR F n V c := eW
        refine Or.inr ⟨(nI 0, s, L), run.trans (if_neg zn0), s, ?_, fun W' h => ?_, tW⟩
        · rw [← eW]
          rfl
        · rw [← eW] at h
          cases h
      | some W' =>
        rw [hg] at run eW
        obtain ⟨I2, e2, m2, t2⟩ := driveOn_1 (L := L) hF hc' okW mW hg
        refine Or.inl ⟨I2, ?_, W', goS_ok okW hg, m2, rT_trans tW t2, ?_⟩
        · refine run.trans ((if_pos z1).trans ?_)
          rw [hc'.2.1, if_pos (show ¬ nI (fL F) = 0 by rw [n_eq0 (by omega)]; omega), if_pos (show ¬ nI (fL F) = 0 by rw [n_eq0 (by omega)]; omega), n_div (by omega) hL0 (by omega), n_rem (by omega) hL0 (by omega), e2, Option.bind_some]
        · rw [show n - (k + 1) = n - 1 - k by omega]
          exact eW)
    (fun m s hp => by
      obtain ⟨W, okW, mW, tW, eW⟩ := hp
      rw [Nat.sub_self] at eW
      have eW : some W = rowR F n V c := eW
      refine ⟨(nI 1, s, L), ?_, s, ?_, fun W' h => ?_, tW⟩
      · show r_X8_driveRow_10 (m + 1) (nI n) (nI c) (nI (eB F)) (nI n) s L = _
        rw [r_X8_driveRow_10, if_pos (by simp (disch := omega) only [n_le, n_lt, n_eq, n_eq0, n_0lt, n_le0, n_lt0, n_0le, n_gvp, n_gx, n_add, n_mul, decide_eq_true_eq, Option.bind_some, if_false, if_true, not_false_eq_true, not_true_eq_false]; omega)]
      · rw [← eW]
        rfl
      · rw [← eW] at h
        cases h
        exact ⟨okW, mW⟩) (d := n) (j := 0) (N := 100) (s := I1) (by omega) (by omega) ⟨V, hV, m1, t1, rfl⟩
  obtain ⟨z, e, I', rfl, h1, h2⟩ := h
  refine ⟨I', ?_, h1, h2⟩
  unfold r_X8_driveRow
  rw [e1, Option.bind_some, hc.2.2.1, hc.2.1, n_mul]
  exact e
theorem told_r {I : gII} {L : gLL} {F : TFen} {n c : Nat} (hF : okF F) (hc : rFen I F) (hn : n ≤ 3) (hcn : c < eB F ^ n) : r_X8_told I L (nI n) (nI c) = some (nI (tld F n 0 c), I, L) := by
  have hB := hF.2.2.1
  have hL := hF.2.1
  have hcb := (e_pow (n := n) hF hn).2
  have h := gloopE (fun m k (s : Nat) => r_X8_told_10 m (nI n) (nI c) (nI (eB F)) (nI s) (nI k) I L) (fun k s => tld F (n - k) s c = tld F n 0 c) (fun z => z = (nI (tld F n 0 c), I, L)) (n := n)
    (fun m k s hk hp => by
      have hE : 0 < eB F := by
        rcases Nat.eq_zero_or_pos (eB F) with q | q
        · rw [q, Nat.zero_pow (by omega)] at hcn
          omega
        · exact q
      have hL0 : 0 < fL F := by
        rcases Nat.eq_zero_or_pos (fL F) with q | q
        · unfold eB at hE
          rw [q, Nat.mul_zero] at hE
          omega
        · exact q
      have ep := e_pow (n := n - 1 - k) hF (by omega)
      have pp : 0 < eB F ^ (n - 1 - k) := Nat.pow_pos hE
      have hq : c / eB F ^ (n - 1 - k) ≤ c := Nat.div_le_self _ _
      have hd : dgt F (n - 1 - k) c < eB F := Nat.mod_lt _ hE
      rw [show n - k = (n - 1 - k) + 1 by omega, tld] at hp
      refine Or.inl ⟨100 * s + 10 * (dgt F (n - 1 - k) c / fL F + 1) + dgt F (n - 1 - k) c % fL F + 1, ?_, ?_⟩
      · show r_X8_told_10 (m + 1) (nI n) (nI c) (nI (eB F)) (nI s) (nI k) I L = r_X8_told_10 m (nI n) (nI c) (nI (eB F)) (nI (100 * s + 10 * (dgt F (n - 1 - k) c / fL F + 1) + dgt F (n - 1 - k) c % fL F + 1)) (nI (k + 1)) I L
        rw [r_X8_told_10, if_neg (by simp (disch := omega) only [n_le, n_lt, n_eq, n_eq0, n_0lt, n_le0, n_lt0, n_0le, n_gvp, n_gx, n_add, n_mul, decide_eq_true_eq, Option.bind_some, if_false, if_true, not_false_eq_true, not_true_eq_false]; omega), n_sub (by omega), n_sub (by omega), power_r (by omega)]
        simp only [Option.bind_some]
        rw [hc.2.1, if_pos (show ¬ nI (eB F ^ (n - 1 - k)) = 0 by rw [n_eq0 (by omega)]; omega), if_pos (show ¬ nI (eB F) = 0 by rw [n_eq0 (by omega)]; omega), if_pos (show ¬ nI (fL F) = 0 by rw [n_eq0 (by omega)]; omega), if_pos (show ¬ nI (fL F) = 0 by rw [n_eq0 (by omega)]; omega), n_div (by omega) pp (by omega), n_rem (by omega) hE (by omega)]
        show r_X8_told_10 m (nI n) (nI c) (nI (eB F)) (nI 100 * nI s + nI 10 * (nI (dgt F (n - 1 - k) c) / nI (fL F) + nI 1) + grem (nI (dgt F (n - 1 - k) c)) (nI (fL F)) + nI 1) (nI k + nI 1) I L = _
        rw [n_div (by omega) hL0 (by omega), n_rem (by omega) hL0 (by omega)]
        simp only [n_add, n_mul]
      · rw [show n - (k + 1) = n - 1 - k by omega]
        exact hp)
    (fun m s hp => by
      rw [Nat.sub_self] at hp
      have hp : s = tld F n 0 c := hp
      refine ⟨_, ?_, rfl⟩
      show r_X8_told_10 (m + 1) (nI n) (nI c) (nI (eB F)) (nI s) (nI n) I L = _
      rw [r_X8_told_10, if_pos (by simp (disch := omega) only [n_le, n_lt, n_eq, n_eq0, n_0lt, n_le0, n_lt0, n_0le, n_gvp, n_gx, n_add, n_mul, decide_eq_true_eq, Option.bind_some, if_false, if_true, not_false_eq_true, not_true_eq_false]; omega), hp]) (d := n) (j := 0) (N := 100) (s := 0) (by omega) (by omega) rfl
  obtain ⟨z, e, rfl⟩ := h
  unfold r_X8_told
  rw [hc.2.2.1, hc.2.1, n_mul]
  exact e
theorem bestFit_r {I : gII} {L : gLL} {F : TFen} {V : TMom} {n v : Nat} (hF : okF F) (hc : rFen I F) (hV : okM F V) (hM : rMom I 63 0 V) (hn : n ≤ 3) (hv : v < fV F) : ∃ I', r_X8_bestFit I L (nI v) (nI n) = some (mv (bcS F v n V (eB F ^ n)).1, I', L) ∧ I' 57 28 = nI (bcS F v n V (eB F ^ n)).2 ∧ rBm I I' := by
  have hml := hV.2.2.2.2.2.2.2
  have hcb := e_pow (n := n) hF hn
  have h := gloopE (fun m i (s : Int32 × gII) => r_X8_bestFit_7 m (nI v) (nI n) s.1 (nI i) s.2 L) (fun i s => s.1 = mv (bcS F v n V i).1 ∧ s.2 57 28 = nI (bcS F v n V i).2 ∧ rBm I s.2) (fun z => ∃ I', z = (mv (bcS F v n V (eB F ^ n)).1, I', L) ∧ I' 57 28 = nI (bcS F v n V (eB F ^ n)).2 ∧ rBm I I') (n := eB F ^ n)
    (fun m i s hi hp => by
      have hc' := rB_fen hp.2.2 hc
      have hM' := rB_mom0 hml hp.2.2 hM
      obtain ⟨I1, e1, m1, t1⟩ := driveRow_r (L := L) hF hc' hV hM' hn hi
      have tt := rB_trans hp.2.2 (rB_T t1)
      have bl := bcS_le (F := F) (v := v) (n := n) (V := V) i
      have p28 : I1 57 28 = nI (bcS F v n V i).2 := by rw [t1.2.1 28 (by decide)]; exact hp.2.1
      have run : r_X8_bestFit_7 (m + 1) (nI v) (nI n) s.1 (nI i) s.2 L = if nI (oN (rowR F n V i)) = 0 then r_X8_bestFit_27 (r_X8_bestFit_7 m) (nI v) (nI n) s.1 (nI i) (-9) I1 L else ((r_X8_fitOn I1 L (nI 1) (nI v)).bind (fun z21 => (r_X8_bestFit_27 (r_X8_bestFit_7 m) (nI v) (nI n) s.1 (nI i) z21.1 z21.2.1 z21.2.2))) := by
        rw [r_X8_bestFit_7, hc'.2.2.1, hc'.2.1, n_mul, show fB F * fL F = eB F from rfl, power_r (by omega)]
        simp only [Option.bind_some]
        rw [if_neg (by simp (disch := omega) only [n_le, n_lt, n_eq, n_eq0, n_0lt, n_le0, n_lt0, n_0le, n_gvp, n_gx, n_add, n_mul, decide_eq_true_eq, Option.bind_some, if_false, if_true, not_false_eq_true, not_true_eq_false]; omega), e1]
        simp only [Option.bind_some]
      cases hr : rowR F n V i with
      | none =>
        rw [hr] at run
        have nx : bcS F v n V (i + 1) = bcS F v n V i := bcS_n hr
        refine Or.inl ⟨(mv (bcS F v n V i).1, gu2 I1 57 28 (nI (bcS F v n V i).2)), ?_, by rw [nx], by rw [nx]; show gu2 I1 57 28 _ 57 28 = _; exact g2a, rB_trans tt rB_put⟩
        refine run.trans ((if_pos z0).trans ?_)
        unfold r_X8_bestFit_27
        rw [hp.1, if_pos (mv_n9 _ bl.1), if_pos (mv_n9 _ bl.1), p28, n_add]
      | some W =>
        rw [hr] at run
        have nx : bcS F v n V (i + 1) = if (bcS F v n V i).1 ≤ fitL F (ms W) v then (fitL F (ms W) v + 1, i) else bcS F v n V i := bcS_s hr
        obtain ⟨okW, mW⟩ := m1 W hr
        have f4 := fitL_le F (ms W) v
        have hrun : r_X8_bestFit_7 (m + 1) (nI v) (nI n) s.1 (nI i) s.2 L = r_X8_bestFit_27 (r_X8_bestFit_7 m) (nI v) (nI n) (mv (bcS F v n V i).1) (nI i) (nI (fitL F (ms W) v)) I1 L := by
          refine run.trans ((if_neg z1).trans ?_)
          rw [fitOn_r (lv := 1) (by omega) hF (rB_fen tt hc) okW mW hv, Option.bind_some, hp.1]
        by_cases q : (bcS F v n V i).1 ≤ fitL F (ms W) v
        · rw [if_pos q] at nx
          have qm : ¬ nI (fitL F (ms W) v) ≤ mv (bcS F v n V i).1 := fun h => by
            have := (mv_le _ bl.1 _ f4).mp h
            omega
          refine Or.inl ⟨(nI (fitL F (ms W) v), gu2 I1 57 28 (nI i)), ?_, ?_, by rw [nx]; show gu2 I1 57 28 _ 57 28 = _; exact g2a, rB_trans tt rB_put⟩
          · refine hrun.trans ?_
            unfold r_X8_bestFit_27
            rw [if_neg qm, if_neg qm, n_add]
          · rw [nx]
            show nI (fitL F (ms W) v) = mv (fitL F (ms W) v + 1)
            unfold mv
            rw [if_neg (by omega)]
            rfl
        · rw [if_neg q] at nx
          have qm : nI (fitL F (ms W) v) ≤ mv (bcS F v n V i).1 := (mv_le _ bl.1 _ f4).mpr (by omega)
          refine Or.inl ⟨(mv (bcS F v n V i).1, gu2 I1 57 28 (nI (bcS F v n V i).2)), ?_, by rw [nx], by rw [nx]; show gu2 I1 57 28 _ 57 28 = _; exact g2a, rB_trans tt rB_put⟩
          refine hrun.trans ?_
          unfold r_X8_bestFit_27
          rw [if_pos qm, if_pos qm, p28, n_add])
    (fun m s hp => by
      have hc' := rB_fen hp.2.2 hc
      refine ⟨_, ?_, s.2, rfl, hp.2.1, hp.2.2⟩
      show r_X8_bestFit_7 (m + 1) (nI v) (nI n) s.1 (nI (eB F ^ n)) s.2 L = _
      rw [r_X8_bestFit_7, hc'.2.2.1, hc'.2.1, n_mul, show fB F * fL F = eB F from rfl, power_r (by omega)]
      simp only [Option.bind_some]
      rw [if_pos (by simp (disch := omega) only [n_le, n_lt, n_eq, n_eq0, n_0lt, n_le0, n_lt0, n_0le, n_gvp, n_gx, n_add, n_mul, decide_eq_true_eq, Option.bind_some, if_false, if_true, not_false_eq_true, not_true_eq_false]; omega), hp.1]) (d := eB F ^ n) (j := 0) (N := 4000) (s := (-9, gu2 I 57 28 (nI 0))) (by omega) (by omega) ⟨rfl, (g2a : gu2 I 57 28 (nI 0) 57 28 = nI 0), rB_put⟩
  obtain ⟨z, e, I', rfl, h1, h2⟩ := h
  exact ⟨I', e, h1, h2⟩
