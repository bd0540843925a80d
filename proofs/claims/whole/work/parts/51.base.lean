/-! LOOPS, RANGES, small rows -/
theorem gloopE {σ ρ : Type} (R : Nat → Nat → σ → Option ρ) (P : Nat → σ → Prop) (Q : ρ → Prop) {n : Nat}
    (hs : ∀ m j s, j < n → P j s → (∃ s', R (m + 1) j s = R m (j + 1) s' ∧ P (j + 1) s') ∨ ∃ z, R (m + 1) j s = some z ∧ Q z)
    (he : ∀ m s, P n s → ∃ z, R (m + 1) n s = some z ∧ Q z) : ∀ {d j N : Nat} {s : σ}, j + d = n → d < N → P j s → ∃ z, R N j s = some z ∧ Q z := by
  intro d
  induction d with
  | zero =>
    intro j N s hj hN hp
    have hj : j = n := hj
    subst hj
    obtain ⟨m, rfl⟩ : ∃ m, N = m + 1 := ⟨N - 1, by omega⟩
    exact he m s hp
  | succ d ih =>
    intro j N s hj hN hp
    obtain ⟨m, rfl⟩ : ∃ m, N = m + 1 := ⟨N - 1, by omega⟩
    rcases hs m j s (by omega) hp with ⟨s', e, hp'⟩ | h
    · rw [e]
      exact ih (by omega) (by omega) hp'
    · exact h
theorem g2a {α : Type} {f : Nat → Nat → α} {a j : Nat} {v : α} : gu2 f a j v a j = v := by rw [gu2_self, if_pos rfl]
theorem g2n {α : Type} {f : Nat → Nat → α} {a j j' : Nat} {v : α} (h : j' ≠ j) : gu2 f a j v a j' = f a j' := by rw [gu2_self, if_neg h]
def inb (x : Int32) (n : Nat) : Int32 := if x < 0 then nI 0 else if nI n ≤ x then nI 0 else nI 1
theorem inb_cases (x : Int32) {n : Nat} (hn : n ≤ 100) : inb x n = nI 0 ∨ ∃ k, k < n ∧ x = nI k ∧ inb x n = nI 1 := by
  unfold inb
  rcases ix_cases x (n := n) (by omega) with h | h | ⟨k, hk, e, -⟩
  · rw [if_pos h.1]
    exact Or.inl rfl
  · rw [if_neg h.1, if_pos h.2.1]
    exact Or.inl rfl
  · subst e
    refine Or.inr ⟨k, hk, rfl, ?_⟩
    simp (disch := omega) only [n_lt0, n_le, if_false]
    rw [if_neg (by omega)]
theorem isGate_c {I : gII} {L : gLL} {F : TFen} {f : Nat} {x : Int32} (hc : cFen I f F) : f_X1_isGate I L f x = inb x (fG F) := by
  unfold f_X1_isGate inb
  rw [hc.1]
theorem isLane_c {I : gII} {L : gLL} {F : TFen} {f : Nat} {x : Int32} (hc : cFen I f F) : f_X1_isLane I L f x = inb x (fL F) := by
  unfold f_X1_isLane inb
  rw [hc.2.1]
theorem isBeast_c {I : gII} {L : gLL} {F : TFen} {f : Nat} {x : Int32} (hc : cFen I f F) : f_X1_isBeast I L f x = inb x (fB F) := by
  unfold f_X1_isBeast inb
  rw [hc.2.2.1]
theorem isVerse_c {I : gII} {L : gLL} {F : TFen} {f : Nat} {x : Int32} (hc : cFen I f F) : f_X1_isVerse I L f x = inb x (fV F) := by
  unfold f_X1_isVerse inb
  rw [hc.2.2.2.1]
theorem isGate_m {I : gII} {L : gLL} {F : TFen} {x : Int32} (hF : okF F) (hc : rFen I F) : r_X8_isGate I L x = some (inb x (fG F), I, L) := by
  have := hF.1
  unfold r_X8_isGate
  rw [hc.1, in_32 (by omega), if_pos in_01]
  rfl
theorem isLane_m {I : gII} {L : gLL} {F : TFen} {x : Int32} (hF : okF F) (hc : rFen I F) : r_X8_isLane I L x = some (inb x (fL F), I, L) := isLane_r hF hc
theorem isBeast_m {I : gII} {L : gLL} {F : TFen} {x : Int32} (hF : okF F) (hc : rFen I F) : r_X8_isBeast I L x = some (inb x (fB F), I, L) := isBeast_r hF hc
theorem isVerse_m {I : gII} {L : gLL} {F : TFen} {x : Int32} (hF : okF F) (hc : rFen I F) : r_X8_isVerse I L x = some (inb x (fV F), I, L) := by
  have := hF.2.2.2.1
  unfold r_X8_isVerse
  rw [hc.2.2.2.1, in_32 (by omega), if_pos in_01]
  rfl
def irg (x : Int32) (lo hi : Nat) : Int32 := if x < nI lo then nI 0 else if nI hi < x then nI 0 else nI 1
theorem lN_ti {a : Nat} (ha : a < 2147483648) : (lN a).toInt = (a : Int) := lN_toInt ha
theorem in_c {I : gII} {L : gLL} {x : Int32} {lo hi : Nat} (hl : lo < 2147483648) (hh : hi < 2147483648) : f_X8_in I L (Int32.toInt64 x) (lN lo) (lN hi) = irg x lo hi := by
  unfold f_X8_in irg
  have e1 : (Int32.toInt64 x).toInt = x.toInt := Int32.toInt_toInt64 x
  simp only [lg_cmp_lt, lg_cmp_gt]
  simp only [Int64.lt_iff_toInt_lt, Int32.lt_iff_toInt_lt, e1, lN_ti hl, lN_ti hh, n_ti hl, n_ti hh]
theorem irg_cases (x : Int32) {lo hi : Nat} (hl : lo ≤ hi) (hh : hi < 2147483647) : (x < nI lo ∧ irg x lo hi = nI 0) ∨ (¬ x < nI lo ∧ nI hi < x ∧ ¬ x ≤ nI hi ∧ irg x lo hi = nI 0) ∨ ∃ k, lo ≤ k ∧ k ≤ hi ∧ x = nI k ∧ irg x lo hi = nI 1 := by
  unfold irg
  have e1 := n_ti (a := lo) (by omega)
  have e2 := n_ti (a := hi) (by omega)
  by_cases h1 : x < nI lo
  · exact Or.inl ⟨h1, by rw [if_pos h1]⟩
  · refine Or.inr ?_
    rw [if_neg h1]
    by_cases h2 : nI hi < x
    · refine Or.inl ⟨h1, h2, ?_, by rw [if_pos h2]⟩
      rw [Int32.le_iff_toInt_le]
      rw [Int32.lt_iff_toInt_lt] at h2
      omega
    · refine Or.inr ?_
      rw [if_neg h2]
      rw [Int32.lt_iff_toInt_lt, e1] at h1
      rw [Int32.lt_iff_toInt_lt, e2] at h2
      refine ⟨x.toInt.toNat, by omega, by omega, ?_, rfl⟩
      apply Int32.toInt_inj.mp
      rw [n_ti (by omega)]
      omega
theorem z1 : ¬ (nI 1 : Int32) = 0 := by decide
theorem z0 : (nI 0 : Int32) = 0 := by decide
/-- set bits -/
def popn : Nat → Nat → Nat
  | 0, _ => 0
  | n + 1, a => popn n a + a / 2 ^ n % 2
theorem popn_le : ∀ n a, popn n a ≤ n
  | 0, _ => Nat.le_refl 0
  | n + 1, a => by
    have := popn_le n a
    show popn n a + a / 2 ^ n % 2 ≤ n + 1
    omega
theorem ones_r {I : gII} {L : gLL} {a : Nat} (ha : a < 2147483648) : r_X8_ones I L (nI a) = some (nI (popn 13 a), I, L) := by
  have h := gloopE (fun m j (s : Int32) => r_X8_ones_4 m (nI a) s (nI j) I L) (fun j s => s = nI (popn j a)) (fun z => z = (nI (popn 13 a), I, L)) (n := 13)
    (fun m j s hj hp => Or.inl ⟨nI (popn (j + 1) a), by
      show r_X8_ones_4 (m + 1) (nI a) s (nI j) I L = r_X8_ones_4 m (nI a) (nI (popn (j + 1) a)) (nI (j + 1)) I L
      rw [hp, r_X8_ones_4, bit_n ha (by omega), n_add, n_add]
      simp (disch := omega) only [n_le]
      rw [if_neg (by omega)]
      rfl, rfl⟩)
    (fun m s hp => ⟨(nI (popn 13 a), I, L), by
      show r_X8_ones_4 (m + 1) (nI a) s (nI 13) I L = _
      rw [hp, r_X8_ones_4]
      simp (disch := omega) only [n_le]
      rw [if_pos (by omega)], rfl⟩) (d := 13) (j := 0) (N := 100) (s := nI 0) rfl (by omega) rfl
  obtain ⟨z, e, rfl⟩ := h
  exact e
theorem bc_all : ∀ a, a < 32 → f_J6_bitCount_0f7a4 (fun _ _ => 0) (fun _ _ => 0) (nI a) = nI (popn 13 a) := by decide +kernel
theorem homeCount_c {I : gII} {L : gLL} {m a : Nat} (h : I m 4 = nI a) (ha : a < 32) : f_X4_homeCount I L m = nI (popn 13 a) := by
  unfold f_X4_homeCount
  rw [h]
  exact bc_all a ha
theorem isHome_c {I : gII} {L : gLL} {m a b : Nat} (h : I m 4 = nI a) (ha : a < 2147483648) (hb : b < 32) : f_X4_isHome I L m (nI b) = nI (a / 2 ^ b % 2) := by
  unfold f_X4_isHome
  rw [h, bit_n ha hb]
  simp (disch := omega) only [n_eq0]
  rcases (by omega : a / 2 ^ b % 2 = 0 ∨ a / 2 ^ b % 2 = 1) with q | q <;> simp [q]
theorem okM_h32 {F : TFen} {V : TMom} (hF : okF F) (hV : okM F V) : mh V < 32 ∧ mo V < 32 ∧ mi V < 32 := by
  have h1 := pow_le5 hF.1
  have h2 := pow_le5 hF.2.2.1
  have := hV.2.2.1
  have := hV.2.2.2.1
  have := hV.2.2.2.2.1
  omega
theorem fromLast_c {I : gII} {L : gLL} {F : TFen} {V : TMom} {m k : Nat} (hV : okM F V) (hM : cMom I L m V) (hk : k < 2147483648) : f_X4_fromLast I L m (nI k) = if k < (ms V).length then nI ((ms V).getD k 0) else -9 := by
  obtain ⟨m0, m1, m2, m3, m4, m5, m7, S, mS, hS1, hS2⟩ := hM
  have hl := hV.2.2.2.2.2.2.2
  unfold f_X4_fromLast
  rw [m7, mS]
  simp (disch := omega) only [n_le]
  by_cases h : k < (ms V).length
  · rw [if_neg (by omega), if_pos h]
    unfold glushr
    rw [n_mul, wb_shr (by omega) (by omega), lN_i, n_and, show (15 : Nat) = 2 ^ 4 - 1 from rfl, Nat.and_two_pow_sub_one_eq_mod, ← hS2 k h, show 2 ^ (4 * k) = 16 ^ k by rw [Nat.pow_mul]]
  · rw [if_pos (by omega), if_neg h]
/-- what is SUNG back from the last one -/
def lAt (zs : List Nat) (b : Nat) : Int32 := if b < zs.length then nI (zs.getD b 0) else -9
theorem sungOn_r {I : gII} {L : gLL} {F : TFen} {V : TMom} {lv k : Nat} (hlv : lv < 2) (hV : okM F V) (hM : rMom I 63 (27 * lv) V) (hk : k < 2147483648) : r_X8_sungOn I L (nI lv) (nI k) = some (lAt (ms V) k, I, L) := by
  have hl := hV.2.2.2.2.2.2.2
  have r14 := hM.2.2.2.2.2.2.1
  have rs := hM.2.2.2.2.2.2.2
  unfold r_X8_sungOn r_X8_sungOn_31 lAt
  simp (disch := omega) only [n_le, n_lt, n_eq, n_eq0, n_0lt, n_le0, n_lt0, n_0le, n_gvp, n_gx, n_add, n_mul, decide_eq_true_eq, Option.bind_some, if_false, if_true, not_false_eq_true, not_true_eq_false, r14]
  rw [if_pos (by omega)]
  by_cases h : k < (ms V).length
  · have e : nI (27 * lv + 15 + (ms V).length) - nI 1 - nI k = nI (27 * lv + 15 + ((ms V).length - 1 - k)) := by
      rw [n_sub (by omega), n_sub (by omega)]
      congr 1
      omega
    rw [if_neg (by omega), if_pos (by omega), if_pos h, e, n_gvp (by omega), n_gx (by omega), rs _ (by omega), show (ms V).length - 1 - ((ms V).length - 1 - k) = k by omega]
    rw [if_pos (by simp; omega)]
  · rw [if_pos (by omega), if_neg h]
/-! PIECES of the state that are kept -/
theorem cTxt_kept {I I' : gII} {xs : List Nat} (h2 : I' 2 1 = I 2 1) (h3 : I' 3 = I 3) (h : cTxt I xs) : cTxt I' xs := ⟨h2.trans h.1, fun j hj => by rw [h3]; exact h.2 j hj⟩
theorem cKept_kept {I I' : gII} {L L' : gLL} {K : Nat → Option TMom} (h : ∀ a, 37 ≤ a → a ≤ 39 → I' a = I a ∧ L' a = L a) (hc : cKept I L K) : cKept I' L' K := fun s hs => ⟨by rw [(h 39 (by omega) (by omega)).1]; exact (hc s hs).1, fun W hW => cMom_kept (h _ (by omega) (by omega)).1 (h _ (by omega) (by omega)).2 ((hc s hs).2 W hW)⟩
theorem cHear_kept {I I' : gII} {H : List (Nat × Nat × Nat)} (h : ∀ a, 40 ≤ a → a ≤ 43 → I' a = I a) (hc : cHear I H) : cHear I' H := ⟨by rw [h 40 (by omega) (by omega)]; exact hc.1, fun j q hq => by rw [h 41 (by omega) (by omega), h 42 (by omega) (by omega), h 43 (by omega) (by omega)]; exact hc.2 j q hq⟩
theorem rTxt_kept {I I' : gII} {xs : List Nat} (h2 : I' 57 20 = I 57 20) (h3 : I' 68 = I 68) (h : rTxt I xs) : rTxt I' xs := ⟨h2.trans h.1, fun j hj => by rw [h3]; exact h.2 j hj⟩
theorem rKept_kept {I I' : gII} {K : Nat → Option TMom} (h74 : I' 74 = I 74) (h75 : I' 75 = I 75) (hc : rKept I K) : rKept I' K := fun s hs => ⟨by rw [h74]; exact (hc s hs).1, fun W hW => rMom_kept h75 ((hc s hs).2 W hW)⟩
theorem rHear_kept {I I' : gII} {H : List (Nat × Nat × Nat)} (h57 : I' 57 29 = I 57 29) (h : ∀ a, 71 ≤ a → a ≤ 73 → I' a = I a) (hc : rHear I H) : rHear I' H := ⟨h57.trans hc.1, fun j q hq => by rw [h 71 (by omega) (by omega), h 72 (by omega) (by omega), h 73 (by omega) (by omega)]; exact hc.2 j q hq⟩
theorem rActs_kept {I I' : gII} {As : List TMom} (h25 : I' 57 25 = I 57 25) (h26 : I' 57 26 = I 57 26) (h70 : I' 70 = I 70) (hc : rActs I As) : rActs I' As := by
  obtain ⟨hl, a25, q, hq, a26, hA⟩ := hc
  exact ⟨hl, h25.trans a25, q, hq, h26.trans a26, fun j V hV => rMom_kept h70 (hA j V hV)⟩
def setVA (S : TSt) (V : TMom) (As : List TMom) : TSt := (sT S, sF S, V, As, sK S, sH S, sD S)
theorem cSt_act {f : Nat} {I I' : gII} {L L' : gLL} {S : TSt} {V : TMom} {As : List TMom} (h : ∀ a, (a = 2 ∨ a = 3 ∨ (f ≤ a ∧ a ≤ f + 6) ∨ (37 ≤ a ∧ a ≤ 43)) → I' a = I a ∧ L' a = L a) (hc : cSt f I L S) (hV : cMom I' L' 18 V) (hA : cActs I' L' As) : cSt f I' L' (setVA S V As) := by
  obtain ⟨c1, c2, c3, c4, c5, c6, c7⟩ := hc
  have h2 := h 2 (by omega)
  exact ⟨cTxt_kept (by rw [h2.1]) (h 3 (by omega)).1 c1, cFen_kept (fun a q1 q2 => (h a (by omega)).1) c2, hV, hA, cKept_kept (fun a q1 q2 => h a (by omega)) c5, cHear_kept (fun a q1 q2 => (h a (by omega)).1) c6, by rw [h2.2]; exact c7⟩
theorem rSt_act {I I' : gII} {L L' : gLL} {S : TSt} {V : TMom} {As : List TMom} (h : ∀ a, ((58 ≤ a ∧ a ≤ 62) ∨ a = 68 ∨ (71 ≤ a ∧ a ≤ 75)) → I' a = I a) (h57 : ∀ j, (j ≤ 3 ∨ j = 20 ∨ j = 29) → I' 57 j = I 57 j) (hL : L' 57 33 = L 57 33) (hr : rSt I L S) (hV : rMom I' 63 0 V) (hA : rActs I' As) : rSt I' L' (setVA S V As) := by
  obtain ⟨r1, r2, r3, r4, r5, r6, r7⟩ := hr
  exact ⟨rTxt_kept (h57 20 (by omega)) (h 68 (by omega)) r1, rFen_kept (fun j hj => h57 j (by omega)) (fun a q1 q2 => h a (by omega)) r2, hV, hA, rKept_kept (h 74 (by omega)) (h 75 (by omega)) r5, rHear_kept (h57 29 (by omega)) (fun a q1 q2 => h a (by omega)) r6, by rw [hL]; exact r7⟩
theorem okSt_act {S : TSt} {V : TMom} {As : List TMom} (hS : okSt S) (hV : okM (sF S) V) (hA : ∀ W ∈ As, okM (sF S) W) : okSt (setVA S V As) := ⟨hS.1, hS.2.1, hV, hA, hS.2.2.2.2⟩
theorem okSt_push {S : TSt} {V : TMom} (hS : okSt S) (hV : okM (sF S) V) : okSt (setVA S V ((sV S :: sA S).take 14)) := okSt_act hS hV (fun W hW => by
  rcases List.mem_cons.mp (List.mem_of_mem_take hW) with rfl | q
  · exact hS.2.2.1
  · exact hS.2.2.2.1 W q)
theorem wcl {f g a : Nat} (hw : gfw f g) (h : a = 2 ∨ a = 3 ∨ (f ≤ a ∧ a ≤ f + 6) ∨ (37 ≤ a ∧ a ≤ 43)) : ¬ (a = 18 ∨ a = 20 ∨ a = 53 ∨ a = 54 ∨ (22 ≤ a ∧ a ≤ 35)) := by
  rcases hw with ⟨rfl, rfl⟩ | ⟨rfl, rfl⟩ <;> omega
