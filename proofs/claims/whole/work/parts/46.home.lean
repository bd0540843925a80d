/-! a BEAST is SENT HOME by a lane (the class) -/
def singS (V : TMom) (xs : List Nat) : TMom := xs.foldl addS V
def passL (F : TFen) (V : TMom) (l : Nat) : TMom := passS (passS (passS V (fl F (3 * l + 0))) (fl F (3 * l + 1))) (fl F (3 * l + 2))
def homeS (V : TMom) (b : Nat) : TMom := (mn V, mp V, (mo V, mi V, mh V ||| 2 ^ b, mf V), ms V)
def driveS (F : TFen) (V : TMom) (b l : Nat) : TMom := homeS (passL F (singS V (song F V b l)) l) b
theorem singS_ok {F : TFen} : ∀ {xs : List Nat} {V : TMom}, okM F V → (∀ t ∈ xs, t ≤ 12) → okM F (singS V xs) := by
  intro xs
  induction xs with
  | nil => exact fun h _ => h
  | cons t ys ih => exact fun h q => ih (addS_ok h (q t (List.mem_cons_self ..))) (fun u hu => q u (List.mem_cons_of_mem _ hu))
theorem passL_ok {F : TFen} {V : TMom} {l : Nat} (h : okM F V) : okM F (passL F V l) := passS_ok (passS_ok (passS_ok h))
theorem homeS_ok {F : TFen} {V : TMom} {b : Nat} (hb : b < fB F) (h : okM F V) : okM F (homeS V b) :=
  ⟨h.1, h.2.1, h.2.2.1, h.2.2.2.1, Nat.or_lt_two_pow h.2.2.2.2.1 (Nat.pow_lt_pow_right (by decide) hb), h.2.2.2.2.2.1, h.2.2.2.2.2.2.1, h.2.2.2.2.2.2.2⟩
theorem driveS_ok {F : TFen} {V : TMom} {b l : Nat} (hb : b < fB F) (h : okM F V) : okM F (driveS F V b l) := homeS_ok hb (passL_ok (singS_ok h (song_le F V b l)))
theorem home8 {F : TFen} {f m s k : Nat} {v2 v3 : Int32} (hs : m ≠ s) (hs1 : m ≠ s + 1) : ∀ {ys : List Nat} {j : Nat} {I : gII} {L : gLL} {V : TMom}, okM F V → cMom I L m V → (∀ t ∈ ys, t ≤ 12) → j + ys.length ≤ 12 → I s 1 = nI (j + ys.length) → (∀ i, i < ys.length → I (s + 1) (j + i) = nI (ys.getD i 0)) →
    ∃ I' L', r_X1_sendHome_8 f m s (ys.length + 1 + k) v2 v3 (nI j) I L = r_X1_sendHome_22 f m s 100 v2 v3 (nI 0) I' L' ∧ cMom I' L' m (singS V ys) ∧ ∀ a, a ≠ m → I' a = I a ∧ L' a = L a := by
  intro ys
  induction ys with
  | nil =>
    intro j I L V hV hM _ hj e1 _
    refine ⟨I, L, ?_, hM, fun a _ => ⟨rfl, rfl⟩⟩
    have hj : j ≤ 12 := hj
    have e1 : I s 1 = nI j := e1
    rw [show ([] : List Nat).length + 1 + k = k + 1 by simp; omega, r_X1_sendHome_8, e1]
    simp (disch := omega) only [n_le]
    rw [if_pos (Nat.le_refl _)]
  | cons t ys ih =>
    intro j I L V hV hM ht hj e1 e2
    have hj' : j + (ys.length + 1) ≤ 12 := hj
    have e1' : I s 1 = nI (j + (ys.length + 1)) := e1
    have e20 : I (s + 1) j = nI t := e2 0 (by simp)
    have t12 := ht t (List.mem_cons_self ..)
    have c1 := addSung_c hV hM t12
    have ks : i_X4_addSung I L m (nI t) s = I s := wi_X4_addSung (fun e => hs e.symm)
    have ks1 : i_X4_addSung I L m (nI t) (s + 1) = I (s + 1) := wi_X4_addSung (fun e => hs1 e.symm)
    obtain ⟨I', L', r, c, kk⟩ := ih (j := j + 1) (I := i_X4_addSung I L m (nI t)) (L := l_X4_addSung I L m (nI t)) (V := addS V t) (addS_ok hV t12) c1 (fun u hu => ht u (List.mem_cons_of_mem _ hu)) (by omega) (by rw [ks, e1']; congr 1; omega) (fun i hi => by
      rw [ks1, show j + 1 + i = j + (i + 1) by omega, e2 (i + 1) (by simpa using hi)]
      rfl)
    refine ⟨I', L', ?_, c, fun a ha => ⟨(kk a ha).1.trans (wi_X4_addSung ha), (kk a ha).2.trans (wl_X4_addSung ha)⟩⟩
    rw [show (t :: ys).length + 1 + k = (ys.length + 1 + k) + 1 by simp; omega, r_X1_sendHome_8, e1']
    simp (disch := omega) only [n_le, n_gvp, n_gx, n_add, decide_eq_true_eq]
    rw [if_neg (by omega), if_pos (by omega), e20]
    exact r
theorem home22 {F : TFen} {f m s i k : Nat} {v2 : Int32} {l : Nat} {I : gII} {L : gLL} {V : TMom} (hfm : m ≠ f + 3) (hF : okF F) (hl : l < fL F) (hi : i < 3) (e3 : ∀ j, j < 3 * fL F → I (f + 3) j = nI (fl F j)) (hV : okM F V) (hM : cMom I L m V) :
    ∃ I', r_X1_sendHome_22 f m s (k + 1) v2 (nI l) (nI i) I L = r_X1_sendHome_22 f m s k v2 (nI l) (nI (i + 1)) I' L ∧ cMom I' L m (passS V (fl F (3 * l + i))) ∧ ∀ a, a ≠ m → I' a = I a := by
  have hL := hF.2.1
  have hlt := hF.2.2.2.2.2.1 (3 * l + i) (by omega)
  have hG := hF.1
  refine ⟨i_X4_pass I L m (nI (fl F (3 * l + i))), ?_, pass_c hV hM (by omega), fun a ha => wi_X4_pass ha⟩
  rw [r_X1_sendHome_22]
  simp (disch := omega) only [n_le, n_mul, n_gvp, n_gx, n_add, decide_eq_true_eq]
  rw [if_neg (by omega), if_pos (by omega), show l * 3 + i = 3 * l + i by omega, e3 _ (by omega)]
theorem sendHome_c {I : gII} {L : gLL} {F : TFen} {V : TMom} {f m s b l : Nat} (hfe : gfe f = true) (hmo : gmo m = true) (hso : gso s = true) (hfm : ∀ a, f ≤ a → a ≤ f + 6 → a ≠ m) (hF : okF F) (hc : cFen I f F) (hV : okM F V) (hM : cMom I L m V) (hb : b < fB F) (hl : l < fL F) :
    ∃ I' L', r_X1_sendHome I L f m (nI b) (nI l) s = some (0, I', L') ∧ cMom I' L' m (driveS F V b l) ∧ cSong I' s (song F V b l) ∧ ∀ a, a ≠ m → (L' a = L a ∧ (a ≠ s → a ≠ s + 1 → I' a = I a)) := by
  obtain ⟨ap, am, am1⟩ := gso_apart hfe hmo hso
  obtain ⟨I1, e1, s1, k1⟩ := sing_c hfe hmo hso hF hc hV hM hb hl
  have hc1 : cFen I1 f F := cFen_kept (fun a q1 q2 => k1 a (ap a q1 q2).1 (ap a q1 q2).2) hc
  have hM1 : cMom I1 L m V := cMom_kept (k1 m am am1) rfl hM
  have hle := song_le F V b l
  have hlen := song_len F V b l
  obtain ⟨I2, L2, e2, c2, k2⟩ := home8 (F := F) (f := f) (k := 99 - (song F V b l).length) (v2 := nI b) (v3 := nI l) am am1 (ys := song F V b l) (j := 0) hV hM1 hle (by omega) (by rw [Nat.zero_add]; exact s1.1) (fun i hi => by rw [Nat.zero_add]; exact s1.2 i hi)
  rw [show (song F V b l).length + 1 + (99 - (song F V b l).length) = 100 by omega] at e2
  have hf3 : m ≠ f + 3 := fun e => hfm (f + 3) (by omega) (by omega) e.symm
  have l2 : ∀ j, j < 3 * fL F → I2 (f + 3) j = nI (fl F j) := fun j hj => by
    rw [(k2 (f + 3) (fun e => hf3 e.symm)).1]
    exact hc1.2.2.2.2.2.1 j hj
  have ok2 := singS_ok hV hle
  obtain ⟨I3, e3, c3, k3⟩ := home22 (s := s) (i := 0) (k := 99) (v2 := nI b) hf3 hF hl (by omega) l2 ok2 c2
  have l3 : ∀ j, j < 3 * fL F → I3 (f + 3) j = nI (fl F j) := fun j hj => by
    rw [k3 (f + 3) (fun e => hf3 e.symm)]
    exact l2 j hj
  obtain ⟨I4, e4, c4, k4⟩ := home22 (s := s) (i := 1) (k := 98) (v2 := nI b) hf3 hF hl (by omega) l3 (passS_ok ok2) c3
  have l4 : ∀ j, j < 3 * fL F → I4 (f + 3) j = nI (fl F j) := fun j hj => by
    rw [k4 (f + 3) (fun e => hf3 e.symm)]
    exact l3 j hj
  obtain ⟨I5, e5, c5, k5⟩ := home22 (s := s) (i := 2) (k := 97) (v2 := nI b) hf3 hF hl (by omega) l4 (passS_ok (passS_ok ok2)) c4
  have c5 : cMom I5 L2 m (passL F (singS V (song F V b l)) l) := c5
  have kk : ∀ a, a ≠ m → I5 a = I1 a := fun a ha => (k5 a ha).trans ((k4 a ha).trans ((k3 a ha).trans (k2 a ha).1))
  refine ⟨gu2 I5 m 4 (I5 m 4 ||| gshl (nI 1) (nI b)), L2, ?_, ?_, ?_, fun a ha => ⟨(k2 a ha).2, fun q1 q2 => (gu2_other ha).trans ((kk a ha).trans (k1 a q1 q2))⟩⟩
  · unfold r_X1_sendHome
    rw [e1]
    show r_X1_sendHome_8 f m s 100 (nI b) (nI l) (nI 0) I1 L = _
    rw [e2, e3, e4, e5, r_X1_sendHome_22]
    simp (disch := omega) only [n_le]
    rw [if_pos (by omega)]
  · obtain ⟨m0, m1, m2, m3, m4, m5, m7, S, mS, hS1, hS2⟩ := c5
    have hB := hF.2.2.1
    have h2 : 2 ^ b ≤ 32 := pow_le5 (by omega)
    have self : ∀ j, j ≠ 4 → gu2 I5 m 4 (I5 m 4 ||| gshl (nI 1) (nI b)) m j = I5 m j := fun j hj => by rw [gu2_self, if_neg hj]
    refine ⟨by rw [self 0 (by omega)]; exact m0, by rw [self 1 (by omega)]; exact m1, by rw [self 2 (by omega)]; exact m2, by rw [self 3 (by omega)]; exact m3, ?_, by rw [self 5 (by omega)]; exact m5, by rw [self 7 (by omega)]; exact m7, S, mS, hS1, hS2⟩
    rw [gu2_self, if_pos rfl, m4, n_shl (by omega) (by omega), n_or, Nat.one_mul]
    rfl
  · have ks : gu2 I5 m 4 (I5 m 4 ||| gshl (nI 1) (nI b)) s = I1 s := (gu2_other (fun e => am e.symm)).trans (kk s (fun e => am e.symm))
    have ks1 : gu2 I5 m 4 (I5 m 4 ||| gshl (nI 1) (nI b)) (s + 1) = I1 (s + 1) := (gu2_other (fun e => am1 e.symm)).trans (kk (s + 1) (fun e => am1 e.symm))
    exact ⟨by rw [ks]; exact s1.1, fun j hj => by rw [ks1]; exact s1.2 j hj⟩
