/-! THE LAW'S LOOP AND ITS BEGINNING: all that is left is pure (gCase, gFenCase: of functions of the state) -/
abbrev gII : Type := Nat → Nat → Int32
abbrev gLL : Type := Nat → Nat → Int64
def lwQ : gP := fun r _ => r = some (.int 1)
/-- a case of the law keeps the invariant and goes on -/
def gCase (Inv : Nat → Nat → gII → gLL → Prop) (F : Nat → Nat → Nat → (Int32 → gII → gLL → Option gRs) → Int32 → gII → gLL → Option gRs) : Prop :=
  ∀ (n f g : Nat) (I : gII) (L : gLL) (i : Nat), gfw f g → Inv f g I L → i + 6 ≤ n → n ≤ 384 → ∃ I' L', (∀ K, F n f g K (nI i) I L = K (nI i + nI 6) I' L') ∧ Inv f g I' L'
/-- the case 'fen': refused by both, or done by both and the Fens change places -/
def gFenCase (Inv : Nat → Nat → gII → gLL → Prop) : Prop :=
  ∀ (f g : Nat) (I : gII) (L : gLL), gfw f g → Inv f g I L →
    (∃ z z2 : gRs, r_X1_read I L g (I 2 1) = some z ∧ ¬ z.1 = -9 ∧ r_X8_fen z.2.1 z.2.2 = some z2 ∧ z2.1 = -3 ∧ Inv f g z2.2.1 z2.2.2) ∨
    (∃ z z2 z3 : gRs, r_X1_read I L g (I 2 1) = some z ∧ z.1 = -9 ∧ r_X7_fen_11 f g z.2.1 z.2.2 = some z2 ∧ r_X8_fen z2.2.1 z2.2.2 = some z3 ∧ z2.1 = z3.1 ∧ Inv g f z3.2.1 z3.2.2)
theorem gK_use {n f g d i : Nat} (hw : gfw f g) {I' : gII} {L' : gLL} (F : Nat → Nat → Nat → (Int32 → gII → gLL → Option gRs) → Int32 → gII → gLL → Option gRs) {I : gII} {L : gLL} {P : Prop}
    (hF : ∀ K, F n f g K (nI i) I L = K (nI i + nI 6) I' L')
    (ht : ∀ {z : gRs} {K : Int32 → gII → gLL → Option gRs}, (∀ v3 I L, K v3 I L = some z → gW gM (d + 11) 0 0 k_L_law 10 [.ref 1, .ref 2, .ref 57, .int v3] [] (gKn n, gRf f g, I, L) lwQ) → F n f g K (nI i) I L = some z → lwQ (some (.int z.1)) (gKn n, gRf f g, z.2.1, z.2.2) → P)
    (hh : gW gM (d + 11) 0 0 k_L_law 10 [.ref 1, .ref 2, .ref 57, .int (nI i + nI 6)] [] (gKn n, gRf f g, I', L') lwQ) : P := by
  refine ht (z := (1, I', L')) (K := fun v I2 L2 => @ite _ (v = nI i + nI 6 ∧ I2 = I' ∧ L2 = L') (Classical.propDecidable _) (some (1, I', L')) none) ?_ ?_ rfl
  · intro v I2 L2 hk
    by_cases hc : v = nI i + nI 6 ∧ I2 = I' ∧ L2 = L'
    · obtain ⟨rfl, rfl, rfl⟩ := hc
      exact hh
    · rw [if_neg hc] at hk
      cases hk
  · rw [hF, if_pos ⟨rfl, rfl, rfl⟩]

set_option maxHeartbeats 4000000 in
set_option maxRecDepth 100000 in
theorem law_loop (Inv : Nat → Nat → gII → gLL → Prop) (c0 : gCase Inv r_L_law_22) (c1 : gCase Inv r_L_law_39) (c2 : gCase Inv r_L_law_46) (c4 : gCase Inv r_L_law_60) (c5 : gCase Inv r_L_law_87) (c6 : gCase Inv r_L_law_114) (c7 : gCase Inv r_L_law_141) (c8 : gCase Inv r_L_law_178) (c9 : gCase Inv r_L_law_195) (c10 : gCase Inv r_L_law_222) (c11 : gCase Inv r_L_law_239) (c12 : gCase Inv r_L_law_256) (c13 : gCase Inv r_L_law_291) (c14 : gCase Inv r_L_law_308) (c15 : gCase Inv r_L_law_315) (c16 : gCase Inv r_L_law_322) (c17 : gCase Inv r_L_law_339) (c18 : gCase Inv r_L_law_386) (c19 : gCase Inv r_L_law_431) (c20 : gCase Inv r_L_law_448) (c21 : gCase Inv r_L_law_475) (c22 : gCase Inv r_L_law_492) (c23 : gCase Inv r_L_law_519) (c24 : gCase Inv r_L_law_556) (c25 : gCase Inv r_L_law_563) (c26 : gCase Inv r_L_law_580) (c27 : gCase Inv r_L_law_625) (c28 : gCase Inv r_L_law_662) (c29 : gCase Inv r_L_law_727) (c30 : gCase Inv r_L_law_769) (c31 : gCase Inv r_L_law_786) (c32 : gCase Inv r_L_law_803) (c33 : gCase Inv r_L_law_820) (hfen : gFenCase Inv) {n d : Nat} (hn : n ≤ 384) : ∀ (m i f g : Nat) (I : gII) (L : gLL), n + 6 ≤ i + 6 * m → i ≤ n + 6 → gfw f g → Inv f g I L → gW gM (d + 11) 0 0 k_L_law 10 [.ref 1, .ref 2, .ref 57, .int (nI i)] [] (gKn n, gRf f g, I, L) lwQ := by
  intro m
  induction m with
  | zero =>
    intro i f g I L h1 h2 hw hI
    refine r_iload rfl rfl ?_
    refine r_aload rfl rfl ?_
    refine r_alen n 0 (v := nI n) rfl rfl (by decide) rfl ?_
    refine r_const rfl (gcst 6) ?_
    refine r_isub rfl ?_
    refine r_icmp_gt 839 rfl rfl (fun _ => ?_) (fun u1 => ?_)
    · refine r_const rfl (gcst 1) ?_
      exact r_zret rfl (Or.inr rfl) rfl
    · exfalso
      apply u1
      have e1 : (nI n - nI 6).toInt = (n : Int) - 6 := pk_sub_toInt (by omega) (by omega)
      have e2 : (nI i).toInt = (i : Int) := nI_toInt (by omega)
      rw [Int32.lt_iff_toInt_lt, e1, e2]
      omega
  | succ m ih =>
    intro i f g I L h1 h2 hw hI
    refine r_iload rfl rfl ?_
    refine r_aload rfl rfl ?_
    refine r_alen n 0 (v := nI n) rfl rfl (by decide) rfl ?_
    refine r_const rfl (gcst 6) ?_
    refine r_isub rfl ?_
    refine r_icmp_gt 839 rfl rfl (fun _ => ?_) (fun u1 => ?_)
    · refine r_const rfl (gcst 1) ?_
      exact r_zret rfl (Or.inr rfl) rfl
    have hin : i + 6 ≤ n := by
      rcases Nat.lt_or_ge n (i + 6) with q | q
      · exfalso
        apply u1
        have e1 : (nI n - nI 6).toInt = (n : Int) - 6 := pk_sub_toInt (by omega) (by omega)
        have e2 : (nI i).toInt = (i : Int) := nI_toInt (by omega)
        rw [Int32.lt_iff_toInt_lt, e1, e2]
        omega
      · exact q
    have hadd : nI i + nI 6 = nI (i + 6) := nI_add i 6
    have next : ∀ (f g : Nat) (I : gII) (L : gLL), gfw f g → Inv f g I L → gW gM (d + 11) 0 0 k_L_law 10 [.ref 1, .ref 2, .ref 57, .int (nI i + nI 6)] [] (gKn n, gRf f g, I, L) lwQ := by
      intro f g I L hw hI
      rw [hadd]
      exact ih (i + 6) f g I L (by omega) (by omega) hw hI
    refine r_aload rfl rfl ?_
    refine r_iload rfl rfl ?_
    refine r_iaload (n := n) rfl rfl (vp_in_nI (by omega) (by omega)) ?_
    refine r_const rfl (gcst 63) ?_
    refine r_iand rfl ?_
    generalize (I 1 (gx (nI i)) &&& nI 63) = x
    by_cases hout : x.toInt < 0 ∨ 33 < x.toInt
    · refine r_tsw 837 rfl (by unfold gtab; rw [if_pos hout]; rfl) ?_
      refine r_iinc (y := nI i + nI 6) [.ref 1, .ref 2, .ref 57, .int (nI i + nI 6)] rfl rfl rfl (ginc _ 6) rfl ?_
      refine r_goto 10 rfl rfl ?_
      exact next f g I L hw hI
    rcases (by omega : x.toInt = 0 ∨ x.toInt = 1 ∨ x.toInt = 2 ∨ x.toInt = 3 ∨ x.toInt = 4 ∨ x.toInt = 5 ∨ x.toInt = 6 ∨ x.toInt = 7 ∨ x.toInt = 8 ∨ x.toInt = 9 ∨ x.toInt = 10 ∨ x.toInt = 11 ∨ x.toInt = 12 ∨ x.toInt = 13 ∨ x.toInt = 14 ∨ x.toInt = 15 ∨ x.toInt = 16 ∨ x.toInt = 17 ∨ x.toInt = 18 ∨ x.toInt = 19 ∨ x.toInt = 20 ∨ x.toInt = 21 ∨ x.toInt = 22 ∨ x.toInt = 23 ∨ x.toInt = 24 ∨ x.toInt = 25 ∨ x.toInt = 26 ∨ x.toInt = 27 ∨ x.toInt = 28 ∨ x.toInt = 29 ∨ x.toInt = 30 ∨ x.toInt = 31 ∨ x.toInt = 32 ∨ x.toInt = 33) with e | e | e | e | e | e | e | e | e | e | e | e | e | e | e | e | e | e | e | e | e | e | e | e | e | e | e | e | e | e | e | e | e | e
    · refine r_tsw 22 rfl (by unfold gtab; rw [if_neg hout, e]; rfl) ?_
      obtain ⟨I', L', hF, hI'⟩ := c0 n f g I L i hw hI hin hn
      exact gK_use hw (I' := I') (L' := L') r_L_law_22 hF (fun hK hr hQ => t_L_law_22 hw hK hr hQ) (next f g I' L' hw hI')
    · refine r_tsw 39 rfl (by unfold gtab; rw [if_neg hout, e]; rfl) ?_
      obtain ⟨I', L', hF, hI'⟩ := c1 n f g I L i hw hI hin hn
      exact gK_use hw (I' := I') (L' := L') r_L_law_39 hF (fun hK hr hQ => t_L_law_39 hw hK hr hQ) (next f g I' L' hw hI')
    · refine r_tsw 46 rfl (by unfold gtab; rw [if_neg hout, e]; rfl) ?_
      obtain ⟨I', L', hF, hI'⟩ := c2 n f g I L i hw hI hin hn
      exact gK_use hw (I' := I') (L' := L') r_L_law_46 hF (fun hK hr hQ => t_L_law_46 hw hK hr hQ) (next f g I' L' hw hI')
    · refine r_tsw 53 rfl (by unfold gtab; rw [if_neg hout, e]; rfl) ?_
      rcases hfen f g I L hw hI with ⟨z, z2, a1, a2, a3, a4, a5⟩ | ⟨z, z2, z3, a1, a2, a3, a4, a5, a6⟩
      · refine r_aload rfl rfl ?_
        refine r_invv (a := 2) [] rfl rfl rfl rfl rfl (Nat.le_of_ble_eq_true rfl) ⟨rfl, rfl⟩ ?_
        refine s_X7_fen_no hw a1 a2 ?_
        show gW _ _ _ _ _ 55 [.ref 1, .ref 2, .ref 57, .int (nI i)] [.int (-3)] (gKn n, gRf f g, z.2.1, z.2.2) _
        refine r_aload rfl rfl ?_
        refine r_invv (a := 57) [] rfl rfl rfl rfl rfl (Nat.le_of_ble_eq_true rfl) ⟨rfl, rfl⟩ ?_
        refine s_X8_fen a3 ?_
        show gW _ _ _ _ _ 57 [.ref 1, .ref 2, .ref 57, .int (nI i)] [.int z2.1, .int (-3)] (gKn n, gRf f g, z2.2.1, z2.2.2) _
        refine r_icmp_eq 837 rfl rfl (fun c1 => ?_) (fun c1 => absurd a4.symm c1)
        refine r_iinc (y := nI i + nI 6) [.ref 1, .ref 2, .ref 57, .int (nI i + nI 6)] rfl rfl rfl (ginc _ 6) rfl ?_
        refine r_goto 10 rfl rfl ?_
        exact next f g _ _ hw a5
      · refine r_aload rfl rfl ?_
        refine r_invv (a := 2) [] rfl rfl rfl rfl rfl (Nat.le_of_ble_eq_true rfl) ⟨rfl, rfl⟩ ?_
        refine s_X7_fen_yes hw a1 a2 a3 ?_
        show gW _ _ _ _ _ 55 [.ref 1, .ref 2, .ref 57, .int (nI i)] [.int z2.1] (gKn n, gRf g f, z2.2.1, z2.2.2) _
        refine r_aload rfl rfl ?_
        refine r_invv (a := 57) [] rfl rfl rfl rfl rfl (Nat.le_of_ble_eq_true rfl) ⟨rfl, rfl⟩ ?_
        refine s_X8_fen a4 ?_
        show gW _ _ _ _ _ 57 [.ref 1, .ref 2, .ref 57, .int (nI i)] [.int z3.1, .int z2.1] (gKn n, gRf g f, z3.2.1, z3.2.2) _
        refine r_icmp_eq 837 rfl rfl (fun c1 => ?_) (fun c1 => absurd a5 c1)
        refine r_iinc (y := nI i + nI 6) [.ref 1, .ref 2, .ref 57, .int (nI i + nI 6)] rfl rfl rfl (ginc _ 6) rfl ?_
        refine r_goto 10 rfl rfl ?_
        exact next g f _ _ (hw.symm.elim (fun q => Or.inl ⟨q.2, q.1⟩) (fun q => Or.inr ⟨q.2, q.1⟩)) a6
    · refine r_tsw 60 rfl (by unfold gtab; rw [if_neg hout, e]; rfl) ?_
      obtain ⟨I', L', hF, hI'⟩ := c4 n f g I L i hw hI hin hn
      exact gK_use hw (I' := I') (L' := L') r_L_law_60 hF (fun hK hr hQ => t_L_law_60 hw hK hr hQ) (next f g I' L' hw hI')
    · refine r_tsw 87 rfl (by unfold gtab; rw [if_neg hout, e]; rfl) ?_
      obtain ⟨I', L', hF, hI'⟩ := c5 n f g I L i hw hI hin hn
      exact gK_use hw (I' := I') (L' := L') r_L_law_87 hF (fun hK hr hQ => t_L_law_87 hw hK hr hQ) (next f g I' L' hw hI')
    · refine r_tsw 114 rfl (by unfold gtab; rw [if_neg hout, e]; rfl) ?_
      obtain ⟨I', L', hF, hI'⟩ := c6 n f g I L i hw hI hin hn
      exact gK_use hw (I' := I') (L' := L') r_L_law_114 hF (fun hK hr hQ => t_L_law_114 hw hK hr hQ) (next f g I' L' hw hI')
    · refine r_tsw 141 rfl (by unfold gtab; rw [if_neg hout, e]; rfl) ?_
      obtain ⟨I', L', hF, hI'⟩ := c7 n f g I L i hw hI hin hn
      exact gK_use hw (I' := I') (L' := L') r_L_law_141 hF (fun hK hr hQ => t_L_law_141 hw hK hr hQ) (next f g I' L' hw hI')
    · refine r_tsw 178 rfl (by unfold gtab; rw [if_neg hout, e]; rfl) ?_
      obtain ⟨I', L', hF, hI'⟩ := c8 n f g I L i hw hI hin hn
      exact gK_use hw (I' := I') (L' := L') r_L_law_178 hF (fun hK hr hQ => t_L_law_178 hw hK hr hQ) (next f g I' L' hw hI')
    · refine r_tsw 195 rfl (by unfold gtab; rw [if_neg hout, e]; rfl) ?_
      obtain ⟨I', L', hF, hI'⟩ := c9 n f g I L i hw hI hin hn
      exact gK_use hw (I' := I') (L' := L') r_L_law_195 hF (fun hK hr hQ => t_L_law_195 hw hK hr hQ) (next f g I' L' hw hI')
    · refine r_tsw 222 rfl (by unfold gtab; rw [if_neg hout, e]; rfl) ?_
      obtain ⟨I', L', hF, hI'⟩ := c10 n f g I L i hw hI hin hn
      exact gK_use hw (I' := I') (L' := L') r_L_law_222 hF (fun hK hr hQ => t_L_law_222 hw hK hr hQ) (next f g I' L' hw hI')
    · refine r_tsw 239 rfl (by unfold gtab; rw [if_neg hout, e]; rfl) ?_
      obtain ⟨I', L', hF, hI'⟩ := c11 n f g I L i hw hI hin hn
      exact gK_use hw (I' := I') (L' := L') r_L_law_239 hF (fun hK hr hQ => t_L_law_239 hw hK hr hQ) (next f g I' L' hw hI')
    · refine r_tsw 256 rfl (by unfold gtab; rw [if_neg hout, e]; rfl) ?_
      obtain ⟨I', L', hF, hI'⟩ := c12 n f g I L i hw hI hin hn
      exact gK_use hw (I' := I') (L' := L') r_L_law_256 hF (fun hK hr hQ => t_L_law_256 hw hK hr hQ) (next f g I' L' hw hI')
    · refine r_tsw 291 rfl (by unfold gtab; rw [if_neg hout, e]; rfl) ?_
      obtain ⟨I', L', hF, hI'⟩ := c13 n f g I L i hw hI hin hn
      exact gK_use hw (I' := I') (L' := L') r_L_law_291 hF (fun hK hr hQ => t_L_law_291 hw hK hr hQ) (next f g I' L' hw hI')
    · refine r_tsw 308 rfl (by unfold gtab; rw [if_neg hout, e]; rfl) ?_
      obtain ⟨I', L', hF, hI'⟩ := c14 n f g I L i hw hI hin hn
      exact gK_use hw (I' := I') (L' := L') r_L_law_308 hF (fun hK hr hQ => t_L_law_308 hw hK hr hQ) (next f g I' L' hw hI')
    · refine r_tsw 315 rfl (by unfold gtab; rw [if_neg hout, e]; rfl) ?_
      obtain ⟨I', L', hF, hI'⟩ := c15 n f g I L i hw hI hin hn
      exact gK_use hw (I' := I') (L' := L') r_L_law_315 hF (fun hK hr hQ => t_L_law_315 hw hK hr hQ) (next f g I' L' hw hI')
    · refine r_tsw 322 rfl (by unfold gtab; rw [if_neg hout, e]; rfl) ?_
      obtain ⟨I', L', hF, hI'⟩ := c16 n f g I L i hw hI hin hn
      exact gK_use hw (I' := I') (L' := L') r_L_law_322 hF (fun hK hr hQ => t_L_law_322 hw hK hr hQ) (next f g I' L' hw hI')
    · refine r_tsw 339 rfl (by unfold gtab; rw [if_neg hout, e]; rfl) ?_
      obtain ⟨I', L', hF, hI'⟩ := c17 n f g I L i hw hI hin hn
      exact gK_use hw (I' := I') (L' := L') r_L_law_339 hF (fun hK hr hQ => t_L_law_339 hw hK hr hQ) (next f g I' L' hw hI')
    · refine r_tsw 386 rfl (by unfold gtab; rw [if_neg hout, e]; rfl) ?_
      obtain ⟨I', L', hF, hI'⟩ := c18 n f g I L i hw hI hin hn
      exact gK_use hw (I' := I') (L' := L') r_L_law_386 hF (fun hK hr hQ => t_L_law_386 hw hK hr hQ) (next f g I' L' hw hI')
    · refine r_tsw 431 rfl (by unfold gtab; rw [if_neg hout, e]; rfl) ?_
      obtain ⟨I', L', hF, hI'⟩ := c19 n f g I L i hw hI hin hn
      exact gK_use hw (I' := I') (L' := L') r_L_law_431 hF (fun hK hr hQ => t_L_law_431 hw hK hr hQ) (next f g I' L' hw hI')
    · refine r_tsw 448 rfl (by unfold gtab; rw [if_neg hout, e]; rfl) ?_
      obtain ⟨I', L', hF, hI'⟩ := c20 n f g I L i hw hI hin hn
      exact gK_use hw (I' := I') (L' := L') r_L_law_448 hF (fun hK hr hQ => t_L_law_448 hw hK hr hQ) (next f g I' L' hw hI')
    · refine r_tsw 475 rfl (by unfold gtab; rw [if_neg hout, e]; rfl) ?_
      obtain ⟨I', L', hF, hI'⟩ := c21 n f g I L i hw hI hin hn
      exact gK_use hw (I' := I') (L' := L') r_L_law_475 hF (fun hK hr hQ => t_L_law_475 hw hK hr hQ) (next f g I' L' hw hI')
    · refine r_tsw 492 rfl (by unfold gtab; rw [if_neg hout, e]; rfl) ?_
      obtain ⟨I', L', hF, hI'⟩ := c22 n f g I L i hw hI hin hn
      exact gK_use hw (I' := I') (L' := L') r_L_law_492 hF (fun hK hr hQ => t_L_law_492 hw hK hr hQ) (next f g I' L' hw hI')
    · refine r_tsw 519 rfl (by unfold gtab; rw [if_neg hout, e]; rfl) ?_
      obtain ⟨I', L', hF, hI'⟩ := c23 n f g I L i hw hI hin hn
      exact gK_use hw (I' := I') (L' := L') r_L_law_519 hF (fun hK hr hQ => t_L_law_519 hw hK hr hQ) (next f g I' L' hw hI')
    · refine r_tsw 556 rfl (by unfold gtab; rw [if_neg hout, e]; rfl) ?_
      obtain ⟨I', L', hF, hI'⟩ := c24 n f g I L i hw hI hin hn
      exact gK_use hw (I' := I') (L' := L') r_L_law_556 hF (fun hK hr hQ => t_L_law_556 hw hK hr hQ) (next f g I' L' hw hI')
    · refine r_tsw 563 rfl (by unfold gtab; rw [if_neg hout, e]; rfl) ?_
      obtain ⟨I', L', hF, hI'⟩ := c25 n f g I L i hw hI hin hn
      exact gK_use hw (I' := I') (L' := L') r_L_law_563 hF (fun hK hr hQ => t_L_law_563 hw hK hr hQ) (next f g I' L' hw hI')
    · refine r_tsw 580 rfl (by unfold gtab; rw [if_neg hout, e]; rfl) ?_
      obtain ⟨I', L', hF, hI'⟩ := c26 n f g I L i hw hI hin hn
      exact gK_use hw (I' := I') (L' := L') r_L_law_580 hF (fun hK hr hQ => t_L_law_580 hw hK hr hQ) (next f g I' L' hw hI')
    · refine r_tsw 625 rfl (by unfold gtab; rw [if_neg hout, e]; rfl) ?_
      obtain ⟨I', L', hF, hI'⟩ := c27 n f g I L i hw hI hin hn
      exact gK_use hw (I' := I') (L' := L') r_L_law_625 hF (fun hK hr hQ => t_L_law_625 hw hK hr hQ) (next f g I' L' hw hI')
    · refine r_tsw 662 rfl (by unfold gtab; rw [if_neg hout, e]; rfl) ?_
      obtain ⟨I', L', hF, hI'⟩ := c28 n f g I L i hw hI hin hn
      exact gK_use hw (I' := I') (L' := L') r_L_law_662 hF (fun hK hr hQ => t_L_law_662 hw hK hr hQ) (next f g I' L' hw hI')
    · refine r_tsw 727 rfl (by unfold gtab; rw [if_neg hout, e]; rfl) ?_
      obtain ⟨I', L', hF, hI'⟩ := c29 n f g I L i hw hI hin hn
      exact gK_use hw (I' := I') (L' := L') r_L_law_727 hF (fun hK hr hQ => t_L_law_727 hw hK hr hQ) (next f g I' L' hw hI')
    · refine r_tsw 769 rfl (by unfold gtab; rw [if_neg hout, e]; rfl) ?_
      obtain ⟨I', L', hF, hI'⟩ := c30 n f g I L i hw hI hin hn
      exact gK_use hw (I' := I') (L' := L') r_L_law_769 hF (fun hK hr hQ => t_L_law_769 hw hK hr hQ) (next f g I' L' hw hI')
    · refine r_tsw 786 rfl (by unfold gtab; rw [if_neg hout, e]; rfl) ?_
      obtain ⟨I', L', hF, hI'⟩ := c31 n f g I L i hw hI hin hn
      exact gK_use hw (I' := I') (L' := L') r_L_law_786 hF (fun hK hr hQ => t_L_law_786 hw hK hr hQ) (next f g I' L' hw hI')
    · refine r_tsw 803 rfl (by unfold gtab; rw [if_neg hout, e]; rfl) ?_
      obtain ⟨I', L', hF, hI'⟩ := c32 n f g I L i hw hI hin hn
      exact gK_use hw (I' := I') (L' := L') r_L_law_803 hF (fun hK hr hQ => t_L_law_803 hw hK hr hQ) (next f g I' L' hw hI')
    · refine r_tsw 820 rfl (by unfold gtab; rw [if_neg hout, e]; rfl) ?_
      obtain ⟨I', L', hF, hI'⟩ := c33 n f g I L i hw hI hin hn
      exact gK_use hw (I' := I') (L' := L') r_L_law_820 hF (fun hK hr hQ => t_L_law_820 hw hK hr hQ) (next f g I' L' hw hI')
set_option maxHeartbeats 4000000 in
set_option maxRecDepth 100000 in
/-- the law from its entry, over the abstract machine -/
theorem law_run (Inv : Nat → Nat → gII → gLL → Prop) (c0 : gCase Inv r_L_law_22) (c1 : gCase Inv r_L_law_39) (c2 : gCase Inv r_L_law_46) (c4 : gCase Inv r_L_law_60) (c5 : gCase Inv r_L_law_87) (c6 : gCase Inv r_L_law_114) (c7 : gCase Inv r_L_law_141) (c8 : gCase Inv r_L_law_178) (c9 : gCase Inv r_L_law_195) (c10 : gCase Inv r_L_law_222) (c11 : gCase Inv r_L_law_239) (c12 : gCase Inv r_L_law_256) (c13 : gCase Inv r_L_law_291) (c14 : gCase Inv r_L_law_308) (c15 : gCase Inv r_L_law_315) (c16 : gCase Inv r_L_law_322) (c17 : gCase Inv r_L_law_339) (c18 : gCase Inv r_L_law_386) (c19 : gCase Inv r_L_law_431) (c20 : gCase Inv r_L_law_448) (c21 : gCase Inv r_L_law_475) (c22 : gCase Inv r_L_law_492) (c23 : gCase Inv r_L_law_519) (c24 : gCase Inv r_L_law_556) (c25 : gCase Inv r_L_law_563) (c26 : gCase Inv r_L_law_580) (c27 : gCase Inv r_L_law_625) (c28 : gCase Inv r_L_law_662) (c29 : gCase Inv r_L_law_727) (c30 : gCase Inv r_L_law_769) (c31 : gCase Inv r_L_law_786) (c32 : gCase Inv r_L_law_803) (c33 : gCase Inv r_L_law_820) (hfen : gFenCase Inv) {n d : Nat} (hn : n ≤ 384) (xs : Nat → Int32) (h0 : Inv 4 11 (gI0 xs) gL0) : gW gM (d + 11) 74 1143 k_L_law 0 [.ref 1, .null, .null, .null] [] (gKl n 0, gRl 0, gI0 xs, gL0) lwQ := by
  refine r_new (x := 7) (n := 15) rfl ⟨rfl, rfl⟩ (Nat.le_of_ble_eq_true rfl) (Nat.le_of_ble_eq_true rfl) ?_
  rw [gal (n := n) (xs := xs) (x := 7) (k := 0) (p := 0) rfl (by decide +kernel)]
  show gW gM (d + 11) 73 1128 k_L_law 1 [.ref 1, .null, .null, .null] [.ref 2] (gKl n 1, gRl 0, gI0 xs, gL0) lwQ
  refine r_dup rfl rfl ?_
  refine r_invi (a := 2) [] rfl rfl rfl rfl rfl (Nat.le_of_ble_eq_true rfl) (Nat.le_of_ble_eq_true rfl) (Nat.le_of_ble_eq_true rfl) ?_
  refine n_X7_init_2 ?_
  show gW gM (d + 11) 19 695 k_L_law 3 [.ref 1, .null, .null, .null] [.ref 2] (gKl n 55, gRl 54, gI0 xs, gL0) lwQ
  refine r_astore [.ref 1, .ref 2, .null, .null] rfl rfl (Nat.le_of_ble_eq_true rfl) rfl ?_
  refine r_new (x := 8) (n := 36) rfl ⟨rfl, rfl⟩ (Nat.le_of_ble_eq_true rfl) (Nat.le_of_ble_eq_true rfl) ?_
  rw [gal (n := n) (xs := xs) (x := 8) (k := 55) (p := 54) rfl (by decide +kernel)]
  show gW gM (d + 11) 18 659 k_L_law 5 [.ref 1, .ref 2, .null, .null] [.ref 57] (gKl n 56, gRl 54, gI0 xs, gL0) lwQ
  refine r_dup rfl rfl ?_
  refine r_invi (a := 57) [] rfl rfl rfl rfl rfl (Nat.le_of_ble_eq_true rfl) (Nat.le_of_ble_eq_true rfl) (Nat.le_of_ble_eq_true rfl) ?_
  refine n_X8_init_57 ?_
  show gW gM (d + 11) 0 0 k_L_law 7 [.ref 1, .ref 2, .null, .null] [.ref 57] (gKl n 74, gRl 72, gI0 xs, gL0) lwQ
  rw [gKl_all, gRl_all]
  refine r_astore [.ref 1, .ref 2, .ref 57, .null] rfl rfl (Nat.le_of_ble_eq_true rfl) rfl ?_
  refine r_const rfl (gcst 0) ?_
  refine r_istore [.ref 1, .ref 2, .ref 57, .int (nI 0)] rfl rfl (Nat.le_of_ble_eq_true rfl) rfl ?_
  exact law_loop Inv c0 c1 c2 c4 c5 c6 c7 c8 c9 c10 c11 c12 c13 c14 c15 c16 c17 c18 c19 c20 c21 c22 c23 c24 c25 c26 c27 c28 c29 c30 c31 c32 c33 hfen hn (n + 1) 0 4 11 (gI0 xs) gL0 (by omega) (by omega) (Or.inl ⟨rfl, rfl⟩) h0
