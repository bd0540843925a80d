/-! WRITE FRAMES (wgen.py): a method leaves all cells but those that are named -/
theorem gite {α : Type} {c : Prop} [Decidable c] {X Y : Nat → α} {a : Nat} {v : α} (h1 : X a = v) (h2 : Y a = v) : (if c then X else Y) a = v := by
  split
  · exact h1
  · exact h2
theorem wi_X0_forgetAll {a : Nat} {I : Nat → Nat → Int32} {L : Nat → Nat → Int64}  (ha : ¬ (a = 20)) : i_X0_forgetAll I L  a = I a := ((gu2_other (fun e => ha (e))).trans (gu2_other (fun e => ha (e))))
theorem wi_X4_become {a : Nat} {I : Nat → Nat → Int32} {L : Nat → Nat → Int64} {a0 : Nat} {a1 : Nat} (ha : ¬ (a = a0)) : i_X4_become I L a0 a1 a = I a := ((gu2_other (fun e => ha (e))).trans ((gu2_other (fun e => ha (e))).trans ((gu2_other (fun e => ha (e))).trans ((gu2_other (fun e => ha (e))).trans ((gu2_other (fun e => ha (e))).trans ((gu2_other (fun e => ha (e))).trans (gu2_other (fun e => ha (e)))))))))
theorem wl_X4_become {a : Nat} {I : Nat → Nat → Int32} {L : Nat → Nat → Int64} {a0 : Nat} {a1 : Nat} (ha : ¬ (a = a0)) : l_X4_become I L a0 a1 a = L a := (gu2_other (fun e => ha (e)))
theorem w_X0_add {a : Nat} {z : gRs} {I : Nat → Nat → Int32} {L : Nat → Nat → Int64} {a1 : Nat} (ha : ¬ (a = 20 ∨ (22 ≤ a ∧ a ≤ 35))) (hr : r_X0_add I L a1 = some z) : z.2.1 a = I a ∧ z.2.2 a = L a := by
  unfold r_X0_add at hr
  obtain ⟨b3, hr⟩ := gopt hr
  cases hr
  exact ⟨(gite ((gu2_other (fun e => ha (Or.inl (e)))).trans (wi_X4_become (I := I) (L := L) (fun e => ha (Or.inr ((by have := gx_lt (gvp_in b3); omega)))))) ((gu2_other (fun e => ha (Or.inl (e)))).trans (wi_X4_become (I := I) (L := L) (fun e => ha (Or.inr ((by have := gx_lt (gvp_in b3); omega))))))), (wl_X4_become (I := I) (L := L) (fun e => ha (Or.inr ((by have := gx_lt (gvp_in b3); omega)))))⟩
theorem w_X0_takeLast_21 {a : Nat} {z : gRs} {a1 : Nat} (ha : ¬ (a = 20 ∨ a = a1))   {I : Nat → Nat → Int32} {L : Nat → Nat → Int64} (hr : r_X0_takeLast_21 a1  I L = some z) : z.2.1 a = I a ∧ z.2.2 a = L a := by
  unfold r_X0_takeLast_21 at hr
  cases hr
  exact ⟨rfl, rfl⟩
theorem w_X0_takeLast {a : Nat} {z : gRs} {I : Nat → Nat → Int32} {L : Nat → Nat → Int64} {a1 : Nat} (ha : ¬ (a = 20 ∨ a = a1)) (hr : r_X0_takeLast I L a1 = some z) : z.2.1 a = I a ∧ z.2.2 a = L a := by
  unfold r_X0_takeLast at hr
  by_cases c5 : (I 20 2) ≤ 0
  · rw [if_pos c5] at hr
    have q := w_X0_takeLast_21 (a := a) ha  hr
    exact ⟨q.1.trans rfl, q.2.trans rfl⟩
  · rw [if_neg c5] at hr
    obtain ⟨b6, hr⟩ := gopt hr
    have q := w_X0_takeLast_21 (a := a) ha  hr
    exact ⟨q.1.trans ((wi_X4_become (I := (gu2 I 20 2 ((I 20 2) - (nI 1)))) (L := L) (fun e => ha (Or.inr (e)))).trans (gu2_other (fun e => ha (Or.inl (e))))), q.2.trans (wl_X4_become (I := (gu2 I 20 2 ((I 20 2) - (nI 1)))) (L := L) (fun e => ha (Or.inr (e))))⟩
theorem w_X1_takesGate {a : Nat} {z : gRs} {I : Nat → Nat → Int32} {L : Nat → Nat → Int64} {a0 : Nat} {a1 : Int32} (ha : ¬ (a = a0 ∨ a = a0 + 1 ∨ a = a0 + 2)) (hr : r_X1_takesGate I L a0 a1 = some z) : z.2.1 a = I a ∧ z.2.2 a = L a := by
  unfold r_X1_takesGate at hr
  by_cases c7 : (I a0 0) < (nI 5)
  · rw [if_pos c7] at hr
    by_cases c8 : ¬ (I a0 12) = 0
    · rw [if_pos c8] at hr
      obtain ⟨b9, hr⟩ := gopt hr
      obtain ⟨b10, hr⟩ := gopt hr
      cases hr
      exact ⟨((gu2_other (fun e => ha (Or.inl (e)))).trans ((gu2_other (fun e => ha (Or.inl (e)))).trans (gu2_other (fun e => ha (Or.inr (Or.inr (e))))))), rfl⟩
    · rw [if_neg c8] at hr
      obtain ⟨b11, hr⟩ := gopt hr
      obtain ⟨b12, hr⟩ := gopt hr
      cases hr
      exact ⟨((gu2_other (fun e => ha (Or.inr (Or.inl (e))))).trans (gu2_other (fun e => ha (Or.inl (e))))), rfl⟩
  · rw [if_neg c7] at hr
    cases hr
    exact ⟨rfl, rfl⟩
theorem w_X1_takesLane_47 {a : Nat} {z : gRs} {a0 : Nat} (ha : ¬ (a = a0 ∨ a = a0 + 3))   {I : Nat → Nat → Int32} {L : Nat → Nat → Int64} (hr : r_X1_takesLane_47 a0  I L = some z) : z.2.1 a = I a ∧ z.2.2 a = L a := by
  unfold r_X1_takesLane_47 at hr
  cases hr
  exact ⟨rfl, rfl⟩
theorem w_X1_takesLane_19 {a : Nat} {z : gRs} {a0 : Nat} (ha : ¬ (a = a0 ∨ a = a0 + 3))   {I : Nat → Nat → Int32} {L : Nat → Nat → Int64} (hr : r_X1_takesLane_19 a0  I L = some z) : z.2.1 a = I a ∧ z.2.2 a = L a := by
  unfold r_X1_takesLane_19 at hr
  cases hr
  exact ⟨rfl, rfl⟩
theorem w_X1_takesLane {a : Nat} {z : gRs} {I : Nat → Nat → Int32} {L : Nat → Nat → Int64} {a0 : Nat} {a1 : Int32} (ha : ¬ (a = a0 ∨ a = a0 + 3)) (hr : r_X1_takesLane I L a0 a1 = some z) : z.2.1 a = I a ∧ z.2.2 a = L a := by
  unfold r_X1_takesLane at hr
  by_cases c9 : (nI 9) ≤ (((I a0 1) * (nI 3)) + (I a0 12))
  · rw [if_pos c9] at hr
    have q := w_X1_takesLane_19 (a := a) ha  hr
    exact ⟨q.1.trans rfl, q.2.trans rfl⟩
  · rw [if_neg c9] at hr
    by_cases c10 : ¬ (f_X1_isGate I L a0 (a1 - (nI 48))) = 0
    · rw [if_pos c10] at hr
      obtain ⟨b11, hr⟩ := gopt hr
      by_cases c12 : ¬ ((gu2 (gu2 I (a0 + 3) (gx (((I a0 1) * (nI 3)) + (I a0 12))) (a1 - (nI 48))) a0 12 (((gu2 I (a0 + 3) (gx (((I a0 1) * (nI 3)) + (I a0 12))) (a1 - (nI 48))) a0 12) + (nI 1))) a0 12) = (nI 3)
      · rw [if_pos c12] at hr
        have q := w_X1_takesLane_47 (a := a) ha  hr
        exact ⟨q.1.trans ((gu2_other (fun e => ha (Or.inl (e)))).trans (gu2_other (fun e => ha (Or.inr (e))))), q.2.trans rfl⟩
      · rw [if_neg c12] at hr
        have q := w_X1_takesLane_47 (a := a) ha  hr
        exact ⟨q.1.trans ((gu2_other (fun e => ha (Or.inl (e)))).trans ((gu2_other (fun e => ha (Or.inl (e)))).trans ((gu2_other (fun e => ha (Or.inl (e)))).trans (gu2_other (fun e => ha (Or.inr (e))))))), q.2.trans rfl⟩
    · rw [if_neg c10] at hr
      have q := w_X1_takesLane_19 (a := a) ha  hr
      exact ⟨q.1.trans rfl, q.2.trans rfl⟩
theorem w_X1_takesBeast_28 {a : Nat} {z : gRs} {a0 : Nat} (ha : ¬ (a = a0 ∨ a = a0 + 4 ∨ a = a0 + 5))   {I : Nat → Nat → Int32} {L : Nat → Nat → Int64} (hr : r_X1_takesBeast_28 a0  I L = some z) : z.2.1 a = I a ∧ z.2.2 a = L a := by
  unfold r_X1_takesBeast_28 at hr
  cases hr
  exact ⟨rfl, rfl⟩
theorem w_X1_takesBeast {a : Nat} {z : gRs} {I : Nat → Nat → Int32} {L : Nat → Nat → Int64} {a0 : Nat} {a1 : Int32} (ha : ¬ (a = a0 ∨ a = a0 + 4 ∨ a = a0 + 5)) (hr : r_X1_takesBeast I L a0 a1 = some z) : z.2.1 a = I a ∧ z.2.2 a = L a := by
  unfold r_X1_takesBeast at hr
  by_cases c15 : (I a0 2) < (nI 5)
  · rw [if_pos c15] at hr
    by_cases c16 : ¬ (I a0 12) = 0
    · rw [if_pos c16] at hr
      obtain ⟨b17, hr⟩ := gopt hr
      obtain ⟨b18, hr⟩ := gopt hr
      cases hr
      exact ⟨((gu2_other (fun e => ha (Or.inl (e)))).trans ((gu2_other (fun e => ha (Or.inl (e)))).trans (gu2_other (fun e => ha (Or.inr (Or.inr (e))))))), rfl⟩
    · rw [if_neg c16] at hr
      obtain ⟨b19, hr⟩ := gopt hr
      by_cases c20 : a1 < (nI 49)
      · rw [if_pos c20] at hr
        have q := w_X1_takesBeast_28 (a := a) ha  hr
        exact ⟨q.1.trans ((gu2_other (fun e => ha (Or.inr (Or.inl (e))))).trans (gu2_other (fun e => ha (Or.inl (e))))), q.2.trans rfl⟩
      · rw [if_neg c20] at hr
        by_cases c21 : (nI 57) < a1
        · rw [if_pos c21] at hr
          have q := w_X1_takesBeast_28 (a := a) ha  hr
          exact ⟨q.1.trans ((gu2_other (fun e => ha (Or.inr (Or.inl (e))))).trans (gu2_other (fun e => ha (Or.inl (e))))), q.2.trans rfl⟩
        · rw [if_neg c21] at hr
          cases hr
          exact ⟨((gu2_other (fun e => ha (Or.inr (Or.inl (e))))).trans (gu2_other (fun e => ha (Or.inl (e))))), rfl⟩
  · rw [if_neg c15] at hr
    cases hr
    exact ⟨rfl, rfl⟩
theorem w_X1_takesVerse_21 {a : Nat} {z : gRs} {a0 : Nat} (ha : ¬ (a = a0 ∨ a = a0 + 6))  {v1 : Int32} {v2 : Int32} {I : Nat → Nat → Int32} {L : Nat → Nat → Int64} (hr : r_X1_takesVerse_21 a0 v1 v2 I L = some z) : z.2.1 a = I a ∧ z.2.2 a = L a := by
  unfold r_X1_takesVerse_21 at hr
  obtain ⟨b11, hr⟩ := gopt hr
  cases hr
  exact ⟨(gite ((gu2_other (fun e => ha (Or.inl (e)))).trans (gu2_other (fun e => ha (Or.inr (e))))) ((gu2_other (fun e => ha (Or.inl (e)))).trans ((gu2_other (fun e => ha (Or.inl (e)))).trans ((gu2_other (fun e => ha (Or.inl (e)))).trans (gu2_other (fun e => ha (Or.inr (e)))))))), rfl⟩
theorem w_X1_takesVerse_19 {a : Nat} {z : gRs} {a0 : Nat} (ha : ¬ (a = a0 ∨ a = a0 + 6))   {I : Nat → Nat → Int32} {L : Nat → Nat → Int64} (hr : r_X1_takesVerse_19 a0  I L = some z) : z.2.1 a = I a ∧ z.2.2 a = L a := by
  unfold r_X1_takesVerse_19 at hr
  cases hr
  exact ⟨rfl, rfl⟩
theorem w_X1_takesVerse {a : Nat} {z : gRs} {I : Nat → Nat → Int32} {L : Nat → Nat → Int64} {a0 : Nat} {a1 : Int32} (ha : ¬ (a = a0 ∨ a = a0 + 6)) (hr : r_X1_takesVerse I L a0 a1 = some z) : z.2.1 a = I a ∧ z.2.2 a = L a := by
  unfold r_X1_takesVerse at hr
  by_cases c15 : (nI 8) ≤ (((I a0 3) * (nI 4)) + (I a0 12))
  · rw [if_pos c15] at hr
    have q := w_X1_takesVerse_19 (a := a) ha  hr
    exact ⟨q.1.trans rfl, q.2.trans rfl⟩
  · rw [if_neg c15] at hr
    by_cases c16 : a1 = (nI 45)
    · rw [if_pos c16] at hr
      have q := w_X1_takesVerse_21 (a := a) ha  hr
      exact ⟨q.1.trans rfl, q.2.trans rfl⟩
    · rw [if_neg c16] at hr
      by_cases c17 : ¬ (f_X1_isNote I L a1) = 0
      · rw [if_pos c17] at hr
        have q := w_X1_takesVerse_21 (a := a) ha  hr
        exact ⟨q.1.trans rfl, q.2.trans rfl⟩
      · rw [if_neg c17] at hr
        have q := w_X1_takesVerse_19 (a := a) ha  hr
        exact ⟨q.1.trans rfl, q.2.trans rfl⟩
theorem w_X1_goesOn {a : Nat} {z : gRs} {I : Nat → Nat → Int32} {L : Nat → Nat → Int64} {a0 : Nat} {a1 : Int32} (ha : ¬ (a = a0 ∨ a = a0 + 1 ∨ a = a0 + 2 ∨ a = a0 + 3 ∨ a = a0 + 4 ∨ a = a0 + 5 ∨ a = a0 + 6)) (hr : r_X1_goesOn I L a0 a1 = some z) : z.2.1 a = I a ∧ z.2.2 a = L a := by
  unfold r_X1_goesOn at hr
  by_cases c13 : (I a0 11) = (nI 66)
  · rw [if_pos c13] at hr
    obtain ⟨z14, hz14, hr⟩ := gbnd hr
    have fz14 := w_X1_takesBeast (a := a) (fun h => h.elim (fun e => ha (Or.inl (e))) (fun h => h.elim (fun e => ha (Or.inr (Or.inr (Or.inr (Or.inr (Or.inl (e))))))) (fun e => ha (Or.inr (Or.inr (Or.inr (Or.inr (Or.inr (Or.inl (e)))))))))) hz14
    obtain ⟨b15, hr⟩ := gopt hr
    cases hr
    exact ⟨fz14.1, fz14.2⟩
  · rw [if_neg c13] at hr
    by_cases c16 : (I a0 11) = (nI 71)
    · rw [if_pos c16] at hr
      obtain ⟨z17, hz17, hr⟩ := gbnd hr
      have fz17 := w_X1_takesGate (a := a) (fun h => h.elim (fun e => ha (Or.inl (e))) (fun h => h.elim (fun e => ha (Or.inr (Or.inl (e)))) (fun e => ha (Or.inr (Or.inr (Or.inl (e))))))) hz17
      obtain ⟨b18, hr⟩ := gopt hr
      cases hr
      exact ⟨fz17.1, fz17.2⟩
    · rw [if_neg c16] at hr
      by_cases c19 : (I a0 11) = (nI 76)
      · rw [if_pos c19] at hr
        obtain ⟨z20, hz20, hr⟩ := gbnd hr
        have fz20 := w_X1_takesLane (a := a) (fun h => h.elim (fun e => ha (Or.inl (e))) (fun e => ha (Or.inr (Or.inr (Or.inr (Or.inl (e))))))) hz20
        obtain ⟨b21, hr⟩ := gopt hr
        cases hr
        exact ⟨fz20.1, fz20.2⟩
      · rw [if_neg c19] at hr
        by_cases c22 : (I a0 11) = (nI 86)
        · rw [if_pos c22] at hr
          obtain ⟨z23, hz23, hr⟩ := gbnd hr
          have fz23 := w_X1_takesVerse (a := a) (fun h => h.elim (fun e => ha (Or.inl (e))) (fun e => ha (Or.inr (Or.inr (Or.inr (Or.inr (Or.inr (Or.inr (e))))))))) hz23
          obtain ⟨b24, hr⟩ := gopt hr
          cases hr
          exact ⟨fz23.1, fz23.2⟩
        · rw [if_neg c22] at hr
          cases hr
          exact ⟨rfl, rfl⟩
theorem w_X1_takes_23 {a : Nat} {z : gRs} {a0 : Nat} (ha : ¬ (a = a0 ∨ a = a0 + 1 ∨ a = a0 + 2 ∨ a = a0 + 3 ∨ a = a0 + 4 ∨ a = a0 + 5 ∨ a = a0 + 6))   {I : Nat → Nat → Int32} {L : Nat → Nat → Int64} (hr : r_X1_takes_23 a0  I L = some z) : z.2.1 a = I a ∧ z.2.2 a = L a := by
  unfold r_X1_takes_23 at hr
  cases hr
  exact ⟨rfl, rfl⟩
theorem w_X1_takes_8 {a : Nat} {z : gRs} {a0 : Nat} (ha : ¬ (a = a0 ∨ a = a0 + 1 ∨ a = a0 + 2 ∨ a = a0 + 3 ∨ a = a0 + 4 ∨ a = a0 + 5 ∨ a = a0 + 6))  {s0 : Int32} {I : Nat → Nat → Int32} {L : Nat → Nat → Int64} (hr : r_X1_takes_8 a0 s0 I L = some z) : z.2.1 a = I a ∧ z.2.2 a = L a := by
  unfold r_X1_takes_8 at hr
  obtain ⟨b20, hr⟩ := gopt hr
  cases hr
  exact ⟨rfl, rfl⟩
theorem w_X1_takes {a : Nat} {z : gRs} {I : Nat → Nat → Int32} {L : Nat → Nat → Int64} {a0 : Nat} {a1 : Int32} {a2 : Int32} (ha : ¬ (a = a0 ∨ a = a0 + 1 ∨ a = a0 + 2 ∨ a = a0 + 3 ∨ a = a0 + 4 ∨ a = a0 + 5 ∨ a = a0 + 6)) (hr : r_X1_takes I L a0 a1 a2 = some z) : z.2.1 a = I a ∧ z.2.2 a = L a := by
  unfold r_X1_takes at hr
  by_cases c21 : ¬ a2 = 0
  · rw [if_pos c21] at hr
    by_cases c22 : ¬ a2 = (nI 1)
    · rw [if_pos c22] at hr
      by_cases c23 : ¬ (I a0 11) = 0
      · rw [if_pos c23] at hr
        obtain ⟨z24, hz24, hr⟩ := gbnd hr
        have fz24 := w_X1_goesOn (a := a) (fun h => h.elim (fun e => ha (Or.inl (e))) (fun h => h.elim (fun e => ha (Or.inr (Or.inl (e)))) (fun h => h.elim (fun e => ha (Or.inr (Or.inr (Or.inl (e))))) (fun h => h.elim (fun e => ha (Or.inr (Or.inr (Or.inr (Or.inl (e)))))) (fun h => h.elim (fun e => ha (Or.inr (Or.inr (Or.inr (Or.inr (Or.inl (e))))))) (fun h => h.elim (fun e => ha (Or.inr (Or.inr (Or.inr (Or.inr (Or.inr (Or.inl (e)))))))) (fun e => ha (Or.inr (Or.inr (Or.inr (Or.inr (Or.inr (Or.inr (e)))))))))))))) hz24
        obtain ⟨b25, hr⟩ := gopt hr
        cases hr
        exact ⟨fz24.1, fz24.2⟩
      · rw [if_neg c23] at hr
        obtain ⟨b26, hr⟩ := gopt hr
        cases hr
        exact ⟨((gu2_other (fun e => ha (Or.inl (e)))).trans (gu2_other (fun e => ha (Or.inl (e))))), rfl⟩
    · rw [if_neg c22] at hr
      by_cases c27 : a1 = (nI 48)
      · rw [if_pos c27] at hr
        have q := w_X1_takes_23 (a := a) ha  hr
        exact ⟨q.1.trans (gu2_other (fun e => ha (Or.inl (e)))), q.2.trans rfl⟩
      · rw [if_neg c27] at hr
        by_cases c28 : ¬ a1 = (nI 49)
        · rw [if_pos c28] at hr
          cases hr
          exact ⟨(gu2_other (fun e => ha (Or.inl (e)))), rfl⟩
        · rw [if_neg c28] at hr
          have q := w_X1_takes_23 (a := a) ha  hr
          exact ⟨q.1.trans (gu2_other (fun e => ha (Or.inl (e)))), q.2.trans rfl⟩
  · rw [if_neg c21] at hr
    by_cases c29 : ¬ a1 = (nI 67)
    · rw [if_pos c29] at hr
      have q := w_X1_takes_8 (a := a) ha  hr
      exact ⟨q.1.trans rfl, q.2.trans rfl⟩
    · rw [if_neg c29] at hr
      have q := w_X1_takes_8 (a := a) ha  hr
      exact ⟨q.1.trans rfl, q.2.trans rfl⟩
theorem w_X1_read_35 {a : Nat} {z : gRs} {a0 : Nat} (ha : ¬ (a = a0 ∨ a = a0 + 1 ∨ a = a0 + 2 ∨ a = a0 + 3 ∨ a = a0 + 4 ∨ a = a0 + 5 ∨ a = a0 + 6))  {v2 : Int32} {I : Nat → Nat → Int32} {L : Nat → Nat → Int64} (hr : r_X1_read_35 a0 v2 I L = some z) : z.2.1 a = I a ∧ z.2.2 a = L a := by
  unfold r_X1_read_35 at hr
  cases hr
  exact ⟨rfl, rfl⟩
theorem w_X1_read_17 {a : Nat} {z : gRs} {a0 : Nat} (ha : ¬ (a = a0 ∨ a = a0 + 1 ∨ a = a0 + 2 ∨ a = a0 + 3 ∨ a = a0 + 4 ∨ a = a0 + 5 ∨ a = a0 + 6))  : ∀ {m : Nat} {v2 : Int32} {v3 : Int32} {I : Nat → Nat → Int32} {L : Nat → Nat → Int64}, r_X1_read_17 a0 m v2 v3 I L = some z → z.2.1 a = I a ∧ z.2.2 a = L a := by
  intro m
  induction m with
  | zero =>
    intro v2 v3 I L hr
    cases hr
  | succ m ih =>
    intro v2 v3 I L hr
    have hK17 : ∀ v2 v3 I L, r_X1_read_17 a0 m v2 v3 I L = some z → z.2.1 a = I a ∧ z.2.2 a = L a := fun v2 v3 I L hr => ih hr
    unfold r_X1_read_17 at hr
    by_cases c16 : v2 ≤ v3
    · rw [if_pos c16] at hr
      have q := w_X1_read_35 (a := a) ha  hr
      exact ⟨q.1.trans rfl, q.2.trans rfl⟩
    · rw [if_neg c16] at hr
      by_cases c17 : (nI 60) ≤ v3
      · rw [if_pos c17] at hr
        have q := w_X1_read_35 (a := a) ha  hr
        exact ⟨q.1.trans rfl, q.2.trans rfl⟩
      · rw [if_neg c17] at hr
        obtain ⟨b18, hr⟩ := gopt hr
        obtain ⟨z19, hz19, hr⟩ := gbnd hr
        have fz19 := w_X1_takes (a := a) (fun h => h.elim (fun e => ha (Or.inl (e))) (fun h => h.elim (fun e => ha (Or.inr (Or.inl (e)))) (fun h => h.elim (fun e => ha (Or.inr (Or.inr (Or.inl (e))))) (fun h => h.elim (fun e => ha (Or.inr (Or.inr (Or.inr (Or.inl (e)))))) (fun h => h.elim (fun e => ha (Or.inr (Or.inr (Or.inr (Or.inr (Or.inl (e))))))) (fun h => h.elim (fun e => ha (Or.inr (Or.inr (Or.inr (Or.inr (Or.inr (Or.inl (e)))))))) (fun e => ha (Or.inr (Or.inr (Or.inr (Or.inr (Or.inr (Or.inr (e)))))))))))))) hz19
        by_cases c20 : ¬ z19.1 = 0
        · rw [if_pos c20] at hr
          have q := hK17 _ _ _ _ hr
          exact ⟨q.1.trans fz19.1, q.2.trans fz19.2⟩
        · rw [if_neg c20] at hr
          cases hr
          exact ⟨fz19.1, fz19.2⟩
theorem w_X1_read {a : Nat} {z : gRs} {I : Nat → Nat → Int32} {L : Nat → Nat → Int64} {a0 : Nat} {a2 : Int32} (ha : ¬ (a = a0 ∨ a = a0 + 1 ∨ a = a0 + 2 ∨ a = a0 + 3 ∨ a = a0 + 4 ∨ a = a0 + 5 ∨ a = a0 + 6)) (hr : r_X1_read I L a0 a2 = some z) : z.2.1 a = I a ∧ z.2.2 a = L a := by
  unfold r_X1_read at hr
  have q := w_X1_read_17 (a := a) ha  hr
  exact ⟨q.1.trans ((gu2_other (fun e => ha (Or.inl (e)))).trans ((gu2_other (fun e => ha (Or.inl (e)))).trans ((gu2_other (fun e => ha (Or.inl (e)))).trans ((gu2_other (fun e => ha (Or.inl (e)))).trans (gu2_other (fun e => ha (Or.inl (e)))))))), q.2.trans rfl⟩
theorem w_X1_gatesOf_4 {a : Nat} {z : gRs} {a0 : Nat} (ha : ¬ (False))  : ∀ {m : Nat} {v1 : Int32} {v2 : Int32} {v3 : Int32} {I : Nat → Nat → Int32} {L : Nat → Nat → Int64}, r_X1_gatesOf_4 a0 m v1 v2 v3 I L = some z → z.2.1 a = I a ∧ z.2.2 a = L a := by
  intro m
  induction m with
  | zero =>
    intro v1 v2 v3 I L hr
    cases hr
  | succ m ih =>
    intro v1 v2 v3 I L hr
    have hK4 : ∀ v1 v2 v3 I L, r_X1_gatesOf_4 a0 m v1 v2 v3 I L = some z → z.2.1 a = I a ∧ z.2.2 a = L a := fun v1 v2 v3 I L hr => ih hr
    unfold r_X1_gatesOf_4 at hr
    by_cases c3 : (nI 3) ≤ v3
    · rw [if_pos c3] at hr
      cases hr
      exact ⟨rfl, rfl⟩
    · rw [if_neg c3] at hr
      obtain ⟨b4, hr⟩ := gopt hr
      have q := hK4 _ _ _ _ _ hr
      exact ⟨q.1.trans rfl, q.2.trans rfl⟩
theorem w_X1_gatesOf {a : Nat} {z : gRs} {I : Nat → Nat → Int32} {L : Nat → Nat → Int64} {a0 : Nat} {a1 : Int32} (ha : ¬ (False)) (hr : r_X1_gatesOf I L a0 a1 = some z) : z.2.1 a = I a ∧ z.2.2 a = L a := by
  unfold r_X1_gatesOf at hr
  have q := w_X1_gatesOf_4 (a := a) ha  hr
  exact ⟨q.1.trans rfl, q.2.trans rfl⟩
theorem w_X1_lanesWith_4 {a : Nat} {z : gRs} {a0 : Nat} (ha : ¬ (False))  : ∀ {m : Nat} {v1 : Int32} {v2 : Int32} {v3 : Int32} {I : Nat → Nat → Int32} {L : Nat → Nat → Int64}, r_X1_lanesWith_4 a0 m v1 v2 v3 I L = some z → z.2.1 a = I a ∧ z.2.2 a = L a := by
  intro m
  induction m with
  | zero =>
    intro v1 v2 v3 I L hr
    cases hr
  | succ m ih =>
    intro v1 v2 v3 I L hr
    have hK4 : ∀ v1 v2 v3 I L, r_X1_lanesWith_4 a0 m v1 v2 v3 I L = some z → z.2.1 a = I a ∧ z.2.2 a = L a := fun v1 v2 v3 I L hr => ih hr
    unfold r_X1_lanesWith_4 at hr
    by_cases c3 : (I a0 1) ≤ v3
    · rw [if_pos c3] at hr
      cases hr
      exact ⟨rfl, rfl⟩
    · rw [if_neg c3] at hr
      obtain ⟨z4, hz4, hr⟩ := gbnd hr
      have fz4 := w_X1_gatesOf (a := a) (fun e => e) hz4
      have q := hK4 _ _ _ _ _ hr
      exact ⟨q.1.trans fz4.1, q.2.trans fz4.2⟩
theorem w_X1_lanesWith {a : Nat} {z : gRs} {I : Nat → Nat → Int32} {L : Nat → Nat → Int64} {a0 : Nat} {a1 : Int32} (ha : ¬ (False)) (hr : r_X1_lanesWith I L a0 a1 = some z) : z.2.1 a = I a ∧ z.2.2 a = L a := by
  unfold r_X1_lanesWith at hr
  have q := w_X1_lanesWith_4 (a := a) ha  hr
  exact ⟨q.1.trans rfl, q.2.trans rfl⟩
theorem w_X1_verseBits_4 {a : Nat} {z : gRs} {a0 : Nat} (ha : ¬ (False))  : ∀ {m : Nat} {v1 : Int32} {v2 : Int32} {v3 : Int32} {I : Nat → Nat → Int32} {L : Nat → Nat → Int64}, r_X1_verseBits_4 a0 m v1 v2 v3 I L = some z → z.2.1 a = I a ∧ z.2.2 a = L a := by
  intro m
  induction m with
  | zero =>
    intro v1 v2 v3 I L hr
    cases hr
  | succ m ih =>
    intro v1 v2 v3 I L hr
    have hK4 : ∀ v1 v2 v3 I L, r_X1_verseBits_4 a0 m v1 v2 v3 I L = some z → z.2.1 a = I a ∧ z.2.2 a = L a := fun v1 v2 v3 I L hr => ih hr
    unfold r_X1_verseBits_4 at hr
    by_cases c3 : (nI 4) ≤ v3
    · rw [if_pos c3] at hr
      cases hr
      exact ⟨rfl, rfl⟩
    · rw [if_neg c3] at hr
      obtain ⟨b4, hr⟩ := gopt hr
      have q := hK4 _ _ _ _ _ hr
      exact ⟨q.1.trans rfl, q.2.trans rfl⟩
theorem w_X1_verseBits {a : Nat} {z : gRs} {I : Nat → Nat → Int32} {L : Nat → Nat → Int64} {a0 : Nat} {a1 : Int32} (ha : ¬ (False)) (hr : r_X1_verseBits I L a0 a1 = some z) : z.2.1 a = I a ∧ z.2.2 a = L a := by
  unfold r_X1_verseBits at hr
  have q := w_X1_verseBits_4 (a := a) ha  hr
  exact ⟨q.1.trans rfl, q.2.trans rfl⟩
theorem w_J9_floorMod_7cf53_14 {a : Nat} {z : gRs}  (ha : ¬ (False))  {v2 : Int32} {I : Nat → Nat → Int32} {L : Nat → Nat → Int64} (hr : r_J9_floorMod_7cf53_14  v2 I L = some z) : z.2.1 a = I a ∧ z.2.2 a = L a := by
  unfold r_J9_floorMod_7cf53_14 at hr
  cases hr
  exact ⟨rfl, rfl⟩
theorem w_J9_floorMod_7cf53 {a : Nat} {z : gRs} {I : Nat → Nat → Int32} {L : Nat → Nat → Int64} {a0 : Int32} {a1 : Int32} (ha : ¬ (False)) (hr : r_J9_floorMod_7cf53 I L a0 a1 = some z) : z.2.1 a = I a ∧ z.2.2 a = L a := by
  unfold r_J9_floorMod_7cf53 at hr
  obtain ⟨b7, hr⟩ := gopt hr
  by_cases c8 : 0 ≤ (a0 ^^^ a1)
  · rw [if_pos c8] at hr
    have q := w_J9_floorMod_7cf53_14 (a := a) ha  hr
    exact ⟨q.1.trans rfl, q.2.trans rfl⟩
  · rw [if_neg c8] at hr
    by_cases c9 : (grem a0 a1) = 0
    · rw [if_pos c9] at hr
      have q := w_J9_floorMod_7cf53_14 (a := a) ha  hr
      exact ⟨q.1.trans rfl, q.2.trans rfl⟩
    · rw [if_neg c9] at hr
      cases hr
      exact ⟨rfl, rfl⟩
theorem w_X1_toneBy_37 {a : Nat} {z : gRs} {a0 : Nat} {a1 : Nat} (ha : ¬ (False))  {v2 : Int32} {v4 : Int32} {s0 : Int32} {s1 : Int32} {s2 : Int32} {I : Nat → Nat → Int32} {L : Nat → Nat → Int64} (hr : r_X1_toneBy_37 a0 a1 v2 v4 s0 s1 s2 I L = some z) : z.2.1 a = I a ∧ z.2.2 a = L a := by
  unfold r_X1_toneBy_37 at hr
  obtain ⟨b18, hr⟩ := gopt hr
  obtain ⟨b19, hr⟩ := gopt hr
  obtain ⟨z22, hz22, hr⟩ := gbnd hr
  have fz22 := w_J9_floorMod_7cf53 (a := a) (fun e => e) hz22
  cases hr
  exact ⟨fz22.1, fz22.2⟩
theorem w_X1_toneBy_25 {a : Nat} {z : gRs} {a0 : Nat} {a1 : Nat} (ha : ¬ (False))   {I : Nat → Nat → Int32} {L : Nat → Nat → Int64} (hr : r_X1_toneBy_25 a0 a1  I L = some z) : z.2.1 a = I a ∧ z.2.2 a = L a := by
  unfold r_X1_toneBy_25 at hr
  cases hr
  exact ⟨rfl, rfl⟩
theorem w_X1_toneBy {a : Nat} {z : gRs} {I : Nat → Nat → Int32} {L : Nat → Nat → Int64} {a0 : Nat} {a1 : Nat} {a2 : Int32} {a3 : Int32} {a4 : Int32} (ha : ¬ (False)) (hr : r_X1_toneBy I L a0 a1 a2 a3 a4 = some z) : z.2.1 a = I a ∧ z.2.2 a = L a := by
  unfold r_X1_toneBy at hr
  obtain ⟨b25, hr⟩ := gopt hr
  by_cases c28 : ¬ (if ¬ (I (a0 + 2) (gx a2)) = (nI 3) then (nI 0) else (if (nI 5) ≤ a3 then (nI 0) else (nI 1))) = 0
  · rw [if_pos c28] at hr
    have q := w_X1_toneBy_25 (a := a) ha  hr
    exact ⟨q.1.trans rfl, q.2.trans rfl⟩
  · rw [if_neg c28] at hr
    by_cases c29 : ((gshr ((I a1 2) ||| (I a1 3)) a2) &&& (nI 1)) = 0
    · rw [if_pos c29] at hr
      by_cases c30 : ¬ a4 = (nI 3)
      · rw [if_pos c30] at hr
        have q := w_X1_toneBy_37 (a := a) ha  hr
        exact ⟨q.1.trans rfl, q.2.trans rfl⟩
      · rw [if_neg c30] at hr
        have q := w_X1_toneBy_37 (a := a) ha  hr
        exact ⟨q.1.trans rfl, q.2.trans rfl⟩
    · rw [if_neg c29] at hr
      have q := w_X1_toneBy_25 (a := a) ha  hr
      exact ⟨q.1.trans rfl, q.2.trans rfl⟩
theorem w_X6_add_16 {a : Nat} {z : gRs} {a0 : Nat} (ha : ¬ (a = a0 ∨ a = a0 + 1))   {I : Nat → Nat → Int32} {L : Nat → Nat → Int64} (hr : r_X6_add_16 a0  I L = some z) : z.2.1 a = I a ∧ z.2.2 a = L a := by
  unfold r_X6_add_16 at hr
  cases hr
  exact ⟨rfl, rfl⟩
theorem w_X6_add {a : Nat} {z : gRs} {I : Nat → Nat → Int32} {L : Nat → Nat → Int64} {a0 : Nat} {a1 : Int32} (ha : ¬ (a = a0 ∨ a = a0 + 1)) (hr : r_X6_add I L a0 a1 = some z) : z.2.1 a = I a ∧ z.2.2 a = L a := by
  unfold r_X6_add at hr
  by_cases c5 : (nI 12) ≤ (I a0 1)
  · rw [if_pos c5] at hr
    have q := w_X6_add_16 (a := a) ha  hr
    exact ⟨q.1.trans rfl, q.2.trans rfl⟩
  · rw [if_neg c5] at hr
    obtain ⟨b6, hr⟩ := gopt hr
    have q := w_X6_add_16 (a := a) ha  hr
    exact ⟨q.1.trans ((gu2_other (fun e => ha (Or.inl (e)))).trans (gu2_other (fun e => ha (Or.inr (e))))), q.2.trans rfl⟩
theorem w_X1_sing_64 {a : Nat} {z : gRs} {a0 : Nat} {a1 : Nat} {a4 : Nat} (ha : ¬ (a = a4 ∨ a = a4 + 1)) {K5 : Int32 → Int32 → Int32 → (Nat → Nat → Int32) → (Nat → Nat → Int64) → Option gRs} (hK5 : ∀ v2 v3 v5 I L, K5 v2 v3 v5 I L = some z → z.2.1 a = I a ∧ z.2.2 a = L a) {K42 : Int32 → Int32 → Int32 → Int32 → Int32 → Int32 → (Nat → Nat → Int32) → (Nat → Nat → Int64) → Option gRs} (hK42 : ∀ v2 v3 v5 v7 v8 v9 I L, K42 v2 v3 v5 v7 v8 v9 I L = some z → z.2.1 a = I a ∧ z.2.2 a = L a) {v2 : Int32} {v3 : Int32} {v5 : Int32} {v7 : Int32} {v8 : Int32} {v9 : Int32} {I : Nat → Nat → Int32} {L : Nat → Nat → Int64} (hr : r_X1_sing_64 a0 a1 a4 K5 K42 v2 v3 v5 v7 v8 v9 I L = some z) : z.2.1 a = I a ∧ z.2.2 a = L a := by
  unfold r_X1_sing_64 at hr
  have q := hK42 _ _ _ _ _ _ _ _ hr
  exact ⟨q.1.trans rfl, q.2.trans rfl⟩
theorem w_X1_sing_42 {a : Nat} {z : gRs} {a0 : Nat} {a1 : Nat} {a4 : Nat} (ha : ¬ (a = a4 ∨ a = a4 + 1)) {K5 : Int32 → Int32 → Int32 → (Nat → Nat → Int32) → (Nat → Nat → Int64) → Option gRs} (hK5 : ∀ v2 v3 v5 I L, K5 v2 v3 v5 I L = some z → z.2.1 a = I a ∧ z.2.2 a = L a) : ∀ {m : Nat} {v2 : Int32} {v3 : Int32} {v5 : Int32} {v7 : Int32} {v8 : Int32} {v9 : Int32} {I : Nat → Nat → Int32} {L : Nat → Nat → Int64}, r_X1_sing_42 a0 a1 a4 K5 m v2 v3 v5 v7 v8 v9 I L = some z → z.2.1 a = I a ∧ z.2.2 a = L a := by
  intro m
  induction m with
  | zero =>
    intro v2 v3 v5 v7 v8 v9 I L hr
    cases hr
  | succ m ih =>
    intro v2 v3 v5 v7 v8 v9 I L hr
    have hK42 : ∀ v2 v3 v5 v7 v8 v9 I L, r_X1_sing_42 a0 a1 a4 K5 m v2 v3 v5 v7 v8 v9 I L = some z → z.2.1 a = I a ∧ z.2.2 a = L a := fun v2 v3 v5 v7 v8 v9 I L hr => ih hr
    unfold r_X1_sing_42 at hr
    by_cases c34 : v8 ≤ v9
    · rw [if_pos c34] at hr
      have q := hK5 _ _ _ _ _ hr
      exact ⟨q.1.trans rfl, q.2.trans rfl⟩
    · rw [if_neg c34] at hr
      obtain ⟨z35, hz35, hr⟩ := gbnd hr
      have fz35 := w_X6_add (a := a) (fun h => h.elim (fun e => ha (Or.inl (e))) (fun e => ha (Or.inr (e)))) hz35
      obtain ⟨b36, hr⟩ := gopt hr
      by_cases c37 : ¬ (z35.2.1 (a0 + 5) (gx v2)) = (nI 1)
      · rw [if_pos c37] at hr
        have q := w_X1_sing_64 (a := a) ha hK5 hK42 hr
        exact ⟨q.1.trans fz35.1, q.2.trans fz35.2⟩
      · rw [if_neg c37] at hr
        by_cases c38 : v7 = (nI 12)
        · rw [if_pos c38] at hr
          have q := w_X1_sing_64 (a := a) ha hK5 hK42 hr
          exact ⟨q.1.trans fz35.1, q.2.trans fz35.2⟩
        · rw [if_neg c38] at hr
          obtain ⟨z39, hz39, hr⟩ := gbnd hr
          have fz39 := w_X6_add (a := a) (fun h => h.elim (fun e => ha (Or.inl (e))) (fun e => ha (Or.inr (e)))) hz39
          have q := w_X1_sing_64 (a := a) ha hK5 hK42 hr
          exact ⟨q.1.trans (fz39.1.trans fz35.1), q.2.trans (fz39.2.trans fz35.2)⟩
theorem w_X1_sing_39 {a : Nat} {z : gRs} {a0 : Nat} {a1 : Nat} {a4 : Nat} (ha : ¬ (a = a4 ∨ a = a4 + 1)) {K5 : Int32 → Int32 → Int32 → (Nat → Nat → Int32) → (Nat → Nat → Int64) → Option gRs} (hK5 : ∀ v2 v3 v5 I L, K5 v2 v3 v5 I L = some z → z.2.1 a = I a ∧ z.2.2 a = L a) {v2 : Int32} {v3 : Int32} {v5 : Int32} {v7 : Int32} {s0 : Int32} {I : Nat → Nat → Int32} {L : Nat → Nat → Int64} (hr : r_X1_sing_39 a0 a1 a4 K5 v2 v3 v5 v7 s0 I L = some z) : z.2.1 a = I a ∧ z.2.2 a = L a := by
  unfold r_X1_sing_39 at hr
  have q := w_X1_sing_42 (a := a) ha hK5 hr
  exact ⟨q.1.trans rfl, q.2.trans rfl⟩
theorem w_X1_sing_5 {a : Nat} {z : gRs} {a0 : Nat} {a1 : Nat} {a4 : Nat} (ha : ¬ (a = a4 ∨ a = a4 + 1))  : ∀ {m : Nat} {v2 : Int32} {v3 : Int32} {v5 : Int32} {I : Nat → Nat → Int32} {L : Nat → Nat → Int64}, r_X1_sing_5 a0 a1 a4 m v2 v3 v5 I L = some z → z.2.1 a = I a ∧ z.2.2 a = L a := by
  intro m
  induction m with
  | zero =>
    intro v2 v3 v5 I L hr
    cases hr
  | succ m ih =>
    intro v2 v3 v5 I L hr
    have hK5 : ∀ v2 v3 v5 I L, r_X1_sing_5 a0 a1 a4 m v2 v3 v5 I L = some z → z.2.1 a = I a ∧ z.2.2 a = L a := fun v2 v3 v5 I L hr => ih hr
    unfold r_X1_sing_5 at hr
    by_cases c40 : (nI 3) ≤ v5
    · rw [if_pos c40] at hr
      cases hr
      exact ⟨rfl, rfl⟩
    · rw [if_neg c40] at hr
      obtain ⟨b41, hr⟩ := gopt hr
      obtain ⟨b42, hr⟩ := gopt hr
      obtain ⟨b43, hr⟩ := gopt hr
      obtain ⟨z44, hz44, hr⟩ := gbnd hr
      have fz44 := w_X1_toneBy (a := a) (fun e => e) hz44
      obtain ⟨b45, hr⟩ := gopt hr
      by_cases c46 : ¬ (z44.2.1 (a0 + 2) (gx (I (a0 + 3) (gx ((v3 * (nI 3)) + v5))))) = (nI 1)
      · rw [if_pos c46] at hr
        have q := w_X1_sing_39 (a := a) ha hK5 hr
        exact ⟨q.1.trans fz44.1, q.2.trans fz44.2⟩
      · rw [if_neg c46] at hr
        have q := w_X1_sing_39 (a := a) ha hK5 hr
        exact ⟨q.1.trans fz44.1, q.2.trans fz44.2⟩
theorem w_X1_sing {a : Nat} {z : gRs} {I : Nat → Nat → Int32} {L : Nat → Nat → Int64} {a0 : Nat} {a1 : Nat} {a2 : Int32} {a3 : Int32} {a4 : Nat} (ha : ¬ (a = a4 ∨ a = a4 + 1)) (hr : r_X1_sing I L a0 a1 a2 a3 a4 = some z) : z.2.1 a = I a ∧ z.2.2 a = L a := by
  unfold r_X1_sing at hr
  have q := w_X1_sing_5 (a := a) ha  hr
  exact ⟨q.1.trans (gu2_other (fun e => ha (Or.inl (e)))), q.2.trans rfl⟩
theorem wi_X4_addSung {a : Nat} {I : Nat → Nat → Int32} {L : Nat → Nat → Int64} {a0 : Nat} {a1 : Int32} (ha : ¬ (a = a0)) : i_X4_addSung I L a0 a1 a = I a := (gu2_other (fun e => ha (e)))
theorem wl_X4_addSung {a : Nat} {I : Nat → Nat → Int32} {L : Nat → Nat → Int64} {a0 : Nat} {a1 : Int32} (ha : ¬ (a = a0)) : l_X4_addSung I L a0 a1 a = L a := (gu2_other (fun e => ha (e)))
theorem wi_X4_pass {a : Nat} {I : Nat → Nat → Int32} {L : Nat → Nat → Int64} {a0 : Nat} {a1 : Int32} (ha : ¬ (a = a0)) : i_X4_pass I L a0 a1 a = I a := (gite rfl (gu2_other (fun e => ha (e))))
theorem w_X1_sendHome_22 {a : Nat} {z : gRs} {a0 : Nat} {a1 : Nat} {a4 : Nat} (ha : ¬ (a = a1 ∨ a = a4 ∨ a = a4 + 1))  : ∀ {m : Nat} {v2 : Int32} {v3 : Int32} {v5 : Int32} {I : Nat → Nat → Int32} {L : Nat → Nat → Int64}, r_X1_sendHome_22 a0 a1 a4 m v2 v3 v5 I L = some z → z.2.1 a = I a ∧ z.2.2 a = L a := by
  intro m
  induction m with
  | zero =>
    intro v2 v3 v5 I L hr
    cases hr
  | succ m ih =>
    intro v2 v3 v5 I L hr
    have hK22 : ∀ v2 v3 v5 I L, r_X1_sendHome_22 a0 a1 a4 m v2 v3 v5 I L = some z → z.2.1 a = I a ∧ z.2.2 a = L a := fun v2 v3 v5 I L hr => ih hr
    unfold r_X1_sendHome_22 at hr
    by_cases c6 : (nI 3) ≤ v5
    · rw [if_pos c6] at hr
      cases hr
      exact ⟨(gu2_other (fun e => ha (Or.inl (e)))), rfl⟩
    · rw [if_neg c6] at hr
      obtain ⟨b7, hr⟩ := gopt hr
      have q := hK22 _ _ _ _ _ hr
      exact ⟨q.1.trans (wi_X4_pass (I := I) (L := L) (fun e => ha (Or.inl (e)))), q.2.trans rfl⟩
theorem w_X1_sendHome_8 {a : Nat} {z : gRs} {a0 : Nat} {a1 : Nat} {a4 : Nat} (ha : ¬ (a = a1 ∨ a = a4 ∨ a = a4 + 1))  : ∀ {m : Nat} {v2 : Int32} {v3 : Int32} {v5 : Int32} {I : Nat → Nat → Int32} {L : Nat → Nat → Int64}, r_X1_sendHome_8 a0 a1 a4 m v2 v3 v5 I L = some z → z.2.1 a = I a ∧ z.2.2 a = L a := by
  intro m
  induction m with
  | zero =>
    intro v2 v3 v5 I L hr
    cases hr
  | succ m ih =>
    intro v2 v3 v5 I L hr
    have hK8 : ∀ v2 v3 v5 I L, r_X1_sendHome_8 a0 a1 a4 m v2 v3 v5 I L = some z → z.2.1 a = I a ∧ z.2.2 a = L a := fun v2 v3 v5 I L hr => ih hr
    unfold r_X1_sendHome_8 at hr
    by_cases c8 : (I a4 1) ≤ v5
    · rw [if_pos c8] at hr
      have q := w_X1_sendHome_22 (a := a) ha  hr
      exact ⟨q.1.trans rfl, q.2.trans rfl⟩
    · rw [if_neg c8] at hr
      obtain ⟨b9, hr⟩ := gopt hr
      have q := hK8 _ _ _ _ _ hr
      exact ⟨q.1.trans (wi_X4_addSung (I := I) (L := L) (fun e => ha (Or.inl (e)))), q.2.trans (wl_X4_addSung (I := I) (L := L) (fun e => ha (Or.inl (e))))⟩
theorem w_X1_sendHome {a : Nat} {z : gRs} {I : Nat → Nat → Int32} {L : Nat → Nat → Int64} {a0 : Nat} {a1 : Nat} {a2 : Int32} {a3 : Int32} {a4 : Nat} (ha : ¬ (a = a1 ∨ a = a4 ∨ a = a4 + 1)) (hr : r_X1_sendHome I L a0 a1 a2 a3 a4 = some z) : z.2.1 a = I a ∧ z.2.2 a = L a := by
  unfold r_X1_sendHome at hr
  obtain ⟨z10, hz10, hr⟩ := gbnd hr
  have fz10 := w_X1_sing (a := a) (fun h => h.elim (fun e => ha (Or.inr (Or.inl (e)))) (fun e => ha (Or.inr (Or.inr (e))))) hz10
  have q := w_X1_sendHome_8 (a := a) ha  hr
  exact ⟨q.1.trans fz10.1, q.2.trans fz10.2⟩
theorem w_X1_fitBehind_27 {a : Nat} {z : gRs} {a0 : Nat} {a1 : Nat} {a2 : Nat} (ha : ¬ (False)) {K4 : Int32 → Int32 → Int32 → (Nat → Nat → Int32) → (Nat → Nat → Int64) → Option gRs} (hK4 : ∀ v3 v4 v5 I L, K4 v3 v4 v5 I L = some z → z.2.1 a = I a ∧ z.2.2 a = L a) {v3 : Int32} {v4 : Int32} {v5 : Int32} {s0 : Int32} {I : Nat → Nat → Int32} {L : Nat → Nat → Int64} (hr : r_X1_fitBehind_27 a0 a1 a2 K4 v3 v4 v5 s0 I L = some z) : z.2.1 a = I a ∧ z.2.2 a = L a := by
  unfold r_X1_fitBehind_27 at hr
  obtain ⟨b9, hr⟩ := gopt hr
  have q := hK4 _ _ _ _ _ hr
  exact ⟨q.1.trans rfl, q.2.trans rfl⟩
theorem w_X1_fitBehind_4 {a : Nat} {z : gRs} {a0 : Nat} {a1 : Nat} {a2 : Nat} (ha : ¬ (False))  : ∀ {m : Nat} {v3 : Int32} {v4 : Int32} {v5 : Int32} {I : Nat → Nat → Int32} {L : Nat → Nat → Int64}, r_X1_fitBehind_4 a0 a1 a2 m v3 v4 v5 I L = some z → z.2.1 a = I a ∧ z.2.2 a = L a := by
  intro m
  induction m with
  | zero =>
    intro v3 v4 v5 I L hr
    cases hr
  | succ m ih =>
    intro v3 v4 v5 I L hr
    have hK4 : ∀ v3 v4 v5 I L, r_X1_fitBehind_4 a0 a1 a2 m v3 v4 v5 I L = some z → z.2.1 a = I a ∧ z.2.2 a = L a := fun v3 v4 v5 I L hr => ih hr
    unfold r_X1_fitBehind_4 at hr
    by_cases c12 : (nI 4) ≤ v5
    · rw [if_pos c12] at hr
      cases hr
      exact ⟨rfl, rfl⟩
    · rw [if_neg c12] at hr
      by_cases c13 : (I a2 1) ≤ v5
      · rw [if_pos c13] at hr
        have q := w_X1_fitBehind_27 (a := a) ha hK4 hr
        exact ⟨q.1.trans rfl, q.2.trans rfl⟩
      · rw [if_neg c13] at hr
        obtain ⟨b14, hr⟩ := gopt hr
        have q := w_X1_fitBehind_27 (a := a) ha hK4 hr
        exact ⟨q.1.trans rfl, q.2.trans rfl⟩
theorem w_X1_fitBehind {a : Nat} {z : gRs} {I : Nat → Nat → Int32} {L : Nat → Nat → Int64} {a0 : Nat} {a1 : Nat} {a2 : Nat} {a3 : Int32} (ha : ¬ (False)) (hr : r_X1_fitBehind I L a0 a1 a2 a3 = some z) : z.2.1 a = I a ∧ z.2.2 a = L a := by
  unfold r_X1_fitBehind at hr
  have q := w_X1_fitBehind_4 (a := a) ha  hr
  exact ⟨q.1.trans rfl, q.2.trans rfl⟩
theorem w_X2_add_28 {a : Nat} {z : gRs}  (ha : ¬ (a = 40 ∨ a = 41 ∨ a = 42 ∨ a = 43))   {I : Nat → Nat → Int32} {L : Nat → Nat → Int64} (hr : r_X2_add_28   I L = some z) : z.2.1 a = I a ∧ z.2.2 a = L a := by
  unfold r_X2_add_28 at hr
  cases hr
  exact ⟨rfl, rfl⟩
theorem w_X2_add {a : Nat} {z : gRs} {I : Nat → Nat → Int32} {L : Nat → Nat → Int64} {a1 : Int32} {a2 : Int32} {a3 : Int32} (ha : ¬ (a = 40 ∨ a = 41 ∨ a = 42 ∨ a = 43)) (hr : r_X2_add I L a1 a2 a3 = some z) : z.2.1 a = I a ∧ z.2.2 a = L a := by
  unfold r_X2_add at hr
  by_cases c9 : (nI 6) ≤ (I 40 3)
  · rw [if_pos c9] at hr
    have q := w_X2_add_28 (a := a) ha  hr
    exact ⟨q.1.trans rfl, q.2.trans rfl⟩
  · rw [if_neg c9] at hr
    obtain ⟨b10, hr⟩ := gopt hr
    obtain ⟨b11, hr⟩ := gopt hr
    obtain ⟨b12, hr⟩ := gopt hr
    have q := w_X2_add_28 (a := a) ha  hr
    exact ⟨q.1.trans ((gu2_other (fun e => ha (Or.inl (e)))).trans ((gu2_other (fun e => ha (Or.inr (Or.inr (Or.inr (e)))))).trans ((gu2_other (fun e => ha (Or.inr (Or.inr (Or.inl (e)))))).trans (gu2_other (fun e => ha (Or.inr (Or.inl (e)))))))), q.2.trans rfl⟩
theorem w_X2_agrees_41 {a : Nat} {z : gRs} {a1 : Nat} {a2 : Nat} (ha : ¬ (False)) {K2 : Int32 → Int32 → Int32 → (Nat → Nat → Int32) → (Nat → Nat → Int64) → Option gRs} (hK2 : ∀ v3 v4 v5 I L, K2 v3 v4 v5 I L = some z → z.2.1 a = I a ∧ z.2.2 a = L a) {v3 : Int32} {v4 : Int32} {v5 : Int32} {I : Nat → Nat → Int32} {L : Nat → Nat → Int64} (hr : r_X2_agrees_41 a1 a2 K2 v3 v4 v5 I L = some z) : z.2.1 a = I a ∧ z.2.2 a = L a := by
  unfold r_X2_agrees_41 at hr
  have q := hK2 _ _ _ _ _ hr
  exact ⟨q.1.trans rfl, q.2.trans rfl⟩
theorem w_X2_agrees_21 {a : Nat} {z : gRs} {a1 : Nat} {a2 : Nat} (ha : ¬ (False)) {K2 : Int32 → Int32 → Int32 → (Nat → Nat → Int32) → (Nat → Nat → Int64) → Option gRs} (hK2 : ∀ v3 v4 v5 I L, K2 v3 v4 v5 I L = some z → z.2.1 a = I a ∧ z.2.2 a = L a) {v3 : Int32} {v4 : Int32} {v5 : Int32} {I : Nat → Nat → Int32} {L : Nat → Nat → Int64} (hr : r_X2_agrees_21 a1 a2 K2 v3 v4 v5 I L = some z) : z.2.1 a = I a ∧ z.2.2 a = L a := by
  unfold r_X2_agrees_21 at hr
  by_cases c26 : (nI 0) = 0
  · rw [if_pos c26] at hr
    have q := w_X2_agrees_41 (a := a) ha hK2 hr
    exact ⟨q.1.trans rfl, q.2.trans rfl⟩
  · rw [if_neg c26] at hr
    obtain ⟨b27, hr⟩ := gopt hr
    obtain ⟨z28, hz28, hr⟩ := gbnd hr
    have fz28 := w_X1_toneBy (a := a) (fun e => e) hz28
    obtain ⟨b29, hr⟩ := gopt hr
    by_cases c30 : z28.1 = (z28.2.1 43 (gx v5))
    · rw [if_pos c30] at hr
      have q := w_X2_agrees_41 (a := a) ha hK2 hr
      exact ⟨q.1.trans fz28.1, q.2.trans fz28.2⟩
    · rw [if_neg c30] at hr
      cases hr
      exact ⟨fz28.1, fz28.2⟩
theorem w_X2_agrees_2 {a : Nat} {z : gRs} {a1 : Nat} {a2 : Nat} (ha : ¬ (False))  : ∀ {m : Nat} {v3 : Int32} {v4 : Int32} {v5 : Int32} {I : Nat → Nat → Int32} {L : Nat → Nat → Int64}, r_X2_agrees_2 a1 a2 m v3 v4 v5 I L = some z → z.2.1 a = I a ∧ z.2.2 a = L a := by
  intro m
  induction m with
  | zero =>
    intro v3 v4 v5 I L hr
    cases hr
  | succ m ih =>
    intro v3 v4 v5 I L hr
    have hK2 : ∀ v3 v4 v5 I L, r_X2_agrees_2 a1 a2 m v3 v4 v5 I L = some z → z.2.1 a = I a ∧ z.2.2 a = L a := fun v3 v4 v5 I L hr => ih hr
    unfold r_X2_agrees_2 at hr
    by_cases c31 : (I 40 3) ≤ v5
    · rw [if_pos c31] at hr
      cases hr
      exact ⟨rfl, rfl⟩
    · rw [if_neg c31] at hr
      obtain ⟨b32, hr⟩ := gopt hr
      by_cases c33 : ¬ (I 41 (gx v5)) = v4
      · rw [if_pos c33] at hr
        have q := w_X2_agrees_21 (a := a) ha hK2 hr
        exact ⟨q.1.trans rfl, q.2.trans rfl⟩
      · rw [if_neg c33] at hr
        obtain ⟨b34, hr⟩ := gopt hr
        by_cases c35 : (f_X1_isGate I L a1 (I 42 (gx v5))) = 0
        · rw [if_pos c35] at hr
          have q := w_X2_agrees_21 (a := a) ha hK2 hr
          exact ⟨q.1.trans rfl, q.2.trans rfl⟩
        · rw [if_neg c35] at hr
          by_cases c36 : (nI 1) = 0
          · rw [if_pos c36] at hr
            have q := w_X2_agrees_41 (a := a) ha hK2 hr
            exact ⟨q.1.trans rfl, q.2.trans rfl⟩
          · rw [if_neg c36] at hr
            obtain ⟨b37, hr⟩ := gopt hr
            obtain ⟨z38, hz38, hr⟩ := gbnd hr
            have fz38 := w_X1_toneBy (a := a) (fun e => e) hz38
            obtain ⟨b39, hr⟩ := gopt hr
            by_cases c40 : z38.1 = (z38.2.1 43 (gx v5))
            · rw [if_pos c40] at hr
              have q := w_X2_agrees_41 (a := a) ha hK2 hr
              exact ⟨q.1.trans fz38.1, q.2.trans fz38.2⟩
            · rw [if_neg c40] at hr
              cases hr
              exact ⟨fz38.1, fz38.2⟩
theorem w_X2_agrees {a : Nat} {z : gRs} {I : Nat → Nat → Int32} {L : Nat → Nat → Int64} {a1 : Nat} {a2 : Nat} {a3 : Int32} {a4 : Int32} (ha : ¬ (False)) (hr : r_X2_agrees I L a1 a2 a3 a4 = some z) : z.2.1 a = I a ∧ z.2.2 a = L a := by
  unfold r_X2_agrees at hr
  have q := w_X2_agrees_2 (a := a) ha  hr
  exact ⟨q.1.trans rfl, q.2.trans rfl⟩
theorem w_X6_harmonyWith_42 {a : Nat} {z : gRs} {a0 : Nat} {a1 : Nat} (ha : ¬ (False)) {K10 : Int32 → Int32 → Int32 → (Nat → Nat → Int32) → (Nat → Nat → Int64) → Option gRs} (hK10 : ∀ v2 v3 v4 I L, K10 v2 v3 v4 I L = some z → z.2.1 a = I a ∧ z.2.2 a = L a) {v2 : Int32} {v3 : Int32} {v4 : Int32} {I : Nat → Nat → Int32} {L : Nat → Nat → Int64} (hr : r_X6_harmonyWith_42 a0 a1 K10 v2 v3 v4 I L = some z) : z.2.1 a = I a ∧ z.2.2 a = L a := by
  unfold r_X6_harmonyWith_42 at hr
  have q := hK10 _ _ _ _ _ hr
  exact ⟨q.1.trans rfl, q.2.trans rfl⟩
theorem w_X6_harmonyWith_10 {a : Nat} {z : gRs} {a0 : Nat} {a1 : Nat} (ha : ¬ (False))  : ∀ {m : Nat} {v2 : Int32} {v3 : Int32} {v4 : Int32} {I : Nat → Nat → Int32} {L : Nat → Nat → Int64}, r_X6_harmonyWith_10 a0 a1 m v2 v3 v4 I L = some z → z.2.1 a = I a ∧ z.2.2 a = L a := by
  intro m
  induction m with
  | zero =>
    intro v2 v3 v4 I L hr
    cases hr
  | succ m ih =>
    intro v2 v3 v4 I L hr
    have hK10 : ∀ v2 v3 v4 I L, r_X6_harmonyWith_10 a0 a1 m v2 v3 v4 I L = some z → z.2.1 a = I a ∧ z.2.2 a = L a := fun v2 v3 v4 I L hr => ih hr
    unfold r_X6_harmonyWith_10 at hr
    by_cases c15 : v2 ≤ v4
    · rw [if_pos c15] at hr
      cases hr
      exact ⟨rfl, rfl⟩
    · rw [if_neg c15] at hr
      obtain ⟨b16, hr⟩ := gopt hr
      by_cases c17 : (I (a0 + 1) (gx v4)) = (nI 12)
      · rw [if_pos c17] at hr
        have q := w_X6_harmonyWith_42 (a := a) ha hK10 hr
        exact ⟨q.1.trans rfl, q.2.trans rfl⟩
      · rw [if_neg c17] at hr
        obtain ⟨b18, hr⟩ := gopt hr
        by_cases c19 : (I (a1 + 1) (gx v4)) = (nI 12)
        · rw [if_pos c19] at hr
          have q := w_X6_harmonyWith_42 (a := a) ha hK10 hr
          exact ⟨q.1.trans rfl, q.2.trans rfl⟩
        · rw [if_neg c19] at hr
          obtain ⟨b20, hr⟩ := gopt hr
          obtain ⟨b21, hr⟩ := gopt hr
          have q := w_X6_harmonyWith_42 (a := a) ha hK10 hr
          exact ⟨q.1.trans rfl, q.2.trans rfl⟩
theorem w_X6_harmonyWith {a : Nat} {z : gRs} {I : Nat → Nat → Int32} {L : Nat → Nat → Int64} {a0 : Nat} {a1 : Nat} (ha : ¬ (False)) (hr : r_X6_harmonyWith I L a0 a1 = some z) : z.2.1 a = I a ∧ z.2.2 a = L a := by
  unfold r_X6_harmonyWith at hr
  have q := w_X6_harmonyWith_10 (a := a) ha  hr
  exact ⟨q.1.trans rfl, q.2.trans rfl⟩
theorem w_X6_toneCount_18 {a : Nat} {z : gRs} {a0 : Nat} (ha : ¬ (False)) {K4 : Int32 → Int32 → (Nat → Nat → Int32) → (Nat → Nat → Int64) → Option gRs} (hK4 : ∀ v1 v2 I L, K4 v1 v2 I L = some z → z.2.1 a = I a ∧ z.2.2 a = L a) {v2 : Int32} {s0 : Int32} {s1 : Int32} {I : Nat → Nat → Int32} {L : Nat → Nat → Int64} (hr : r_X6_toneCount_18 a0 K4 v2 s0 s1 I L = some z) : z.2.1 a = I a ∧ z.2.2 a = L a := by
  unfold r_X6_toneCount_18 at hr
  have q := hK4 _ _ _ _ hr
  exact ⟨q.1.trans rfl, q.2.trans rfl⟩
theorem w_X6_toneCount_4 {a : Nat} {z : gRs} {a0 : Nat} (ha : ¬ (False))  : ∀ {m : Nat} {v1 : Int32} {v2 : Int32} {I : Nat → Nat → Int32} {L : Nat → Nat → Int64}, r_X6_toneCount_4 a0 m v1 v2 I L = some z → z.2.1 a = I a ∧ z.2.2 a = L a := by
  intro m
  induction m with
  | zero =>
    intro v1 v2 I L hr
    cases hr
  | succ m ih =>
    intro v1 v2 I L hr
    have hK4 : ∀ v1 v2 I L, r_X6_toneCount_4 a0 m v1 v2 I L = some z → z.2.1 a = I a ∧ z.2.2 a = L a := fun v1 v2 I L hr => ih hr
    unfold r_X6_toneCount_4 at hr
    by_cases c7 : (I a0 1) ≤ v2
    · rw [if_pos c7] at hr
      cases hr
      exact ⟨rfl, rfl⟩
    · rw [if_neg c7] at hr
      obtain ⟨b8, hr⟩ := gopt hr
      by_cases c9 : (I (a0 + 1) (gx v2)) = (nI 12)
      · rw [if_pos c9] at hr
        have q := w_X6_toneCount_18 (a := a) ha hK4 hr
        exact ⟨q.1.trans rfl, q.2.trans rfl⟩
      · rw [if_neg c9] at hr
        have q := w_X6_toneCount_18 (a := a) ha hK4 hr
        exact ⟨q.1.trans rfl, q.2.trans rfl⟩
theorem w_X6_toneCount {a : Nat} {z : gRs} {I : Nat → Nat → Int32} {L : Nat → Nat → Int64} {a0 : Nat} (ha : ¬ (False)) (hr : r_X6_toneCount I L a0 = some z) : z.2.1 a = I a ∧ z.2.2 a = L a := by
  unfold r_X6_toneCount at hr
  have q := w_X6_toneCount_4 (a := a) ha  hr
  exact ⟨q.1.trans rfl, q.2.trans rfl⟩
theorem w_X3_isUnbroken {a : Nat} {z : gRs} {I : Nat → Nat → Int32} {L : Nat → Nat → Int64} {a0 : Nat} (ha : ¬ (False)) (hr : r_X3_isUnbroken I L a0 = some z) : z.2.1 a = I a ∧ z.2.2 a = L a := by
  unfold r_X3_isUnbroken at hr
  obtain ⟨z3, hz3, hr⟩ := gbnd hr
  have fz3 := w_X6_toneCount (a := a) (fun e => e) hz3
  cases hr
  exact ⟨fz3.1, fz3.2⟩
theorem w_X3_meet_42 {a : Nat} {z : gRs} {a2 : Nat} {a4 : Nat} (ha : ¬ (a = 51 ∨ a = 52))  {v5 : Int32} {v6 : Int32} {s1 : Int32} {s2 : Int32} {s3 : Int32} {I : Nat → Nat → Int32} {L : Nat → Nat → Int64} (hr : r_X3_meet_42 a2 a4 v5 v6 s1 s2 s3 I L = some z) : z.2.1 a = I a ∧ z.2.2 a = L a := by
  unfold r_X3_meet_42 at hr
  obtain ⟨b21, hr⟩ := gopt hr
  obtain ⟨z22, hz22, hr⟩ := gbnd hr
  have fz22 := w_X3_isUnbroken (a := a) (fun e => e) hz22
  obtain ⟨b24, hr⟩ := gopt hr
  cases hr
  exact ⟨((gu2_other (fun e => ha (Or.inr (e)))).trans (fz22.1.trans (gu2_other (fun e => ha (Or.inl (e)))))), fz22.2⟩
theorem w_X3_meet_13 {a : Nat} {z : gRs} {a2 : Nat} {a4 : Nat} (ha : ¬ (a = 51 ∨ a = 52))   {I : Nat → Nat → Int32} {L : Nat → Nat → Int64} (hr : r_X3_meet_13 a2 a4  I L = some z) : z.2.1 a = I a ∧ z.2.2 a = L a := by
  unfold r_X3_meet_13 at hr
  cases hr
  exact ⟨rfl, rfl⟩
theorem w_X3_meet {a : Nat} {z : gRs} {I : Nat → Nat → Int32} {L : Nat → Nat → Int64} {a1 : Int32} {a2 : Nat} {a3 : Int32} {a4 : Nat} (ha : ¬ (a = 51 ∨ a = 52)) (hr : r_X3_meet I L a1 a2 a3 a4 = some z) : z.2.1 a = I a ∧ z.2.2 a = L a := by
  unfold r_X3_meet at hr
  by_cases c26 : ((a1 * (nI 3)) + a3) < 0
  · rw [if_pos c26] at hr
    have q := w_X3_meet_13 (a := a) ha  hr
    exact ⟨q.1.trans rfl, q.2.trans rfl⟩
  · rw [if_neg c26] at hr
    by_cases c27 : ((a1 * (nI 3)) + a3) < (nI 9)
    · rw [if_pos c27] at hr
      by_cases c28 : ¬ a1 = a3
      · rw [if_pos c28] at hr
        obtain ⟨z29, hz29, hr⟩ := gbnd hr
        have fz29 := w_X6_harmonyWith (a := a) (fun e => e) hz29
        obtain ⟨z30, hz30, hr⟩ := gbnd hr
        have fz30 := w_X3_isUnbroken (a := a) (fun e => e) hz30
        by_cases c31 : z30.1 = 0
        · rw [if_pos c31] at hr
          have q := w_X3_meet_42 (a := a) ha  hr
          exact ⟨q.1.trans (fz30.1.trans fz29.1), q.2.trans (fz30.2.trans fz29.2)⟩
        · rw [if_neg c31] at hr
          have q := w_X3_meet_42 (a := a) ha  hr
          exact ⟨q.1.trans (fz30.1.trans fz29.1), q.2.trans (fz30.2.trans fz29.2)⟩
      · rw [if_neg c28] at hr
        obtain ⟨b32, hr⟩ := gopt hr
        obtain ⟨b33, hr⟩ := gopt hr
        cases hr
        exact ⟨((gu2_other (fun e => ha (Or.inr (e)))).trans (gu2_other (fun e => ha (Or.inl (e))))), rfl⟩
    · rw [if_neg c27] at hr
      have q := w_X3_meet_13 (a := a) ha  hr
      exact ⟨q.1.trans rfl, q.2.trans rfl⟩
theorem w_X3_isAtRest_37 {a : Nat} {z : gRs}  (ha : ¬ (False))   {I : Nat → Nat → Int32} {L : Nat → Nat → Int64} (hr : r_X3_isAtRest_37   I L = some z) : z.2.1 a = I a ∧ z.2.2 a = L a := by
  unfold r_X3_isAtRest_37 at hr
  cases hr
  exact ⟨rfl, rfl⟩
theorem w_X3_isAtRest_8 {a : Nat} {z : gRs}  (ha : ¬ (False))  : ∀ {m : Nat} {v1 : Int32} {v2 : Int32} {v3 : Int32} {v4 : Int32} {v5 : Int32} {I : Nat → Nat → Int32} {L : Nat → Nat → Int64}, r_X3_isAtRest_8  m v1 v2 v3 v4 v5 I L = some z → z.2.1 a = I a ∧ z.2.2 a = L a := by
  intro m
  induction m with
  | zero =>
    intro v1 v2 v3 v4 v5 I L hr
    cases hr
  | succ m ih =>
    intro v1 v2 v3 v4 v5 I L hr
    have hK8 : ∀ v1 v2 v3 v4 v5 I L, r_X3_isAtRest_8  m v1 v2 v3 v4 v5 I L = some z → z.2.1 a = I a ∧ z.2.2 a = L a := fun v1 v2 v3 v4 v5 I L hr => ih hr
    unfold r_X3_isAtRest_8 at hr
    by_cases c15 : v3 ≤ v5
    · rw [if_pos c15] at hr
      cases hr
      exact ⟨rfl, rfl⟩
    · rw [if_neg c15] at hr
      obtain ⟨b16, hr⟩ := gopt hr
      obtain ⟨b17, hr⟩ := gopt hr
      by_cases c18 : (I 51 (gx v4)) < (I 51 (gx ((v5 * (nI 3)) + v2)))
      · rw [if_pos c18] at hr
        have q := w_X3_isAtRest_37 (a := a) ha  hr
        exact ⟨q.1.trans rfl, q.2.trans rfl⟩
      · rw [if_neg c18] at hr
        obtain ⟨b19, hr⟩ := gopt hr
        obtain ⟨b20, hr⟩ := gopt hr
        by_cases c21 : (I 52 (gx ((v1 * (nI 3)) + v5))) ≤ (I 52 (gx v4))
        · rw [if_pos c21] at hr
          have q := hK8 _ _ _ _ _ _ _ hr
          exact ⟨q.1.trans rfl, q.2.trans rfl⟩
        · rw [if_neg c21] at hr
          have q := w_X3_isAtRest_37 (a := a) ha  hr
          exact ⟨q.1.trans rfl, q.2.trans rfl⟩
theorem w_X3_isAtRest {a : Nat} {z : gRs} {I : Nat → Nat → Int32} {L : Nat → Nat → Int64} {a1 : Int32} {a2 : Int32} {a3 : Int32} (ha : ¬ (False)) (hr : r_X3_isAtRest I L a1 a2 a3 = some z) : z.2.1 a = I a ∧ z.2.2 a = L a := by
  unfold r_X3_isAtRest at hr
  have q := w_X3_isAtRest_8 (a := a) ha  hr
  exact ⟨q.1.trans rfl, q.2.trans rfl⟩
theorem w_X3_settle_34 {a : Nat} {z : gRs}  (ha : ¬ (a = 50)) {K8 : Int32 → Int32 → (Nat → Nat → Int32) → (Nat → Nat → Int64) → Option gRs} (hK8 : ∀ v1 v2 I L, K8 v1 v2 I L = some z → z.2.1 a = I a ∧ z.2.2 a = L a) {K13 : Int32 → Int32 → Int32 → (Nat → Nat → Int32) → (Nat → Nat → Int64) → Option gRs} (hK13 : ∀ v1 v2 v3 I L, K13 v1 v2 v3 I L = some z → z.2.1 a = I a ∧ z.2.2 a = L a) {v1 : Int32} {v2 : Int32} {v3 : Int32} {s1 : Int32} {I : Nat → Nat → Int32} {L : Nat → Nat → Int64} (hr : r_X3_settle_34 K8 K13 v1 v2 v3 s1 I L = some z) : z.2.1 a = I a ∧ z.2.2 a = L a := by
  unfold r_X3_settle_34 at hr
  have q := hK13 _ _ _ _ _ hr
  exact ⟨q.1.trans ((gu2_other (fun e => ha (e))).trans (gu2_other (fun e => ha (e)))), q.2.trans rfl⟩
theorem w_X3_settle_13 {a : Nat} {z : gRs}  (ha : ¬ (a = 50)) {K8 : Int32 → Int32 → (Nat → Nat → Int32) → (Nat → Nat → Int64) → Option gRs} (hK8 : ∀ v1 v2 I L, K8 v1 v2 I L = some z → z.2.1 a = I a ∧ z.2.2 a = L a) : ∀ {m : Nat} {v1 : Int32} {v2 : Int32} {v3 : Int32} {I : Nat → Nat → Int32} {L : Nat → Nat → Int64}, r_X3_settle_13 K8 m v1 v2 v3 I L = some z → z.2.1 a = I a ∧ z.2.2 a = L a := by
  intro m
  induction m with
  | zero =>
    intro v1 v2 v3 I L hr
    cases hr
  | succ m ih =>
    intro v1 v2 v3 I L hr
    have hK13 : ∀ v1 v2 v3 I L, r_X3_settle_13 K8 m v1 v2 v3 I L = some z → z.2.1 a = I a ∧ z.2.2 a = L a := fun v1 v2 v3 I L hr => ih hr
    unfold r_X3_settle_13 at hr
    by_cases c11 : v1 ≤ v3
    · rw [if_pos c11] at hr
      have q := hK8 _ _ _ _ hr
      exact ⟨q.1.trans rfl, q.2.trans rfl⟩
    · rw [if_neg c11] at hr
      obtain ⟨z12, hz12, hr⟩ := gbnd hr
      have fz12 := w_X3_isAtRest (a := a) (fun e => e) hz12
      by_cases c13 : z12.1 = 0
      · rw [if_pos c13] at hr
        have q := hK13 _ _ _ _ _ hr
        exact ⟨q.1.trans fz12.1, q.2.trans fz12.2⟩
      · rw [if_neg c13] at hr
        by_cases c14 : ¬ (z12.2.1 50 2) = 0
        · rw [if_pos c14] at hr
          have q := w_X3_settle_34 (a := a) ha hK8 hK13 hr
          exact ⟨q.1.trans fz12.1, q.2.trans fz12.2⟩
        · rw [if_neg c14] at hr
          have q := w_X3_settle_34 (a := a) ha hK8 hK13 hr
          exact ⟨q.1.trans fz12.1, q.2.trans fz12.2⟩
theorem w_X3_settle_8 {a : Nat} {z : gRs}  (ha : ¬ (a = 50))  : ∀ {m : Nat} {v1 : Int32} {v2 : Int32} {I : Nat → Nat → Int32} {L : Nat → Nat → Int64}, r_X3_settle_8  m v1 v2 I L = some z → z.2.1 a = I a ∧ z.2.2 a = L a := by
  intro m
  induction m with
  | zero =>
    intro v1 v2 I L hr
    cases hr
  | succ m ih =>
    intro v1 v2 I L hr
    have hK8 : ∀ v1 v2 I L, r_X3_settle_8  m v1 v2 I L = some z → z.2.1 a = I a ∧ z.2.2 a = L a := fun v1 v2 I L hr => ih hr
    unfold r_X3_settle_8 at hr
    by_cases c15 : v1 ≤ v2
    · rw [if_pos c15] at hr
      cases hr
      exact ⟨rfl, rfl⟩
    · rw [if_neg c15] at hr
      have q := w_X3_settle_13 (a := a) ha hK8 hr
      exact ⟨q.1.trans rfl, q.2.trans rfl⟩
theorem w_X3_settle {a : Nat} {z : gRs} {I : Nat → Nat → Int32} {L : Nat → Nat → Int64} {a1 : Int32} (ha : ¬ (a = 50)) (hr : r_X3_settle I L a1 = some z) : z.2.1 a = I a ∧ z.2.2 a = L a := by
  unfold r_X3_settle at hr
  have q := w_X3_settle_8 (a := a) ha  hr
  exact ⟨q.1.trans ((gu2_other (fun e => ha (e))).trans (gu2_other (fun e => ha (e)))), q.2.trans rfl⟩
theorem wi_X4_setNote {a : Nat} {I : Nat → Nat → Int32} {L : Nat → Nat → Int64} {a0 : Nat} {a1 : Int32} {a2 : Int32} (ha : ¬ (a = a0)) : i_X4_setNote I L a0 a1 a2 a = I a := (gu2_other (fun e => ha (e)))
theorem w_X4_begin_5 {a : Nat} {z : gRs} {a0 : Nat} {a1 : Nat} (ha : ¬ (a = a0))  : ∀ {m : Nat} {v2 : Int32} {I : Nat → Nat → Int32} {L : Nat → Nat → Int64}, r_X4_begin_5 a0 a1 m v2 I L = some z → z.2.1 a = I a ∧ z.2.2 a = L a := by
  intro m
  induction m with
  | zero =>
    intro v2 I L hr
    cases hr
  | succ m ih =>
    intro v2 I L hr
    have hK5 : ∀ v2 I L, r_X4_begin_5 a0 a1 m v2 I L = some z → z.2.1 a = I a ∧ z.2.2 a = L a := fun v2 I L hr => ih hr
    unfold r_X4_begin_5 at hr
    by_cases c3 : (I a1 0) ≤ v2
    · rw [if_pos c3] at hr
      cases hr
      exact ⟨((gu2_other (fun e => ha (e))).trans ((gu2_other (fun e => ha (e))).trans ((gu2_other (fun e => ha (e))).trans ((gu2_other (fun e => ha (e))).trans ((gu2_other (fun e => ha (e))).trans (gu2_other (fun e => ha (e)))))))), (gu2_other (fun e => ha (e)))⟩
    · rw [if_neg c3] at hr
      obtain ⟨b4, hr⟩ := gopt hr
      have q := hK5 _ _ _ hr
      exact ⟨q.1.trans (wi_X4_setNote (I := I) (L := L) (fun e => ha (e))), q.2.trans rfl⟩
theorem w_X4_begin {a : Nat} {z : gRs} {I : Nat → Nat → Int32} {L : Nat → Nat → Int64} {a0 : Nat} {a1 : Nat} (ha : ¬ (a = a0)) (hr : r_X4_begin I L a0 a1 = some z) : z.2.1 a = I a ∧ z.2.2 a = L a := by
  unfold r_X4_begin at hr
  have q := w_X4_begin_5 (a := a) ha  hr
  exact ⟨q.1.trans (gu2_other (fun e => ha (e))), q.2.trans rfl⟩
theorem wi_X5_take {a : Nat} {I : Nat → Nat → Int32} {L : Nat → Nat → Int64} {a1 : Int32} {a2 : Int32} (ha : ¬ (a = 44)) : i_X5_take I L a1 a2 a = I a := (gite rfl ((gu2_other (fun e => ha (e))).trans (gu2_other (fun e => ha (e)))))
theorem w_X5_tryRows_83 {a : Nat} {z : gRs} {REC : (Nat → Nat → Int32) → (Nat → Nat → Int64) → Nat → Nat → Int32 → Int32 → Int32 → Option gRs} (hREC : ∀ {z : gRs} I L a1 a2 a3 a4 a5, REC I L a1 a2 a3 a4 a5 = some z → z.2.1 a = I a ∧ z.2.2 a = L a) {a1 : Nat} {a2 : Nat} (ha : ¬ (a = 44 ∨ a = 46 ∨ a = 47 ∨ (48 ≤ a ∧ a ≤ 49))) {K2 : Int32 → Int32 → Int32 → Int32 → (Nat → Nat → Int32) → (Nat → Nat → Int64) → Option gRs} (hK2 : ∀ v3 v4 v5 v6 I L, K2 v3 v4 v5 v6 I L = some z → z.2.1 a = I a ∧ z.2.2 a = L a) {v3 : Int32} {v4 : Int32} {v5 : Int32} {v6 : Int32} {I : Nat → Nat → Int32} {L : Nat → Nat → Int64} (hr : r_X5_tryRows_83 REC a1 a2 K2 v3 v4 v5 v6 I L = some z) : z.2.1 a = I a ∧ z.2.2 a = L a := by
  unfold r_X5_tryRows_83 at hr
  have q := hK2 _ _ _ _ _ _ hr
  exact ⟨q.1.trans rfl, q.2.trans rfl⟩
theorem w_X5_tryRows_81 {a : Nat} {z : gRs} {REC : (Nat → Nat → Int32) → (Nat → Nat → Int64) → Nat → Nat → Int32 → Int32 → Int32 → Option gRs} (hREC : ∀ {z : gRs} I L a1 a2 a3 a4 a5, REC I L a1 a2 a3 a4 a5 = some z → z.2.1 a = I a ∧ z.2.2 a = L a) {a1 : Nat} {a2 : Nat} (ha : ¬ (a = 44 ∨ a = 46 ∨ a = 47 ∨ (48 ≤ a ∧ a ≤ 49))) {K2 : Int32 → Int32 → Int32 → Int32 → (Nat → Nat → Int32) → (Nat → Nat → Int64) → Option gRs} (hK2 : ∀ v3 v4 v5 v6 I L, K2 v3 v4 v5 v6 I L = some z → z.2.1 a = I a ∧ z.2.2 a = L a) {K13 : Int32 → Int32 → Int32 → Int32 → Int32 → (Nat → Nat → Int32) → (Nat → Nat → Int64) → Option gRs} (hK13 : ∀ v3 v4 v5 v6 v7 I L, K13 v3 v4 v5 v6 v7 I L = some z → z.2.1 a = I a ∧ z.2.2 a = L a) {v3 : Int32} {v4 : Int32} {v5 : Int32} {v6 : Int32} {v7 : Int32} {I : Nat → Nat → Int32} {L : Nat → Nat → Int64} (hr : r_X5_tryRows_81 REC a1 a2 K2 K13 v3 v4 v5 v6 v7 I L = some z) : z.2.1 a = I a ∧ z.2.2 a = L a := by
  unfold r_X5_tryRows_81 at hr
  have q := hK13 _ _ _ _ _ _ _ hr
  exact ⟨q.1.trans rfl, q.2.trans rfl⟩
theorem w_X5_tryRows_13 {a : Nat} {z : gRs} {REC : (Nat → Nat → Int32) → (Nat → Nat → Int64) → Nat → Nat → Int32 → Int32 → Int32 → Option gRs} (hREC : ∀ {z : gRs} I L a1 a2 a3 a4 a5, REC I L a1 a2 a3 a4 a5 = some z → z.2.1 a = I a ∧ z.2.2 a = L a) {a1 : Nat} {a2 : Nat} (ha : ¬ (a = 44 ∨ a = 46 ∨ a = 47 ∨ (48 ≤ a ∧ a ≤ 49))) {K2 : Int32 → Int32 → Int32 → Int32 → (Nat → Nat → Int32) → (Nat → Nat → Int64) → Option gRs} (hK2 : ∀ v3 v4 v5 v6 I L, K2 v3 v4 v5 v6 I L = some z → z.2.1 a = I a ∧ z.2.2 a = L a) : ∀ {m : Nat} {v3 : Int32} {v4 : Int32} {v5 : Int32} {v6 : Int32} {v7 : Int32} {I : Nat → Nat → Int32} {L : Nat → Nat → Int64}, r_X5_tryRows_13 REC a1 a2 K2 m v3 v4 v5 v6 v7 I L = some z → z.2.1 a = I a ∧ z.2.2 a = L a := by
  intro m
  induction m with
  | zero =>
    intro v3 v4 v5 v6 v7 I L hr
    cases hr
  | succ m ih =>
    intro v3 v4 v5 v6 v7 I L hr
    have hK13 : ∀ v3 v4 v5 v6 v7 I L, r_X5_tryRows_13 REC a1 a2 K2 m v3 v4 v5 v6 v7 I L = some z → z.2.1 a = I a ∧ z.2.2 a = L a := fun v3 v4 v5 v6 v7 I L hr => ih hr
    unfold r_X5_tryRows_13 at hr
    by_cases c31 : (I a1 1) ≤ v7
    · rw [if_pos c31] at hr
      have q := w_X5_tryRows_83 (a := a) hREC ha hK2 hr
      exact ⟨q.1.trans rfl, q.2.trans rfl⟩
    · rw [if_neg c31] at hr
      by_cases c32 : (nI 4) ≤ (I 44 2)
      · rw [if_pos c32] at hr
        have q := w_X5_tryRows_83 (a := a) hREC ha hK2 hr
        exact ⟨q.1.trans rfl, q.2.trans rfl⟩
      · rw [if_neg c32] at hr
        by_cases c33 : (nI 1) < v4
        · rw [if_pos c33] at hr
          obtain ⟨b34, hr⟩ := gopt hr
          obtain ⟨z35, hz35, hr⟩ := gbnd hr
          have fz35 := w_X1_sendHome (a := a) (fun h => h.elim (fun e => ha (Or.inr (Or.inr (Or.inr ((by have := gx_lt (gvp_in b34); omega)))))) (fun h => h.elim (fun e => ha (Or.inr (Or.inl (e)))) (fun e => ha (Or.inr (Or.inr (Or.inl (e))))))) hz35
          obtain ⟨z36, hz36, hr⟩ := gbnd hr
          have fz36 := hREC _ _ _ _ _ _ _ hz36
          have q := w_X5_tryRows_81 (a := a) hREC ha hK2 hK13 hr
          exact ⟨q.1.trans (fz36.1.trans (fz35.1.trans (wi_X4_become (I := I) (L := L) (fun e => ha (Or.inr (Or.inr (Or.inr ((by have := gx_lt (gvp_in b34); omega))))))))), q.2.trans (fz36.2.trans (fz35.2.trans (wl_X4_become (I := I) (L := L) (fun e => ha (Or.inr (Or.inr (Or.inr ((by have := gx_lt (gvp_in b34); omega)))))))))⟩
        · rw [if_neg c33] at hr
          obtain ⟨z37, hz37, hr⟩ := gbnd hr
          have fz37 := w_X1_sing (a := a) (fun h => h.elim (fun e => ha (Or.inr (Or.inl (e)))) (fun e => ha (Or.inr (Or.inr (Or.inl (e)))))) hz37
          obtain ⟨z38, hz38, hr⟩ := gbnd hr
          have fz38 := w_X1_fitBehind (a := a) (fun e => e) hz38
          have q := w_X5_tryRows_81 (a := a) hREC ha hK2 hK13 hr
          exact ⟨q.1.trans ((wi_X5_take (I := z38.2.1) (L := z38.2.2) (fun e => ha (Or.inl (e)))).trans (fz38.1.trans fz37.1)), q.2.trans (fz38.2.trans fz37.2)⟩
theorem w_X5_tryRows_2 {a : Nat} {z : gRs} {REC : (Nat → Nat → Int32) → (Nat → Nat → Int64) → Nat → Nat → Int32 → Int32 → Int32 → Option gRs} (hREC : ∀ {z : gRs} I L a1 a2 a3 a4 a5, REC I L a1 a2 a3 a4 a5 = some z → z.2.1 a = I a ∧ z.2.2 a = L a) {a1 : Nat} {a2 : Nat} (ha : ¬ (a = 44 ∨ a = 46 ∨ a = 47 ∨ (48 ≤ a ∧ a ≤ 49)))  : ∀ {m : Nat} {v3 : Int32} {v4 : Int32} {v5 : Int32} {v6 : Int32} {I : Nat → Nat → Int32} {L : Nat → Nat → Int64}, r_X5_tryRows_2 REC a1 a2 m v3 v4 v5 v6 I L = some z → z.2.1 a = I a ∧ z.2.2 a = L a := by
  intro m
  induction m with
  | zero =>
    intro v3 v4 v5 v6 I L hr
    cases hr
  | succ m ih =>
    intro v3 v4 v5 v6 I L hr
    have hK2 : ∀ v3 v4 v5 v6 I L, r_X5_tryRows_2 REC a1 a2 m v3 v4 v5 v6 I L = some z → z.2.1 a = I a ∧ z.2.2 a = L a := fun v3 v4 v5 v6 I L hr => ih hr
    unfold r_X5_tryRows_2 at hr
    by_cases c39 : (I a1 2) ≤ v6
    · rw [if_pos c39] at hr
      cases hr
      exact ⟨rfl, rfl⟩
    · rw [if_neg c39] at hr
      by_cases c40 : (f_X4_isHome I L a2 v6) = 0
      · rw [if_pos c40] at hr
        have q := w_X5_tryRows_13 (a := a) hREC ha hK2 hr
        exact ⟨q.1.trans rfl, q.2.trans rfl⟩
      · rw [if_neg c40] at hr
        have q := w_X5_tryRows_83 (a := a) hREC ha hK2 hr
        exact ⟨q.1.trans rfl, q.2.trans rfl⟩
theorem w_X5_tryRows_e {a : Nat} {z : gRs} {REC : (Nat → Nat → Int32) → (Nat → Nat → Int64) → Nat → Nat → Int32 → Int32 → Int32 → Option gRs} (hREC : ∀ {z : gRs} I L a1 a2 a3 a4 a5, REC I L a1 a2 a3 a4 a5 = some z → z.2.1 a = I a ∧ z.2.2 a = L a) {I : Nat → Nat → Int32} {L : Nat → Nat → Int64} {a1 : Nat} {a2 : Nat} {a3 : Int32} {a4 : Int32} {a5 : Int32} (ha : ¬ (a = 44 ∨ a = 46 ∨ a = 47 ∨ (48 ≤ a ∧ a ≤ 49))) (hr : r_X5_tryRows_e REC I L a1 a2 a3 a4 a5 = some z) : z.2.1 a = I a ∧ z.2.2 a = L a := by
  unfold r_X5_tryRows_e at hr
  have q := w_X5_tryRows_2 (a := a) hREC ha  hr
  exact ⟨q.1.trans rfl, q.2.trans rfl⟩
theorem w_X5_tryRows_rec {a : Nat} (ha : ¬ (a = 44 ∨ a = 46 ∨ a = 47 ∨ (48 ≤ a ∧ a ≤ 49))) : ∀ (m : Nat) {z : gRs} (I : Nat → Nat → Int32) (L : Nat → Nat → Int64) (a1 a2 : Nat) (a3 a4 a5 : Int32), r_X5_tryRows_rec m I L a1 a2 a3 a4 a5 = some z → z.2.1 a = I a ∧ z.2.2 a = L a
  | 0, z, I, L, a1, a2, a3, a4, a5, hr => by cases hr
  | m + 1, z, I, L, a1, a2, a3, a4, a5, hr => w_X5_tryRows_e (fun I L a1 a2 a3 a4 a5 hr => w_X5_tryRows_rec ha m I L a1 a2 a3 a4 a5 hr) ha hr
theorem w_X5_tryRows {a : Nat} {z : gRs} {I : Nat → Nat → Int32} {L : Nat → Nat → Int64} {a1 a2 : Nat} {a3 a4 a5 : Int32} (ha : ¬ (a = 44 ∨ a = 46 ∨ a = 47 ∨ (48 ≤ a ∧ a ≤ 49))) (hr : r_X5_tryRows I L a1 a2 a3 a4 a5 = some z) : z.2.1 a = I a ∧ z.2.2 a = L a := w_X5_tryRows_rec ha 4 I L a1 a2 a3 a4 a5 hr
theorem w_X5_look {a : Nat} {z : gRs} {I : Nat → Nat → Int32} {L : Nat → Nat → Int64} {a1 : Nat} {a2 : Nat} {a3 : Int32} {a4 : Int32} (ha : ¬ (a = 44 ∨ a = 46 ∨ a = 47 ∨ (48 ≤ a ∧ a ≤ 49))) (hr : r_X5_look I L a1 a2 a3 a4 = some z) : z.2.1 a = I a ∧ z.2.2 a = L a := by
  unfold r_X5_look at hr
  obtain ⟨z2, hz2, hr⟩ := gbnd hr
  have fz2 := w_X5_tryRows (a := a) (fun h => h.elim (fun e => ha (Or.inl (e))) (fun h => h.elim (fun e => ha (Or.inr (Or.inl (e)))) (fun h => h.elim (fun e => ha (Or.inr (Or.inr (Or.inl (e))))) (fun e => ha (Or.inr (Or.inr (Or.inr (e)))))))) hz2
  cases hr
  exact ⟨(fz2.1.trans ((gu2_other (fun e => ha (Or.inl (e)))).trans (gu2_other (fun e => ha (Or.inl (e)))))), fz2.2⟩
theorem w_X6_toneBits_4 {a : Nat} {z : gRs} {a0 : Nat} (ha : ¬ (False))  : ∀ {m : Nat} {v1 : Int32} {v2 : Int32} {I : Nat → Nat → Int32} {L : Nat → Nat → Int64}, r_X6_toneBits_4 a0 m v1 v2 I L = some z → z.2.1 a = I a ∧ z.2.2 a = L a := by
  intro m
  induction m with
  | zero =>
    intro v1 v2 I L hr
    cases hr
  | succ m ih =>
    intro v1 v2 I L hr
    have hK4 : ∀ v1 v2 I L, r_X6_toneBits_4 a0 m v1 v2 I L = some z → z.2.1 a = I a ∧ z.2.2 a = L a := fun v1 v2 I L hr => ih hr
    unfold r_X6_toneBits_4 at hr
    by_cases c3 : (I a0 1) ≤ v2
    · rw [if_pos c3] at hr
      cases hr
      exact ⟨rfl, rfl⟩
    · rw [if_neg c3] at hr
      obtain ⟨b4, hr⟩ := gopt hr
      have q := hK4 _ _ _ _ hr
      exact ⟨q.1.trans rfl, q.2.trans rfl⟩
theorem w_X6_toneBits {a : Nat} {z : gRs} {I : Nat → Nat → Int32} {L : Nat → Nat → Int64} {a0 : Nat} (ha : ¬ (False)) (hr : r_X6_toneBits I L a0 = some z) : z.2.1 a = I a ∧ z.2.2 a = L a := by
  unfold r_X6_toneBits at hr
  have q := w_X6_toneBits_4 (a := a) ha  hr
  exact ⟨q.1.trans rfl, q.2.trans rfl⟩
theorem w_X7_write_5 {f g a : Nat} {z : gRs}  (ha : ¬ (a = 2 ∨ a = 3))   {I : Nat → Nat → Int32} {L : Nat → Nat → Int64} (hr : r_X7_write_5 f g  I L = some z) : z.2.1 a = I a ∧ z.2.2 a = L a := by
  unfold r_X7_write_5 at hr
  cases hr
  exact ⟨rfl, rfl⟩
theorem w_X7_write {f g a : Nat} {z : gRs} {I : Nat → Nat → Int32} {L : Nat → Nat → Int64} {a1 : Int32} (ha : ¬ (a = 2 ∨ a = 3)) (hr : r_X7_write f g I L a1 = some z) : z.2.1 a = I a ∧ z.2.2 a = L a := by
  unfold r_X7_write at hr
  by_cases c9 : a1 < 0
  · rw [if_pos c9] at hr
    have q := w_X7_write_5 (a := a) ha  hr
    exact ⟨q.1.trans rfl, q.2.trans rfl⟩
  · rw [if_neg c9] at hr
    by_cases c10 : a1 ≤ (nI 255)
    · rw [if_pos c10] at hr
      by_cases c11 : (I 2 1) < (nI 60)
      · rw [if_pos c11] at hr
        obtain ⟨b12, hr⟩ := gopt hr
        cases hr
        exact ⟨((gu2_other (fun e => ha (Or.inl (e)))).trans (gu2_other (fun e => ha (Or.inr (e))))), rfl⟩
      · rw [if_neg c11] at hr
        cases hr
        exact ⟨rfl, rfl⟩
    · rw [if_neg c10] at hr
      have q := w_X7_write_5 (a := a) ha  hr
      exact ⟨q.1.trans rfl, q.2.trans rfl⟩
theorem wi_X7_wipe {f g a : Nat} {I : Nat → Nat → Int32} {L : Nat → Nat → Int64}  (ha : ¬ (a = 2)) : i_X7_wipe f g I L  a = I a := (gu2_other (fun e => ha (e)))
theorem w_X7_fault {f g a : Nat} {z : gRs} {I : Nat → Nat → Int32} {L : Nat → Nat → Int64}  (ha : ¬ (a = g ∨ a = g + 1 ∨ a = g + 2 ∨ a = g + 3 ∨ a = g + 4 ∨ a = g + 5 ∨ a = g + 6)) (hr : r_X7_fault f g I L  = some z) : z.2.1 a = I a ∧ z.2.2 a = L a := by
  unfold r_X7_fault at hr
  obtain ⟨z2, hz2, hr⟩ := gbnd hr
  have fz2 := w_X1_read (a := a) (fun h => h.elim (fun e => ha (Or.inl (e))) (fun h => h.elim (fun e => ha (Or.inr (Or.inl (e)))) (fun h => h.elim (fun e => ha (Or.inr (Or.inr (Or.inl (e))))) (fun h => h.elim (fun e => ha (Or.inr (Or.inr (Or.inr (Or.inl (e)))))) (fun h => h.elim (fun e => ha (Or.inr (Or.inr (Or.inr (Or.inr (Or.inl (e))))))) (fun h => h.elim (fun e => ha (Or.inr (Or.inr (Or.inr (Or.inr (Or.inr (Or.inl (e)))))))) (fun e => ha (Or.inr (Or.inr (Or.inr (Or.inr (Or.inr (Or.inr (e)))))))))))))) hz2
  cases hr
  exact ⟨fz2.1, fz2.2⟩
theorem w_X7_fen_31 {f g a : Nat} {z : gRs}  (ha : ¬ (a = 18 ∨ a = 20 ∨ a = 39))  : ∀ {m : Nat} {v2 : Int32} {I : Nat → Nat → Int32} {L : Nat → Nat → Int64}, r_X7_fen_31 f g m v2 I L = some z → z.2.1 a = I a ∧ z.2.2 a = L a := by
  intro m
  induction m with
  | zero =>
    intro v2 I L hr
    cases hr
  | succ m ih =>
    intro v2 I L hr
    have hK31 : ∀ v2 I L, r_X7_fen_31 f g m v2 I L = some z → z.2.1 a = I a ∧ z.2.2 a = L a := fun v2 I L hr => ih hr
    unfold r_X7_fen_31 at hr
    by_cases c6 : (nI 2) ≤ v2
    · rw [if_pos c6] at hr
      cases hr
      exact ⟨rfl, rfl⟩
    · rw [if_neg c6] at hr
      obtain ⟨b7, hr⟩ := gopt hr
      have q := hK31 _ _ _ hr
      exact ⟨q.1.trans (gu2_other (fun e => ha (Or.inr (Or.inr (e))))), q.2.trans rfl⟩
theorem w_X7_fen_11 {f g a : Nat} {z : gRs}  (ha : ¬ (a = 18 ∨ a = 20 ∨ a = 39))   {I : Nat → Nat → Int32} {L : Nat → Nat → Int64} (hr : r_X7_fen_11 f g  I L = some z) : z.2.1 a = I a ∧ z.2.2 a = L a := by
  unfold r_X7_fen_11 at hr
  obtain ⟨z8, hz8, hr⟩ := gbnd hr
  have fz8 := w_X4_begin (a := a) (fun e => ha (Or.inl (e))) hz8
  have q := w_X7_fen_31 (a := a) ha  hr
  exact ⟨q.1.trans ((wi_X0_forgetAll (I := z8.2.1) (L := z8.2.2) (fun e => ha (Or.inr (Or.inl (e))))).trans fz8.1), q.2.trans fz8.2⟩
theorem w_X7_gate {f g a : Nat} {z : gRs} {I : Nat → Nat → Int32} {L : Nat → Nat → Int64} {a1 : Int32} {a2 : Int32} (ha : ¬ (False)) (hr : r_X7_gate f g I L a1 a2 = some z) : z.2.1 a = I a ∧ z.2.2 a = L a := by
  unfold r_X7_gate at hr
  by_cases c10 : ¬ (f_X1_isGate I L f a1) = 0
  · rw [if_pos c10] at hr
    by_cases c11 : a2 = (nI 0)
    · rw [if_pos c11] at hr
      cases hr
      exact ⟨rfl, rfl⟩
    · rw [if_neg c11] at hr
      by_cases c12 : a2 = (nI 1)
      · rw [if_pos c12] at hr
        obtain ⟨b13, hr⟩ := gopt hr
        cases hr
        exact ⟨rfl, rfl⟩
      · rw [if_neg c12] at hr
        by_cases c14 : a2 = (nI 2)
        · rw [if_pos c14] at hr
          cases hr
          exact ⟨rfl, rfl⟩
        · rw [if_neg c14] at hr
          by_cases c15 : a2 = (nI 3)
          · rw [if_pos c15] at hr
            cases hr
            exact ⟨rfl, rfl⟩
          · rw [if_neg c15] at hr
            by_cases c16 : a2 = (nI 4)
            · rw [if_pos c16] at hr
              cases hr
              exact ⟨rfl, rfl⟩
            · rw [if_neg c16] at hr
              by_cases c17 : a2 = (nI 5)
              · rw [if_pos c17] at hr
                obtain ⟨z18, hz18, hr⟩ := gbnd hr
                have fz18 := w_X1_lanesWith (a := a) (fun e => e) hz18
                cases hr
                exact ⟨fz18.1, fz18.2⟩
              · rw [if_neg c17] at hr
                cases hr
                exact ⟨rfl, rfl⟩
  · rw [if_neg c10] at hr
    cases hr
    exact ⟨rfl, rfl⟩
theorem w_X7_beast {f g a : Nat} {z : gRs} {I : Nat → Nat → Int32} {L : Nat → Nat → Int64} {a1 : Int32} {a2 : Int32} (ha : ¬ (False)) (hr : r_X7_beast f g I L a1 a2 = some z) : z.2.1 a = I a ∧ z.2.2 a = L a := by
  unfold r_X7_beast at hr
  by_cases c7 : ¬ (f_X1_isBeast I L f a1) = 0
  · rw [if_pos c7] at hr
    by_cases c8 : a2 = (nI 0)
    · rw [if_pos c8] at hr
      obtain ⟨b9, hr⟩ := gopt hr
      cases hr
      exact ⟨rfl, rfl⟩
    · rw [if_neg c8] at hr
      by_cases c10 : a2 = (nI 1)
      · rw [if_pos c10] at hr
        obtain ⟨b11, hr⟩ := gopt hr
        cases hr
        exact ⟨rfl, rfl⟩
      · rw [if_neg c10] at hr
        by_cases c12 : a2 = (nI 2)
        · rw [if_pos c12] at hr
          cases hr
          exact ⟨rfl, rfl⟩
        · rw [if_neg c12] at hr
          cases hr
          exact ⟨rfl, rfl⟩
  · rw [if_neg c7] at hr
    cases hr
    exact ⟨rfl, rfl⟩
theorem w_X7_tone_10 {f g a : Nat} {z : gRs}  (ha : ¬ (False))   {I : Nat → Nat → Int32} {L : Nat → Nat → Int64} (hr : r_X7_tone_10 f g  I L = some z) : z.2.1 a = I a ∧ z.2.2 a = L a := by
  unfold r_X7_tone_10 at hr
  cases hr
  exact ⟨rfl, rfl⟩
theorem w_X7_tone {f g a : Nat} {z : gRs} {I : Nat → Nat → Int32} {L : Nat → Nat → Int64} {a1 : Int32} {a2 : Int32} (ha : ¬ (False)) (hr : r_X7_tone f g I L a1 a2 = some z) : z.2.1 a = I a ∧ z.2.2 a = L a := by
  unfold r_X7_tone at hr
  by_cases c11 : (f_X1_isGate I L f a1) = 0
  · rw [if_pos c11] at hr
    have q := w_X7_tone_10 (a := a) ha  hr
    exact ⟨q.1.trans rfl, q.2.trans rfl⟩
  · rw [if_neg c11] at hr
    by_cases c12 : ¬ (f_X1_isBeast I L f a2) = 0
    · rw [if_pos c12] at hr
      obtain ⟨b13, hr⟩ := gopt hr
      obtain ⟨b14, hr⟩ := gopt hr
      obtain ⟨z15, hz15, hr⟩ := gbnd hr
      have fz15 := w_X1_toneBy (a := a) (fun e => e) hz15
      cases hr
      exact ⟨fz15.1, fz15.2⟩
    · rw [if_neg c12] at hr
      have q := w_X7_tone_10 (a := a) ha  hr
      exact ⟨q.1.trans rfl, q.2.trans rfl⟩
theorem w_X7_song_47 {f g a : Nat} {z : gRs}  (ha : ¬ (a = 53 ∨ a = 54))  {s0 : Int32} {I : Nat → Nat → Int32} {L : Nat → Nat → Int64} (hr : r_X7_song_47 f g s0 I L = some z) : z.2.1 a = I a ∧ z.2.2 a = L a := by
  unfold r_X7_song_47 at hr
  cases hr
  exact ⟨rfl, rfl⟩
theorem w_X7_song_17 {f g a : Nat} {z : gRs}  (ha : ¬ (a = 53 ∨ a = 54))   {I : Nat → Nat → Int32} {L : Nat → Nat → Int64} (hr : r_X7_song_17 f g  I L = some z) : z.2.1 a = I a ∧ z.2.2 a = L a := by
  unfold r_X7_song_17 at hr
  cases hr
  exact ⟨rfl, rfl⟩
theorem w_X7_song_10 {f g a : Nat} {z : gRs}  (ha : ¬ (a = 53 ∨ a = 54))   {I : Nat → Nat → Int32} {L : Nat → Nat → Int64} (hr : r_X7_song_10 f g  I L = some z) : z.2.1 a = I a ∧ z.2.2 a = L a := by
  unfold r_X7_song_10 at hr
  cases hr
  exact ⟨rfl, rfl⟩
theorem w_X7_song {f g a : Nat} {z : gRs} {I : Nat → Nat → Int32} {L : Nat → Nat → Int64} {a1 : Int32} {a2 : Int32} {a3 : Int32} (ha : ¬ (a = 53 ∨ a = 54)) (hr : r_X7_song f g I L a1 a2 a3 = some z) : z.2.1 a = I a ∧ z.2.2 a = L a := by
  unfold r_X7_song at hr
  by_cases c17 : (f_X1_isBeast I L f a1) = 0
  · rw [if_pos c17] at hr
    have q := w_X7_song_10 (a := a) ha  hr
    exact ⟨q.1.trans rfl, q.2.trans rfl⟩
  · rw [if_neg c17] at hr
    by_cases c18 : ¬ (f_X1_isLane I L f a2) = 0
    · rw [if_pos c18] at hr
      by_cases c19 : a3 < 0
      · rw [if_pos c19] at hr
        have q := w_X7_song_17 (a := a) ha  hr
        exact ⟨q.1.trans rfl, q.2.trans rfl⟩
      · rw [if_neg c19] at hr
        by_cases c20 : a3 ≤ (nI 12)
        · rw [if_pos c20] at hr
          obtain ⟨z21, hz21, hr⟩ := gbnd hr
          have fz21 := w_X1_sing (a := a) (fun h => h.elim (fun e => ha (Or.inl (e))) (fun e => ha (Or.inr (e)))) hz21
          by_cases c22 : ¬ a3 = (nI 12)
          · rw [if_pos c22] at hr
            by_cases c23 : (z21.2.1 53 1) ≤ a3
            · rw [if_pos c23] at hr
              have q := w_X7_song_47 (a := a) ha  hr
              exact ⟨q.1.trans fz21.1, q.2.trans fz21.2⟩
            · rw [if_neg c23] at hr
              obtain ⟨b24, hr⟩ := gopt hr
              have q := w_X7_song_47 (a := a) ha  hr
              exact ⟨q.1.trans fz21.1, q.2.trans fz21.2⟩
          · rw [if_neg c22] at hr
            cases hr
            exact ⟨fz21.1, fz21.2⟩
        · rw [if_neg c20] at hr
          have q := w_X7_song_17 (a := a) ha  hr
          exact ⟨q.1.trans rfl, q.2.trans rfl⟩
    · rw [if_neg c18] at hr
      have q := w_X7_song_10 (a := a) ha  hr
      exact ⟨q.1.trans rfl, q.2.trans rfl⟩
theorem w_X7_drive_10 {f g a : Nat} {z : gRs}  (ha : ¬ (a = 18 ∨ a = 20 ∨ a = 53 ∨ a = 54 ∨ (22 ≤ a ∧ a ≤ 35)))   {I : Nat → Nat → Int32} {L : Nat → Nat → Int64} (hr : r_X7_drive_10 f g  I L = some z) : z.2.1 a = I a ∧ z.2.2 a = L a := by
  unfold r_X7_drive_10 at hr
  cases hr
  exact ⟨rfl, rfl⟩
theorem w_X7_drive {f g a : Nat} {z : gRs} {I : Nat → Nat → Int32} {L : Nat → Nat → Int64} {a1 : Int32} {a2 : Int32} (ha : ¬ (a = 18 ∨ a = 20 ∨ a = 53 ∨ a = 54 ∨ (22 ≤ a ∧ a ≤ 35))) (hr : r_X7_drive f g I L a1 a2 = some z) : z.2.1 a = I a ∧ z.2.2 a = L a := by
  unfold r_X7_drive at hr
  by_cases c13 : (f_X1_isBeast I L f a1) = 0
  · rw [if_pos c13] at hr
    have q := w_X7_drive_10 (a := a) ha  hr
    exact ⟨q.1.trans rfl, q.2.trans rfl⟩
  · rw [if_neg c13] at hr
    by_cases c14 : ¬ (f_X1_isLane I L f a2) = 0
    · rw [if_pos c14] at hr
      by_cases c15 : (f_X4_isHome I L 18 a1) = 0
      · rw [if_pos c15] at hr
        obtain ⟨z16, hz16, hr⟩ := gbnd hr
        have fz16 := w_X0_add (a := a) (fun h => h.elim (fun e => ha (Or.inr (Or.inl (e)))) (fun e => ha (Or.inr (Or.inr (Or.inr (Or.inr (e))))))) hz16
        obtain ⟨z17, hz17, hr⟩ := gbnd hr
        have fz17 := w_X1_sendHome (a := a) (fun h => h.elim (fun e => ha (Or.inl (e))) (fun h => h.elim (fun e => ha (Or.inr (Or.inr (Or.inl (e))))) (fun e => ha (Or.inr (Or.inr (Or.inr (Or.inl (e)))))))) hz17
        obtain ⟨z18, hz18, hr⟩ := gbnd hr
        have fz18 := w_X6_toneCount (a := a) (fun e => e) hz18
        cases hr
        exact ⟨(fz18.1.trans (fz17.1.trans fz16.1)), (fz18.2.trans (fz17.2.trans fz16.2))⟩
      · rw [if_neg c15] at hr
        cases hr
        exact ⟨rfl, rfl⟩
    · rw [if_neg c14] at hr
      have q := w_X7_drive_10 (a := a) ha  hr
      exact ⟨q.1.trans rfl, q.2.trans rfl⟩
theorem w_X7_open {f g a : Nat} {z : gRs} {I : Nat → Nat → Int32} {L : Nat → Nat → Int64} {a1 : Int32} (ha : ¬ (a = 18 ∨ a = 20 ∨ (22 ≤ a ∧ a ≤ 35))) (hr : r_X7_open f g I L a1 = some z) : z.2.1 a = I a ∧ z.2.2 a = L a := by
  unfold r_X7_open at hr
  by_cases c3 : ¬ (f_X1_isGate I L f a1) = 0
  · rw [if_pos c3] at hr
    obtain ⟨z4, hz4, hr⟩ := gbnd hr
    have fz4 := w_X0_add (a := a) (fun h => h.elim (fun e => ha (Or.inr (Or.inl (e)))) (fun e => ha (Or.inr (Or.inr (e))))) hz4
    cases hr
    exact ⟨((gu2_other (fun e => ha (Or.inl (e)))).trans fz4.1), fz4.2⟩
  · rw [if_neg c3] at hr
    cases hr
    exact ⟨rfl, rfl⟩
theorem w_X7_oil {f g a : Nat} {z : gRs} {I : Nat → Nat → Int32} {L : Nat → Nat → Int64} {a1 : Int32} (ha : ¬ (a = 18 ∨ a = 20 ∨ (22 ≤ a ∧ a ≤ 35))) (hr : r_X7_oil f g I L a1 = some z) : z.2.1 a = I a ∧ z.2.2 a = L a := by
  unfold r_X7_oil at hr
  by_cases c3 : ¬ (f_X1_isGate I L f a1) = 0
  · rw [if_pos c3] at hr
    obtain ⟨z4, hz4, hr⟩ := gbnd hr
    have fz4 := w_X0_add (a := a) (fun h => h.elim (fun e => ha (Or.inr (Or.inl (e)))) (fun e => ha (Or.inr (Or.inr (e))))) hz4
    cases hr
    exact ⟨((gu2_other (fun e => ha (Or.inl (e)))).trans fz4.1), fz4.2⟩
  · rw [if_neg c3] at hr
    cases hr
    exact ⟨rfl, rfl⟩
theorem w_X7_hang_17 {f g a : Nat} {z : gRs}  (ha : ¬ (a = 18 ∨ a = 20 ∨ (22 ≤ a ∧ a ≤ 35)))  {v1 : Int32} {s0 : Int32} {I : Nat → Nat → Int32} {L : Nat → Nat → Int64} (hr : r_X7_hang_17 f g v1 s0 I L = some z) : z.2.1 a = I a ∧ z.2.2 a = L a := by
  unfold r_X7_hang_17 at hr
  obtain ⟨z8, hz8, hr⟩ := gbnd hr
  have fz8 := w_J9_floorMod_7cf53 (a := a) (fun e => e) hz8
  cases hr
  exact ⟨((wi_X4_setNote (I := z8.2.1) (L := z8.2.2) (fun e => ha (Or.inl (e)))).trans fz8.1), fz8.2⟩
theorem w_X7_hang {f g a : Nat} {z : gRs} {I : Nat → Nat → Int32} {L : Nat → Nat → Int64} {a1 : Int32} {a2 : Int32} (ha : ¬ (a = 18 ∨ a = 20 ∨ (22 ≤ a ∧ a ≤ 35))) (hr : r_X7_hang f g I L a1 a2 = some z) : z.2.1 a = I a ∧ z.2.2 a = L a := by
  unfold r_X7_hang at hr
  by_cases c9 : ¬ (f_X1_isGate I L f a1) = 0
  · rw [if_pos c9] at hr
    obtain ⟨z10, hz10, hr⟩ := gbnd hr
    have fz10 := w_X0_add (a := a) (fun h => h.elim (fun e => ha (Or.inr (Or.inl (e)))) (fun e => ha (Or.inr (Or.inr (e))))) hz10
    by_cases c11 : a2 = 0
    · rw [if_pos c11] at hr
      have q := w_X7_hang_17 (a := a) ha  hr
      exact ⟨q.1.trans fz10.1, q.2.trans fz10.2⟩
    · rw [if_neg c11] at hr
      have q := w_X7_hang_17 (a := a) ha  hr
      exact ⟨q.1.trans fz10.1, q.2.trans fz10.2⟩
  · rw [if_neg c9] at hr
    cases hr
    exact ⟨rfl, rfl⟩
theorem w_X7_turnOut {f g a : Nat} {z : gRs} {I : Nat → Nat → Int32} {L : Nat → Nat → Int64} {a1 : Int32} (ha : ¬ (a = 18 ∨ a = 20 ∨ (22 ≤ a ∧ a ≤ 35))) (hr : r_X7_turnOut f g I L a1 = some z) : z.2.1 a = I a ∧ z.2.2 a = L a := by
  unfold r_X7_turnOut at hr
  by_cases c4 : ¬ (f_X1_isBeast I L f a1) = 0
  · rw [if_pos c4] at hr
    by_cases c5 : ¬ (f_X4_isHome I L 18 a1) = 0
    · rw [if_pos c5] at hr
      obtain ⟨z6, hz6, hr⟩ := gbnd hr
      have fz6 := w_X0_add (a := a) (fun h => h.elim (fun e => ha (Or.inr (Or.inl (e)))) (fun e => ha (Or.inr (Or.inr (e))))) hz6
      cases hr
      exact ⟨((gu2_other (fun e => ha (Or.inl (e)))).trans fz6.1), fz6.2⟩
    · rw [if_neg c5] at hr
      cases hr
      exact ⟨rfl, rfl⟩
  · rw [if_neg c4] at hr
    cases hr
    exact ⟨rfl, rfl⟩
theorem w_X7_frost {f g a : Nat} {z : gRs} {I : Nat → Nat → Int32} {L : Nat → Nat → Int64}  (ha : ¬ (a = 18 ∨ a = 20 ∨ (22 ≤ a ∧ a ≤ 35))) (hr : r_X7_frost f g I L  = some z) : z.2.1 a = I a ∧ z.2.2 a = L a := by
  unfold r_X7_frost at hr
  obtain ⟨z2, hz2, hr⟩ := gbnd hr
  have fz2 := w_X0_add (a := a) (fun h => h.elim (fun e => ha (Or.inr (Or.inl (e)))) (fun e => ha (Or.inr (Or.inr (e))))) hz2
  cases hr
  exact ⟨((gu2_other (fun e => ha (Or.inl (e)))).trans fz2.1), fz2.2⟩
theorem w_X7_undo {f g a : Nat} {z : gRs} {I : Nat → Nat → Int32} {L : Nat → Nat → Int64}  (ha : ¬ (a = 18 ∨ a = 20)) (hr : r_X7_undo f g I L  = some z) : z.2.1 a = I a ∧ z.2.2 a = L a := by
  unfold r_X7_undo at hr
  by_cases c3 : 0 < (I 20 2)
  · rw [if_pos c3] at hr
    obtain ⟨z4, hz4, hr⟩ := gbnd hr
    have fz4 := w_X0_takeLast (a := a) (fun h => h.elim (fun e => ha (Or.inr (e))) (fun e => ha (Or.inl (e)))) hz4
    cases hr
    exact ⟨fz4.1, fz4.2⟩
  · rw [if_neg c3] at hr
    cases hr
    exact ⟨rfl, rfl⟩
theorem w_X7_fitIn {f g a : Nat} {z : gRs} {I : Nat → Nat → Int32} {L : Nat → Nat → Int64} {a1 : Nat} {a2 : Int32} (ha : ¬ (a = 53)) (hr : r_X7_fitIn f g I L a1 a2 = some z) : z.2.1 a = I a ∧ z.2.2 a = L a := by
  unfold r_X7_fitIn at hr
  obtain ⟨z2, hz2, hr⟩ := gbnd hr
  have fz2 := w_X1_fitBehind (a := a) (fun e => e) hz2
  cases hr
  exact ⟨(fz2.1.trans (gu2_other (fun e => ha (e)))), fz2.2⟩
theorem w_X7_fit {f g a : Nat} {z : gRs} {I : Nat → Nat → Int32} {L : Nat → Nat → Int64} {a1 : Int32} (ha : ¬ (a = 53)) (hr : r_X7_fit f g I L a1 = some z) : z.2.1 a = I a ∧ z.2.2 a = L a := by
  unfold r_X7_fit at hr
  by_cases c3 : ¬ (f_X1_isVerse I L f a1) = 0
  · rw [if_pos c3] at hr
    obtain ⟨z4, hz4, hr⟩ := gbnd hr
    have fz4 := w_X7_fitIn (a := a) (fun e => ha (e)) hz4
    cases hr
    exact ⟨fz4.1, fz4.2⟩
  · rw [if_neg c3] at hr
    cases hr
    exact ⟨rfl, rfl⟩
theorem w_X7_harmony_20 {f g a : Nat} {z : gRs}  (ha : ¬ (a = 53 ∨ a = 54 ∨ a = 55 ∨ a = 56))   {I : Nat → Nat → Int32} {L : Nat → Nat → Int64} (hr : r_X7_harmony_20 f g  I L = some z) : z.2.1 a = I a ∧ z.2.2 a = L a := by
  unfold r_X7_harmony_20 at hr
  cases hr
  exact ⟨rfl, rfl⟩
theorem w_X7_harmony {f g a : Nat} {z : gRs} {I : Nat → Nat → Int32} {L : Nat → Nat → Int64} {a1 : Int32} {a2 : Int32} {a3 : Int32} {a4 : Int32} (ha : ¬ (a = 53 ∨ a = 54 ∨ a = 55 ∨ a = 56)) (hr : r_X7_harmony f g I L a1 a2 a3 a4 = some z) : z.2.1 a = I a ∧ z.2.2 a = L a := by
  unfold r_X7_harmony at hr
  by_cases c15 : (f_X1_isBeast I L f a1) = 0
  · rw [if_pos c15] at hr
    have q := w_X7_harmony_20 (a := a) ha  hr
    exact ⟨q.1.trans rfl, q.2.trans rfl⟩
  · rw [if_neg c15] at hr
    by_cases c16 : (f_X1_isLane I L f a2) = 0
    · rw [if_pos c16] at hr
      have q := w_X7_harmony_20 (a := a) ha  hr
      exact ⟨q.1.trans rfl, q.2.trans rfl⟩
    · rw [if_neg c16] at hr
      by_cases c17 : (f_X1_isBeast I L f a3) = 0
      · rw [if_pos c17] at hr
        have q := w_X7_harmony_20 (a := a) ha  hr
        exact ⟨q.1.trans rfl, q.2.trans rfl⟩
      · rw [if_neg c17] at hr
        by_cases c18 : ¬ (f_X1_isLane I L f a4) = 0
        · rw [if_pos c18] at hr
          obtain ⟨z19, hz19, hr⟩ := gbnd hr
          have fz19 := w_X1_sing (a := a) (fun h => h.elim (fun e => ha (Or.inl (e))) (fun e => ha (Or.inr (Or.inl (e))))) hz19
          obtain ⟨z20, hz20, hr⟩ := gbnd hr
          have fz20 := w_X1_sing (a := a) (fun h => h.elim (fun e => ha (Or.inr (Or.inr (Or.inl (e))))) (fun e => ha (Or.inr (Or.inr (Or.inr (e)))))) hz20
          obtain ⟨z21, hz21, hr⟩ := gbnd hr
          have fz21 := w_X6_harmonyWith (a := a) (fun e => e) hz21
          cases hr
          exact ⟨(fz21.1.trans (fz20.1.trans fz19.1)), (fz21.2.trans (fz20.2.trans fz19.2))⟩
        · rw [if_neg c18] at hr
          have q := w_X7_harmony_20 (a := a) ha  hr
          exact ⟨q.1.trans rfl, q.2.trans rfl⟩
theorem w_X7_best_33 {f g a : Nat} {z : gRs}  (ha : ¬ (a = 44 ∨ a = 46 ∨ a = 47 ∨ (48 ≤ a ∧ a ≤ 49)))  {s0 : Int32} {I : Nat → Nat → Int32} {L : Nat → Nat → Int64} (hr : r_X7_best_33 f g s0 I L = some z) : z.2.1 a = I a ∧ z.2.2 a = L a := by
  unfold r_X7_best_33 at hr
  cases hr
  exact ⟨rfl, rfl⟩
theorem w_X7_best_13 {f g a : Nat} {z : gRs}  (ha : ¬ (a = 44 ∨ a = 46 ∨ a = 47 ∨ (48 ≤ a ∧ a ≤ 49)))   {I : Nat → Nat → Int32} {L : Nat → Nat → Int64} (hr : r_X7_best_13 f g  I L = some z) : z.2.1 a = I a ∧ z.2.2 a = L a := by
  unfold r_X7_best_13 at hr
  cases hr
  exact ⟨rfl, rfl⟩
theorem w_X7_best {f g a : Nat} {z : gRs} {I : Nat → Nat → Int32} {L : Nat → Nat → Int64} {a1 : Int32} {a2 : Int32} {a3 : Int32} (ha : ¬ (a = 44 ∨ a = 46 ∨ a = 47 ∨ (48 ≤ a ∧ a ≤ 49))) (hr : r_X7_best f g I L a1 a2 a3 = some z) : z.2.1 a = I a ∧ z.2.2 a = L a := by
  unfold r_X7_best at hr
  by_cases c11 : ¬ (f_X1_isVerse I L f a1) = 0
  · rw [if_pos c11] at hr
    by_cases c12 : a2 < (nI 1)
    · rw [if_pos c12] at hr
      have q := w_X7_best_13 (a := a) ha  hr
      exact ⟨q.1.trans rfl, q.2.trans rfl⟩
    · rw [if_neg c12] at hr
      by_cases c13 : a2 ≤ (nI 3)
      · rw [if_pos c13] at hr
        obtain ⟨z14, hz14, hr⟩ := gbnd hr
        have fz14 := w_X5_look (a := a) (fun h => h.elim (fun e => ha (Or.inl (e))) (fun h => h.elim (fun e => ha (Or.inr (Or.inl (e)))) (fun h => h.elim (fun e => ha (Or.inr (Or.inr (Or.inl (e))))) (fun e => ha (Or.inr (Or.inr (Or.inr (e)))))))) hz14
        by_cases c15 : a3 = 0
        · rw [if_pos c15] at hr
          have q := w_X7_best_33 (a := a) ha  hr
          exact ⟨q.1.trans fz14.1, q.2.trans fz14.2⟩
        · rw [if_neg c15] at hr
          have q := w_X7_best_33 (a := a) ha  hr
          exact ⟨q.1.trans fz14.1, q.2.trans fz14.2⟩
      · rw [if_neg c13] at hr
        have q := w_X7_best_13 (a := a) ha  hr
        exact ⟨q.1.trans rfl, q.2.trans rfl⟩
  · rw [if_neg c11] at hr
    cases hr
    exact ⟨rfl, rfl⟩
theorem w_X7_fewest_18 {f g a : Nat} {z : gRs}  (ha : ¬ (a = 44 ∨ a = 46 ∨ a = 47 ∨ a = 53 ∨ (48 ≤ a ∧ a ≤ 49)))  : ∀ {m : Nat} {v1 : Int32} {v2 : Int32} {I : Nat → Nat → Int32} {L : Nat → Nat → Int64}, r_X7_fewest_18 f g m v1 v2 I L = some z → z.2.1 a = I a ∧ z.2.2 a = L a := by
  intro m
  induction m with
  | zero =>
    intro v1 v2 I L hr
    cases hr
  | succ m ih =>
    intro v1 v2 I L hr
    have hK18 : ∀ v1 v2 I L, r_X7_fewest_18 f g m v1 v2 I L = some z → z.2.1 a = I a ∧ z.2.2 a = L a := fun v1 v2 I L hr => ih hr
    unfold r_X7_fewest_18 at hr
    by_cases c7 : (nI 3) < v2
    · rw [if_pos c7] at hr
      cases hr
      exact ⟨rfl, rfl⟩
    · rw [if_neg c7] at hr
      obtain ⟨z8, hz8, hr⟩ := gbnd hr
      have fz8 := w_X5_look (a := a) (fun h => h.elim (fun e => ha (Or.inl (e))) (fun h => h.elim (fun e => ha (Or.inr (Or.inl (e)))) (fun h => h.elim (fun e => ha (Or.inr (Or.inr (Or.inl (e))))) (fun e => ha (Or.inr (Or.inr (Or.inr (Or.inr (e))))))))) hz8
      by_cases c9 : ¬ (z8.2.1 44 2) = (nI 4)
      · rw [if_pos c9] at hr
        have q := hK18 _ _ _ _ hr
        exact ⟨q.1.trans fz8.1, q.2.trans fz8.2⟩
      · rw [if_neg c9] at hr
        cases hr
        exact ⟨fz8.1, fz8.2⟩
theorem w_X7_fewest {f g a : Nat} {z : gRs} {I : Nat → Nat → Int32} {L : Nat → Nat → Int64} {a1 : Int32} (ha : ¬ (a = 44 ∨ a = 46 ∨ a = 47 ∨ a = 53 ∨ (48 ≤ a ∧ a ≤ 49))) (hr : r_X7_fewest f g I L a1 = some z) : z.2.1 a = I a ∧ z.2.2 a = L a := by
  unfold r_X7_fewest at hr
  by_cases c10 : ¬ (f_X1_isVerse I L f a1) = 0
  · rw [if_pos c10] at hr
    obtain ⟨z11, hz11, hr⟩ := gbnd hr
    have fz11 := w_X7_fitIn (a := a) (fun e => ha (Or.inr (Or.inr (Or.inr (Or.inl (e)))))) hz11
    by_cases c12 : ¬ z11.1 = (nI 4)
    · rw [if_pos c12] at hr
      have q := w_X7_fewest_18 (a := a) ha  hr
      exact ⟨q.1.trans fz11.1, q.2.trans fz11.2⟩
    · rw [if_neg c12] at hr
      cases hr
      exact ⟨fz11.1, fz11.2⟩
  · rw [if_neg c10] at hr
    cases hr
    exact ⟨rfl, rfl⟩
theorem w_X7_has_49 {f g a : Nat} {z : gRs}  (ha : ¬ (a = 53 ∨ a = 54)) {K21 : Int32 → Int32 → Int32 → Int32 → (Nat → Nat → Int32) → (Nat → Nat → Int64) → Option gRs} (hK21 : ∀ v2 v3 v4 v5 I L, K21 v2 v3 v4 v5 I L = some z → z.2.1 a = I a ∧ z.2.2 a = L a) {v2 : Int32} {v3 : Int32} {v4 : Int32} {v5 : Int32} {I : Nat → Nat → Int32} {L : Nat → Nat → Int64} (hr : r_X7_has_49 f g K21 v2 v3 v4 v5 I L = some z) : z.2.1 a = I a ∧ z.2.2 a = L a := by
  unfold r_X7_has_49 at hr
  have q := hK21 _ _ _ _ _ _ hr
  exact ⟨q.1.trans rfl, q.2.trans rfl⟩
theorem w_X7_has_21 {f g a : Nat} {z : gRs}  (ha : ¬ (a = 53 ∨ a = 54))  : ∀ {m : Nat} {v2 : Int32} {v3 : Int32} {v4 : Int32} {v5 : Int32} {I : Nat → Nat → Int32} {L : Nat → Nat → Int64}, r_X7_has_21 f g m v2 v3 v4 v5 I L = some z → z.2.1 a = I a ∧ z.2.2 a = L a := by
  intro m
  induction m with
  | zero =>
    intro v2 v3 v4 v5 I L hr
    cases hr
  | succ m ih =>
    intro v2 v3 v4 v5 I L hr
    have hK21 : ∀ v2 v3 v4 v5 I L, r_X7_has_21 f g m v2 v3 v4 v5 I L = some z → z.2.1 a = I a ∧ z.2.2 a = L a := fun v2 v3 v4 v5 I L hr => ih hr
    unfold r_X7_has_21 at hr
    by_cases c18 : (I f 2) ≤ v5
    · rw [if_pos c18] at hr
      cases hr
      exact ⟨rfl, rfl⟩
    · rw [if_neg c18] at hr
      obtain ⟨z19, hz19, hr⟩ := gbnd hr
      have fz19 := w_X1_sing (a := a) (fun h => h.elim (fun e => ha (Or.inl (e))) (fun e => ha (Or.inr (e)))) hz19
      obtain ⟨z20, hz20, hr⟩ := gbnd hr
      have fz20 := w_X6_toneBits (a := a) (fun e => e) hz20
      by_cases c21 : ¬ (v3 &&& (z20.1 ^^^ (-1 : Int32))) = 0
      · rw [if_pos c21] at hr
        have q := w_X7_has_49 (a := a) ha hK21 hr
        exact ⟨q.1.trans (fz20.1.trans fz19.1), q.2.trans (fz20.2.trans fz19.2)⟩
      · rw [if_neg c21] at hr
        have q := w_X7_has_49 (a := a) ha hK21 hr
        exact ⟨q.1.trans (fz20.1.trans fz19.1), q.2.trans (fz20.2.trans fz19.2)⟩
theorem w_X7_has_10 {f g a : Nat} {z : gRs}  (ha : ¬ (a = 53 ∨ a = 54))   {I : Nat → Nat → Int32} {L : Nat → Nat → Int64} (hr : r_X7_has_10 f g  I L = some z) : z.2.1 a = I a ∧ z.2.2 a = L a := by
  unfold r_X7_has_10 at hr
  cases hr
  exact ⟨rfl, rfl⟩
theorem w_X7_has {f g a : Nat} {z : gRs} {I : Nat → Nat → Int32} {L : Nat → Nat → Int64} {a1 : Int32} {a2 : Int32} (ha : ¬ (a = 53 ∨ a = 54)) (hr : r_X7_has f g I L a1 a2 = some z) : z.2.1 a = I a ∧ z.2.2 a = L a := by
  unfold r_X7_has at hr
  by_cases c22 : (f_X1_isVerse I L f a1) = 0
  · rw [if_pos c22] at hr
    have q := w_X7_has_10 (a := a) ha  hr
    exact ⟨q.1.trans rfl, q.2.trans rfl⟩
  · rw [if_neg c22] at hr
    by_cases c23 : ¬ (f_X1_isLane I L f a2) = 0
    · rw [if_pos c23] at hr
      obtain ⟨z24, hz24, hr⟩ := gbnd hr
      have fz24 := w_X1_verseBits (a := a) (fun e => e) hz24
      have q := w_X7_has_21 (a := a) ha  hr
      exact ⟨q.1.trans fz24.1, q.2.trans fz24.2⟩
    · rw [if_neg c23] at hr
      have q := w_X7_has_10 (a := a) ha  hr
      exact ⟨q.1.trans rfl, q.2.trans rfl⟩
theorem w_X7_sounds_2 {f g a : Nat} {z : gRs}  (ha : ¬ (False))  : ∀ {m : Nat} {v1 : Int32} {v2 : Int32} {I : Nat → Nat → Int32} {L : Nat → Nat → Int64}, r_X7_sounds_2 f g m v1 v2 I L = some z → z.2.1 a = I a ∧ z.2.2 a = L a := by
  intro m
  induction m with
  | zero =>
    intro v1 v2 I L hr
    cases hr
  | succ m ih =>
    intro v1 v2 I L hr
    have hK2 : ∀ v1 v2 I L, r_X7_sounds_2 f g m v1 v2 I L = some z → z.2.1 a = I a ∧ z.2.2 a = L a := fun v1 v2 I L hr => ih hr
    unfold r_X7_sounds_2 at hr
    by_cases c6 : (I f 2) ≤ v2
    · rw [if_pos c6] at hr
      cases hr
      exact ⟨rfl, rfl⟩
    · rw [if_neg c6] at hr
      obtain ⟨b7, hr⟩ := gopt hr
      obtain ⟨b8, hr⟩ := gopt hr
      obtain ⟨z9, hz9, hr⟩ := gbnd hr
      have fz9 := w_X1_toneBy (a := a) (fun e => e) hz9
      by_cases c10 : z9.1 = (nI 12)
      · rw [if_pos c10] at hr
        have q := hK2 _ _ _ _ hr
        exact ⟨q.1.trans fz9.1, q.2.trans fz9.2⟩
      · rw [if_neg c10] at hr
        cases hr
        exact ⟨fz9.1, fz9.2⟩
theorem w_X7_sounds {f g a : Nat} {z : gRs} {I : Nat → Nat → Int32} {L : Nat → Nat → Int64} {a1 : Int32} (ha : ¬ (False)) (hr : r_X7_sounds f g I L a1 = some z) : z.2.1 a = I a ∧ z.2.2 a = L a := by
  unfold r_X7_sounds at hr
  have q := w_X7_sounds_2 (a := a) ha  hr
  exact ⟨q.1.trans rfl, q.2.trans rfl⟩
theorem w_X7_silence_35 {f g a : Nat} {z : gRs}  (ha : ¬ (False)) {K11 : Int32 → Int32 → Int32 → (Nat → Nat → Int32) → (Nat → Nat → Int64) → Option gRs} (hK11 : ∀ v1 v2 v3 I L, K11 v1 v2 v3 I L = some z → z.2.1 a = I a ∧ z.2.2 a = L a) {v1 : Int32} {v2 : Int32} {v3 : Int32} {I : Nat → Nat → Int32} {L : Nat → Nat → Int64} (hr : r_X7_silence_35 f g K11 v1 v2 v3 I L = some z) : z.2.1 a = I a ∧ z.2.2 a = L a := by
  unfold r_X7_silence_35 at hr
  have q := hK11 _ _ _ _ _ hr
  exact ⟨q.1.trans rfl, q.2.trans rfl⟩
theorem w_X7_silence_11 {f g a : Nat} {z : gRs}  (ha : ¬ (False))  : ∀ {m : Nat} {v1 : Int32} {v2 : Int32} {v3 : Int32} {I : Nat → Nat → Int32} {L : Nat → Nat → Int64}, r_X7_silence_11 f g m v1 v2 v3 I L = some z → z.2.1 a = I a ∧ z.2.2 a = L a := by
  intro m
  induction m with
  | zero =>
    intro v1 v2 v3 I L hr
    cases hr
  | succ m ih =>
    intro v1 v2 v3 I L hr
    have hK11 : ∀ v1 v2 v3 I L, r_X7_silence_11 f g m v1 v2 v3 I L = some z → z.2.1 a = I a ∧ z.2.2 a = L a := fun v1 v2 v3 I L hr => ih hr
    unfold r_X7_silence_11 at hr
    by_cases c13 : (I f 0) ≤ v3
    · rw [if_pos c13] at hr
      cases hr
      exact ⟨rfl, rfl⟩
    · rw [if_neg c13] at hr
      obtain ⟨z14, hz14, hr⟩ := gbnd hr
      have fz14 := w_X1_lanesWith (a := a) (fun e => e) hz14
      by_cases c15 : ((gshr z14.1 v1) &&& (nI 1)) = 0
      · rw [if_pos c15] at hr
        have q := w_X7_silence_35 (a := a) ha hK11 hr
        exact ⟨q.1.trans fz14.1, q.2.trans fz14.2⟩
      · rw [if_neg c15] at hr
        obtain ⟨z16, hz16, hr⟩ := gbnd hr
        have fz16 := w_X7_sounds (a := a) (fun e => e) hz16
        by_cases c17 : z16.1 = 0
        · rw [if_pos c17] at hr
          have q := w_X7_silence_35 (a := a) ha hK11 hr
          exact ⟨q.1.trans (fz16.1.trans fz14.1), q.2.trans (fz16.2.trans fz14.2)⟩
        · rw [if_neg c17] at hr
          have q := w_X7_silence_35 (a := a) ha hK11 hr
          exact ⟨q.1.trans (fz16.1.trans fz14.1), q.2.trans (fz16.2.trans fz14.2)⟩
theorem w_X7_silence {f g a : Nat} {z : gRs} {I : Nat → Nat → Int32} {L : Nat → Nat → Int64} {a1 : Int32} (ha : ¬ (False)) (hr : r_X7_silence f g I L a1 = some z) : z.2.1 a = I a ∧ z.2.2 a = L a := by
  unfold r_X7_silence at hr
  by_cases c18 : ¬ (f_X1_isLane I L f a1) = 0
  · rw [if_pos c18] at hr
    have q := w_X7_silence_11 (a := a) ha  hr
    exact ⟨q.1.trans rfl, q.2.trans rfl⟩
  · rw [if_neg c18] at hr
    cases hr
    exact ⟨rfl, rfl⟩
theorem wi_X7_togglesOpen {f g a : Nat} {I : Nat → Nat → Int32} {L : Nat → Nat → Int64} {a1 : Nat} {a2 : Int32} (ha : ¬ (a = a1)) : i_X7_togglesOpen f g I L a1 a2 a = I a := (gite (gu2_other (fun e => ha (e))) rfl)
theorem wi_X7_togglesOil {f g a : Nat} {I : Nat → Nat → Int32} {L : Nat → Nat → Int64} {a1 : Nat} {a2 : Int32} (ha : ¬ (a = a1)) : i_X7_togglesOil f g I L a1 a2 a = I a := (gite (gu2_other (fun e => ha (e))) rfl)
theorem wi_X7_turnsOut {f g a : Nat} {I : Nat → Nat → Int32} {L : Nat → Nat → Int64} {a1 : Nat} {a2 : Int32} (ha : ¬ (a = a1)) : i_X7_turnsOut f g I L a1 a2 a = I a := (gite rfl (gu2_other (fun e => ha (e))))
theorem w_X7_goesHome {f g a : Nat} {z : gRs} {I : Nat → Nat → Int32} {L : Nat → Nat → Int64} {a1 : Nat} {a2 : Int32} {a3 : Int32} (ha : ¬ (a = 53 ∨ a = 54 ∨ a = a1)) (hr : r_X7_goesHome f g I L a1 a2 a3 = some z) : z.2.1 a = I a ∧ z.2.2 a = L a := by
  unfold r_X7_goesHome at hr
  by_cases c3 : ¬ (f_X1_canGoHome I L f a1 a2 a3) = 0
  · rw [if_pos c3] at hr
    obtain ⟨z4, hz4, hr⟩ := gbnd hr
    have fz4 := w_X1_sendHome (a := a) (fun h => h.elim (fun e => ha (Or.inr (Or.inr (e)))) (fun h => h.elim (fun e => ha (Or.inl (e))) (fun e => ha (Or.inr (Or.inl (e)))))) hz4
    cases hr
    exact ⟨fz4.1, fz4.2⟩
  · rw [if_neg c3] at hr
    cases hr
    exact ⟨rfl, rfl⟩
theorem w_X7_doesDoing_30 {f g a : Nat} {z : gRs} {a1 : Nat} (ha : ¬ (a = 53 ∨ a = 54 ∨ a = a1))   {I : Nat → Nat → Int32} {L : Nat → Nat → Int64} (hr : r_X7_doesDoing_30 f g a1  I L = some z) : z.2.1 a = I a ∧ z.2.2 a = L a := by
  unfold r_X7_doesDoing_30 at hr
  cases hr
  exact ⟨rfl, rfl⟩
theorem w_X7_doesDoing {f g a : Nat} {z : gRs} {I : Nat → Nat → Int32} {L : Nat → Nat → Int64} {a1 : Nat} {a2 : Int32} {a3 : Int32} (ha : ¬ (a = 53 ∨ a = 54 ∨ a = a1)) (hr : r_X7_doesDoing f g I L a1 a2 a3 = some z) : z.2.1 a = I a ∧ z.2.2 a = L a := by
  unfold r_X7_doesDoing at hr
  by_cases c25 : a2 = (nI 5)
  · rw [if_pos c25] at hr
    obtain ⟨b26, hr⟩ := gopt hr
    cases hr
    exact ⟨(wi_X7_togglesOpen (f := f) (g := g) (I := I) (L := L) (fun e => ha (Or.inr (Or.inr (e))))), rfl⟩
  · rw [if_neg c25] at hr
    by_cases c27 : a2 = (nI 6)
    · rw [if_pos c27] at hr
      obtain ⟨b28, hr⟩ := gopt hr
      cases hr
      exact ⟨(wi_X7_togglesOil (f := f) (g := g) (I := I) (L := L) (fun e => ha (Or.inr (Or.inr (e))))), rfl⟩
    · rw [if_neg c27] at hr
      by_cases c29 : a2 = (nI 7)
      · rw [if_pos c29] at hr
        obtain ⟨b30, hr⟩ := gopt hr
        cases hr
        exact ⟨(wi_X7_turnsOut (f := f) (g := g) (I := I) (L := L) (fun e => ha (Or.inr (Or.inr (e))))), rfl⟩
      · rw [if_neg c29] at hr
        by_cases c31 : a2 = (nI 8)
        · rw [if_pos c31] at hr
          by_cases c32 : (f_X1_isVerse I L f a3) = 0
          · rw [if_pos c32] at hr
            have q := w_X7_doesDoing_30 (a := a) ha  hr
            exact ⟨q.1.trans rfl, q.2.trans rfl⟩
          · rw [if_neg c32] at hr
            obtain ⟨z33, hz33, hr⟩ := gbnd hr
            have fz33 := w_X7_fitIn (a := a) (fun e => ha (Or.inl (e))) hz33
            by_cases c34 : z33.1 < (nI 3)
            · rw [if_pos c34] at hr
              have q := w_X7_doesDoing_30 (a := a) ha  hr
              exact ⟨q.1.trans fz33.1, q.2.trans fz33.2⟩
            · rw [if_neg c34] at hr
              cases hr
              exact ⟨fz33.1, fz33.2⟩
        · rw [if_neg c31] at hr
          obtain ⟨z35, hz35, hr⟩ := gbnd hr
          have fz35 := w_X7_goesHome (a := a) (fun h => h.elim (fun e => ha (Or.inl (e))) (fun h => h.elim (fun e => ha (Or.inr (Or.inl (e)))) (fun e => ha (Or.inr (Or.inr (e)))))) hz35
          obtain ⟨b36, hr⟩ := gopt hr
          cases hr
          exact ⟨fz35.1, fz35.2⟩
theorem w_X7_judge_67 {f g a : Nat} {z : gRs}  (ha : ¬ (a = 19 ∨ a = 53 ∨ a = 54))   {I : Nat → Nat → Int32} {L : Nat → Nat → Int64} (hr : r_X7_judge_67 f g  I L = some z) : z.2.1 a = I a ∧ z.2.2 a = L a := by
  unfold r_X7_judge_67 at hr
  cases hr
  exact ⟨rfl, rfl⟩
theorem w_X7_judge_37 {f g a : Nat} {z : gRs}  (ha : ¬ (a = 19 ∨ a = 53 ∨ a = 54))  : ∀ {m : Nat} {v1 : Int32} {v2 : Int32} {v3 : Int32} {v4 : Int32} {I : Nat → Nat → Int32} {L : Nat → Nat → Int64}, r_X7_judge_37 f g m v1 v2 v3 v4 I L = some z → z.2.1 a = I a ∧ z.2.2 a = L a := by
  intro m
  induction m with
  | zero =>
    intro v1 v2 v3 v4 I L hr
    cases hr
  | succ m ih =>
    intro v1 v2 v3 v4 I L hr
    have hK37 : ∀ v1 v2 v3 v4 I L, r_X7_judge_37 f g m v1 v2 v3 v4 I L = some z → z.2.1 a = I a ∧ z.2.2 a = L a := fun v1 v2 v3 v4 I L hr => ih hr
    unfold r_X7_judge_37 at hr
    by_cases c28 : v1 ≤ v4
    · rw [if_pos c28] at hr
      have q := w_X7_judge_67 (a := a) ha  hr
      exact ⟨q.1.trans rfl, q.2.trans rfl⟩
    · rw [if_neg c28] at hr
      by_cases c29 : v3 ≤ 0
      · rw [if_pos c29] at hr
        have q := w_X7_judge_67 (a := a) ha  hr
        exact ⟨q.1.trans rfl, q.2.trans rfl⟩
      · rw [if_neg c29] at hr
        obtain ⟨b30, hr⟩ := gopt hr
        obtain ⟨z31, hz31, hr⟩ := gbnd hr
        have fz31 := w_X7_doesDoing (a := a) (fun h => h.elim (fun e => ha (Or.inr (Or.inl (e)))) (fun h => h.elim (fun e => ha (Or.inr (Or.inr (e)))) (fun e => ha (Or.inl (e))))) hz31
        by_cases c32 : ¬ z31.1 = 0
        · rw [if_pos c32] at hr
          have q := hK37 _ _ _ _ _ _ hr
          exact ⟨q.1.trans fz31.1, q.2.trans fz31.2⟩
        · rw [if_neg c32] at hr
          cases hr
          exact ⟨fz31.1, fz31.2⟩
theorem w_X7_judge_28 {f g a : Nat} {z : gRs}  (ha : ¬ (a = 19 ∨ a = 53 ∨ a = 54))   {I : Nat → Nat → Int32} {L : Nat → Nat → Int64} (hr : r_X7_judge_28 f g  I L = some z) : z.2.1 a = I a ∧ z.2.2 a = L a := by
  unfold r_X7_judge_28 at hr
  cases hr
  exact ⟨rfl, rfl⟩
theorem w_X7_judge_12 {f g a : Nat} {z : gRs}  (ha : ¬ (a = 19 ∨ a = 53 ∨ a = 54))  : ∀ {m : Nat} {v1 : Int32} {v2 : Int32} {v3 : Int32} {v4 : Int32} {I : Nat → Nat → Int32} {L : Nat → Nat → Int64}, r_X7_judge_12 f g m v1 v2 v3 v4 I L = some z → z.2.1 a = I a ∧ z.2.2 a = L a := by
  intro m
  induction m with
  | zero =>
    intro v1 v2 v3 v4 I L hr
    cases hr
  | succ m ih =>
    intro v1 v2 v3 v4 I L hr
    have hK12 : ∀ v1 v2 v3 v4 I L, r_X7_judge_12 f g m v1 v2 v3 v4 I L = some z → z.2.1 a = I a ∧ z.2.2 a = L a := fun v1 v2 v3 v4 I L hr => ih hr
    unfold r_X7_judge_12 at hr
    by_cases c33 : v1 ≤ v4
    · rw [if_pos c33] at hr
      by_cases c34 : v2 < 0
      · rw [if_pos c34] at hr
        have q := w_X7_judge_28 (a := a) ha  hr
        exact ⟨q.1.trans rfl, q.2.trans rfl⟩
      · rw [if_neg c34] at hr
        by_cases c35 : (v2 / (nI 100)) < v3
        · rw [if_pos c35] at hr
          have q := w_X7_judge_37 (a := a) ha  hr
          exact ⟨q.1.trans (wi_X4_become (I := I) (L := L) (fun e => ha (Or.inl (e)))), q.2.trans (wl_X4_become (I := I) (L := L) (fun e => ha (Or.inl (e))))⟩
        · rw [if_neg c35] at hr
          have q := w_X7_judge_28 (a := a) ha  hr
          exact ⟨q.1.trans rfl, q.2.trans rfl⟩
    · rw [if_neg c33] at hr
      have q := hK12 _ _ _ _ _ _ hr
      exact ⟨q.1.trans rfl, q.2.trans rfl⟩
theorem w_X7_judge_6 {f g a : Nat} {z : gRs}  (ha : ¬ (a = 19 ∨ a = 53 ∨ a = 54))   {I : Nat → Nat → Int32} {L : Nat → Nat → Int64} (hr : r_X7_judge_6 f g  I L = some z) : z.2.1 a = I a ∧ z.2.2 a = L a := by
  unfold r_X7_judge_6 at hr
  cases hr
  exact ⟨rfl, rfl⟩
theorem w_X7_judge {f g a : Nat} {z : gRs} {I : Nat → Nat → Int32} {L : Nat → Nat → Int64} {a1 : Int32} {a2 : Int32} (ha : ¬ (a = 19 ∨ a = 53 ∨ a = 54)) (hr : r_X7_judge f g I L a1 a2 = some z) : z.2.1 a = I a ∧ z.2.2 a = L a := by
  unfold r_X7_judge at hr
  by_cases c36 : a1 < (nI 1)
  · rw [if_pos c36] at hr
    have q := w_X7_judge_6 (a := a) ha  hr
    exact ⟨q.1.trans rfl, q.2.trans rfl⟩
  · rw [if_neg c36] at hr
    by_cases c37 : a1 ≤ (nI 4)
    · rw [if_pos c37] at hr
      have q := w_X7_judge_12 (a := a) ha  hr
      exact ⟨q.1.trans rfl, q.2.trans rfl⟩
    · rw [if_neg c37] at hr
      have q := w_X7_judge_6 (a := a) ha  hr
      exact ⟨q.1.trans rfl, q.2.trans rfl⟩
theorem w_X7_hear_15 {f g a : Nat} {z : gRs}  (ha : ¬ (a = 40 ∨ a = 41 ∨ a = 42 ∨ a = 43))   {I : Nat → Nat → Int32} {L : Nat → Nat → Int64} (hr : r_X7_hear_15 f g  I L = some z) : z.2.1 a = I a ∧ z.2.2 a = L a := by
  unfold r_X7_hear_15 at hr
  cases hr
  exact ⟨rfl, rfl⟩
theorem w_X7_hear {f g a : Nat} {z : gRs} {I : Nat → Nat → Int32} {L : Nat → Nat → Int64} {a1 : Int32} {a2 : Int32} {a3 : Int32} (ha : ¬ (a = 40 ∨ a = 41 ∨ a = 42 ∨ a = 43)) (hr : r_X7_hear f g I L a1 a2 a3 = some z) : z.2.1 a = I a ∧ z.2.2 a = L a := by
  unfold r_X7_hear at hr
  by_cases c13 : ¬ (f_X1_isGate I L f a2) = 0
  · rw [if_pos c13] at hr
    by_cases c14 : (f_X7_isKind I L a1) = 0
    · rw [if_pos c14] at hr
      have q := w_X7_hear_15 (a := a) ha  hr
      exact ⟨q.1.trans rfl, q.2.trans rfl⟩
    · rw [if_neg c14] at hr
      by_cases c15 : a3 < 0
      · rw [if_pos c15] at hr
        have q := w_X7_hear_15 (a := a) ha  hr
        exact ⟨q.1.trans rfl, q.2.trans rfl⟩
      · rw [if_neg c15] at hr
        by_cases c16 : a3 ≤ (nI 12)
        · rw [if_pos c16] at hr
          by_cases c17 : (I 40 3) < (nI 6)
          · rw [if_pos c17] at hr
            obtain ⟨z18, hz18, hr⟩ := gbnd hr
            have fz18 := w_X2_add (a := a) (fun h => h.elim (fun e => ha (Or.inl (e))) (fun h => h.elim (fun e => ha (Or.inr (Or.inl (e)))) (fun h => h.elim (fun e => ha (Or.inr (Or.inr (Or.inl (e))))) (fun e => ha (Or.inr (Or.inr (Or.inr (e)))))))) hz18
            cases hr
            exact ⟨fz18.1, fz18.2⟩
          · rw [if_neg c17] at hr
            cases hr
            exact ⟨rfl, rfl⟩
        · rw [if_neg c16] at hr
          have q := w_X7_hear_15 (a := a) ha  hr
          exact ⟨q.1.trans rfl, q.2.trans rfl⟩
  · rw [if_neg c13] at hr
    cases hr
    exact ⟨rfl, rfl⟩
theorem wi_X7_unhear {f g a : Nat} {I : Nat → Nat → Int32} {L : Nat → Nat → Int64}  (ha : ¬ (a = 40)) : i_X7_unhear f g I L  a = I a := (gu2_other (fun e => ha (e)))
theorem w_X7_weights_28 {f g a : Nat} {z : gRs}  (ha : ¬ (False)) {K9 : Int32 → Int32 → Int32 → (Nat → Nat → Int32) → (Nat → Nat → Int64) → Option gRs} (hK9 : ∀ v1 v2 v3 I L, K9 v1 v2 v3 I L = some z → z.2.1 a = I a ∧ z.2.2 a = L a) {v1 : Int32} {v2 : Int32} {v3 : Int32} {I : Nat → Nat → Int32} {L : Nat → Nat → Int64} (hr : r_X7_weights_28 f g K9 v1 v2 v3 I L = some z) : z.2.1 a = I a ∧ z.2.2 a = L a := by
  unfold r_X7_weights_28 at hr
  have q := hK9 _ _ _ _ _ hr
  exact ⟨q.1.trans rfl, q.2.trans rfl⟩
theorem w_X7_weights_9 {f g a : Nat} {z : gRs}  (ha : ¬ (False))  : ∀ {m : Nat} {v1 : Int32} {v2 : Int32} {v3 : Int32} {I : Nat → Nat → Int32} {L : Nat → Nat → Int64}, r_X7_weights_9 f g m v1 v2 v3 I L = some z → z.2.1 a = I a ∧ z.2.2 a = L a := by
  intro m
  induction m with
  | zero =>
    intro v1 v2 v3 I L hr
    cases hr
  | succ m ih =>
    intro v1 v2 v3 I L hr
    have hK9 : ∀ v1 v2 v3 I L, r_X7_weights_9 f g m v1 v2 v3 I L = some z → z.2.1 a = I a ∧ z.2.2 a = L a := fun v1 v2 v3 I L hr => ih hr
    unfold r_X7_weights_9 at hr
    by_cases c9 : (nI 9) < v3
    · rw [if_pos c9] at hr
      cases hr
      exact ⟨rfl, rfl⟩
    · rw [if_neg c9] at hr
      obtain ⟨z10, hz10, hr⟩ := gbnd hr
      have fz10 := w_X2_agrees (a := a) (fun e => e) hz10
      by_cases c11 : z10.1 = 0
      · rw [if_pos c11] at hr
        have q := w_X7_weights_28 (a := a) ha hK9 hr
        exact ⟨q.1.trans fz10.1, q.2.trans fz10.2⟩
      · rw [if_neg c11] at hr
        have q := w_X7_weights_28 (a := a) ha hK9 hr
        exact ⟨q.1.trans fz10.1, q.2.trans fz10.2⟩
theorem w_X7_weights {f g a : Nat} {z : gRs} {I : Nat → Nat → Int32} {L : Nat → Nat → Int64} {a1 : Int32} (ha : ¬ (False)) (hr : r_X7_weights f g I L a1 = some z) : z.2.1 a = I a ∧ z.2.2 a = L a := by
  unfold r_X7_weights at hr
  by_cases c12 : ¬ (f_X7_isKind I L a1) = 0
  · rw [if_pos c12] at hr
    have q := w_X7_weights_9 (a := a) ha  hr
    exact ⟨q.1.trans rfl, q.2.trans rfl⟩
  · rw [if_neg c12] at hr
    cases hr
    exact ⟨rfl, rfl⟩
theorem w_X7_singersOf_4 {f g a : Nat} {z : gRs}  (ha : ¬ (a = 55 ∨ a = 56))  : ∀ {m : Nat} {v1 : Int32} {v2 : Int32} {v3 : Int32} {v4 : Int32} {I : Nat → Nat → Int32} {L : Nat → Nat → Int64}, r_X7_singersOf_4 f g m v1 v2 v3 v4 I L = some z → z.2.1 a = I a ∧ z.2.2 a = L a := by
  intro m
  induction m with
  | zero =>
    intro v1 v2 v3 v4 I L hr
    cases hr
  | succ m ih =>
    intro v1 v2 v3 v4 I L hr
    have hK4 : ∀ v1 v2 v3 v4 I L, r_X7_singersOf_4 f g m v1 v2 v3 v4 I L = some z → z.2.1 a = I a ∧ z.2.2 a = L a := fun v1 v2 v3 v4 I L hr => ih hr
    unfold r_X7_singersOf_4 at hr
    by_cases c4 : (I f 2) ≤ v4
    · rw [if_pos c4] at hr
      cases hr
      exact ⟨rfl, rfl⟩
    · rw [if_neg c4] at hr
      obtain ⟨z5, hz5, hr⟩ := gbnd hr
      have fz5 := w_X1_sing (a := a) (fun h => h.elim (fun e => ha (Or.inl (e))) (fun e => ha (Or.inr (e)))) hz5
      obtain ⟨z6, hz6, hr⟩ := gbnd hr
      have fz6 := w_X6_toneBits (a := a) (fun e => e) hz6
      have q := hK4 _ _ _ _ _ _ hr
      exact ⟨q.1.trans (fz6.1.trans fz5.1), q.2.trans (fz6.2.trans fz5.2)⟩
theorem w_X7_singersOf {f g a : Nat} {z : gRs} {I : Nat → Nat → Int32} {L : Nat → Nat → Int64} {a1 : Int32} {a2 : Int32} (ha : ¬ (a = 55 ∨ a = 56)) (hr : r_X7_singersOf f g I L a1 a2 = some z) : z.2.1 a = I a ∧ z.2.2 a = L a := by
  unfold r_X7_singersOf at hr
  have q := w_X7_singersOf_4 (a := a) ha  hr
  exact ⟨q.1.trans rfl, q.2.trans rfl⟩
theorem w_X7_greatestCommon_21 {a : Nat} {z : gRs}  (ha : ¬ (False))  {v2 : Int32} {I : Nat → Nat → Int32} {L : Nat → Nat → Int64} (hr : r_X7_greatestCommon_21  v2 I L = some z) : z.2.1 a = I a ∧ z.2.2 a = L a := by
  unfold r_X7_greatestCommon_21 at hr
  cases hr
  exact ⟨rfl, rfl⟩
theorem w_X7_greatestCommon_6 {a : Nat} {z : gRs}  (ha : ¬ (False))  : ∀ {m : Nat} {v2 : Int32} {v3 : Int32} {v4 : Int32} {I : Nat → Nat → Int32} {L : Nat → Nat → Int64}, r_X7_greatestCommon_6  m v2 v3 v4 I L = some z → z.2.1 a = I a ∧ z.2.2 a = L a := by
  intro m
  induction m with
  | zero =>
    intro v2 v3 v4 I L hr
    cases hr
  | succ m ih =>
    intro v2 v3 v4 I L hr
    have hK6 : ∀ v2 v3 v4 I L, r_X7_greatestCommon_6  m v2 v3 v4 I L = some z → z.2.1 a = I a ∧ z.2.2 a = L a := fun v2 v3 v4 I L hr => ih hr
    unfold r_X7_greatestCommon_6 at hr
    by_cases c7 : (nI 64) ≤ v4
    · rw [if_pos c7] at hr
      have q := w_X7_greatestCommon_21 (a := a) ha  hr
      exact ⟨q.1.trans rfl, q.2.trans rfl⟩
    · rw [if_neg c7] at hr
      by_cases c8 : v3 = 0
      · rw [if_pos c8] at hr
        have q := w_X7_greatestCommon_21 (a := a) ha  hr
        exact ⟨q.1.trans rfl, q.2.trans rfl⟩
      · rw [if_neg c8] at hr
        obtain ⟨b9, hr⟩ := gopt hr
        have q := hK6 _ _ _ _ _ hr
        exact ⟨q.1.trans rfl, q.2.trans rfl⟩
theorem w_X7_greatestCommon {a : Nat} {z : gRs} {I : Nat → Nat → Int32} {L : Nat → Nat → Int64} {a0 : Int32} {a1 : Int32} (ha : ¬ (False)) (hr : r_X7_greatestCommon I L a0 a1 = some z) : z.2.1 a = I a ∧ z.2.2 a = L a := by
  unfold r_X7_greatestCommon at hr
  have q := w_X7_greatestCommon_6 (a := a) ha  hr
  exact ⟨q.1.trans rfl, q.2.trans rfl⟩
theorem w_X7_fraction_21 {a : Nat} {z : gRs}  (ha : ¬ (False))  {s0 : Int32} {I : Nat → Nat → Int32} {L : Nat → Nat → Int64} (hr : r_X7_fraction_21  s0 I L = some z) : z.2.1 a = I a ∧ z.2.2 a = L a := by
  unfold r_X7_fraction_21 at hr
  cases hr
  exact ⟨rfl, rfl⟩
theorem w_X7_fraction_11 {a : Nat} {z : gRs}  (ha : ¬ (False))  {s0 : Int32} {I : Nat → Nat → Int32} {L : Nat → Nat → Int64} (hr : r_X7_fraction_11  s0 I L = some z) : z.2.1 a = I a ∧ z.2.2 a = L a := by
  unfold r_X7_fraction_11 at hr
  cases hr
  exact ⟨rfl, rfl⟩
theorem w_X7_fraction {a : Nat} {z : gRs} {I : Nat → Nat → Int32} {L : Nat → Nat → Int64} {a0 : Int32} {a1 : Int32} {a2 : Int32} (ha : ¬ (False)) (hr : r_X7_fraction I L a0 a1 a2 = some z) : z.2.1 a = I a ∧ z.2.2 a = L a := by
  unfold r_X7_fraction at hr
  obtain ⟨z13, hz13, hr⟩ := gbnd hr
  have fz13 := w_X7_greatestCommon (a := a) (fun e => e) hz13
  by_cases c14 : ¬ z13.1 = 0
  · rw [if_pos c14] at hr
    by_cases c15 : a2 = 0
    · rw [if_pos c15] at hr
      obtain ⟨b16, hr⟩ := gopt hr
      have q := w_X7_fraction_21 (a := a) ha  hr
      exact ⟨q.1.trans fz13.1, q.2.trans fz13.2⟩
    · rw [if_neg c15] at hr
      obtain ⟨b17, hr⟩ := gopt hr
      have q := w_X7_fraction_21 (a := a) ha  hr
      exact ⟨q.1.trans fz13.1, q.2.trans fz13.2⟩
  · rw [if_neg c14] at hr
    by_cases c18 : a2 = 0
    · rw [if_pos c18] at hr
      have q := w_X7_fraction_11 (a := a) ha  hr
      exact ⟨q.1.trans fz13.1, q.2.trans fz13.2⟩
    · rw [if_neg c18] at hr
      have q := w_X7_fraction_11 (a := a) ha  hr
      exact ⟨q.1.trans fz13.1, q.2.trans fz13.2⟩
theorem w_X7_share_51 {f g a : Nat} {z : gRs}  (ha : ¬ (a = 53 ∨ a = 54 ∨ a = 55 ∨ a = 56)) {K29 : Int32 → Int32 → Int32 → Int32 → Int32 → (Nat → Nat → Int32) → (Nat → Nat → Int64) → Option gRs} (hK29 : ∀ v2 v3 v4 v5 v6 I L, K29 v2 v3 v4 v5 v6 I L = some z → z.2.1 a = I a ∧ z.2.2 a = L a) {v2 : Int32} {v3 : Int32} {v4 : Int32} {v6 : Int32} {s0 : Int32} {s1 : Int32} {I : Nat → Nat → Int32} {L : Nat → Nat → Int64} (hr : r_X7_share_51 f g K29 v2 v3 v4 v6 s0 s1 I L = some z) : z.2.1 a = I a ∧ z.2.2 a = L a := by
  unfold r_X7_share_51 at hr
  have q := hK29 _ _ _ _ _ _ _ hr
  exact ⟨q.1.trans rfl, q.2.trans rfl⟩
theorem w_X7_share_29 {f g a : Nat} {z : gRs}  (ha : ¬ (a = 53 ∨ a = 54 ∨ a = 55 ∨ a = 56))  : ∀ {m : Nat} {v2 : Int32} {v3 : Int32} {v4 : Int32} {v5 : Int32} {v6 : Int32} {I : Nat → Nat → Int32} {L : Nat → Nat → Int64}, r_X7_share_29 f g m v2 v3 v4 v5 v6 I L = some z → z.2.1 a = I a ∧ z.2.2 a = L a := by
  intro m
  induction m with
  | zero =>
    intro v2 v3 v4 v5 v6 I L hr
    cases hr
  | succ m ih =>
    intro v2 v3 v4 v5 v6 I L hr
    have hK29 : ∀ v2 v3 v4 v5 v6 I L, r_X7_share_29 f g m v2 v3 v4 v5 v6 I L = some z → z.2.1 a = I a ∧ z.2.2 a = L a := fun v2 v3 v4 v5 v6 I L hr => ih hr
    unfold r_X7_share_29 at hr
    by_cases c25 : (nI 12) ≤ v6
    · rw [if_pos c25] at hr
      obtain ⟨z26, hz26, hr⟩ := gbnd hr
      have fz26 := w_X7_fraction (a := a) (fun e => e) hz26
      cases hr
      exact ⟨fz26.1, fz26.2⟩
    · rw [if_neg c25] at hr
      by_cases c27 : ((gshr v4 v6) &&& (nI 1)) = 0
      · rw [if_pos c27] at hr
        have q := hK29 _ _ _ _ _ _ _ hr
        exact ⟨q.1.trans rfl, q.2.trans rfl⟩
      · rw [if_neg c27] at hr
        obtain ⟨z28, hz28, hr⟩ := gbnd hr
        have fz28 := w_X7_singersOf (a := a) (fun h => h.elim (fun e => ha (Or.inr (Or.inr (Or.inl (e))))) (fun e => ha (Or.inr (Or.inr (Or.inr (e)))))) hz28
        by_cases c29 : z28.1 ≤ 0
        · rw [if_pos c29] at hr
          have q := w_X7_share_51 (a := a) ha hK29 hr
          exact ⟨q.1.trans fz28.1, q.2.trans fz28.2⟩
        · rw [if_neg c29] at hr
          obtain ⟨b30, hr⟩ := gopt hr
          have q := w_X7_share_51 (a := a) ha hK29 hr
          exact ⟨q.1.trans fz28.1, q.2.trans fz28.2⟩
theorem w_X7_share_10 {f g a : Nat} {z : gRs}  (ha : ¬ (a = 53 ∨ a = 54 ∨ a = 55 ∨ a = 56))   {I : Nat → Nat → Int32} {L : Nat → Nat → Int64} (hr : r_X7_share_10 f g  I L = some z) : z.2.1 a = I a ∧ z.2.2 a = L a := by
  unfold r_X7_share_10 at hr
  cases hr
  exact ⟨rfl, rfl⟩
theorem w_X7_share {f g a : Nat} {z : gRs} {I : Nat → Nat → Int32} {L : Nat → Nat → Int64} {a1 : Int32} {a2 : Int32} {a3 : Int32} (ha : ¬ (a = 53 ∨ a = 54 ∨ a = 55 ∨ a = 56)) (hr : r_X7_share f g I L a1 a2 a3 = some z) : z.2.1 a = I a ∧ z.2.2 a = L a := by
  unfold r_X7_share at hr
  by_cases c31 : (f_X1_isBeast I L f a1) = 0
  · rw [if_pos c31] at hr
    have q := w_X7_share_10 (a := a) ha  hr
    exact ⟨q.1.trans rfl, q.2.trans rfl⟩
  · rw [if_neg c31] at hr
    by_cases c32 : ¬ (f_X1_isLane I L f a2) = 0
    · rw [if_pos c32] at hr
      obtain ⟨z33, hz33, hr⟩ := gbnd hr
      have fz33 := w_X1_sing (a := a) (fun h => h.elim (fun e => ha (Or.inl (e))) (fun e => ha (Or.inr (Or.inl (e))))) hz33
      obtain ⟨z34, hz34, hr⟩ := gbnd hr
      have fz34 := w_X6_toneBits (a := a) (fun e => e) hz34
      have q := w_X7_share_29 (a := a) ha  hr
      exact ⟨q.1.trans (fz34.1.trans fz33.1), q.2.trans (fz34.2.trans fz33.2)⟩
    · rw [if_neg c32] at hr
      have q := w_X7_share_10 (a := a) ha  hr
      exact ⟨q.1.trans rfl, q.2.trans rfl⟩
theorem w_X7_rests_82 {f g a : Nat} {z : gRs}  (ha : ¬ (a = 50 ∨ a = 51 ∨ a = 52 ∨ a = 53 ∨ a = 54 ∨ a = 55 ∨ a = 56))  {s0 : Int32} {I : Nat → Nat → Int32} {L : Nat → Nat → Int64} (hr : r_X7_rests_82 f g s0 I L = some z) : z.2.1 a = I a ∧ z.2.2 a = L a := by
  unfold r_X7_rests_82 at hr
  cases hr
  exact ⟨rfl, rfl⟩
theorem w_X7_rests_40 {f g a : Nat} {z : gRs}  (ha : ¬ (a = 50 ∨ a = 51 ∨ a = 52 ∨ a = 53 ∨ a = 54 ∨ a = 55 ∨ a = 56)) {K24 : Int32 → Int32 → Int32 → Int32 → (Nat → Nat → Int32) → (Nat → Nat → Int64) → Option gRs} (hK24 : ∀ v1 v2 v3 v4 I L, K24 v1 v2 v3 v4 I L = some z → z.2.1 a = I a ∧ z.2.2 a = L a) : ∀ {m : Nat} {v1 : Int32} {v2 : Int32} {v3 : Int32} {v4 : Int32} {v5 : Int32} {I : Nat → Nat → Int32} {L : Nat → Nat → Int64}, r_X7_rests_40 f g K24 m v1 v2 v3 v4 v5 I L = some z → z.2.1 a = I a ∧ z.2.2 a = L a := by
  intro m
  induction m with
  | zero =>
    intro v1 v2 v3 v4 v5 I L hr
    cases hr
  | succ m ih =>
    intro v1 v2 v3 v4 v5 I L hr
    have hK40 : ∀ v1 v2 v3 v4 v5 I L, r_X7_rests_40 f g K24 m v1 v2 v3 v4 v5 I L = some z → z.2.1 a = I a ∧ z.2.2 a = L a := fun v1 v2 v3 v4 v5 I L hr => ih hr
    unfold r_X7_rests_40 at hr
    by_cases c27 : (I f 1) ≤ v5
    · rw [if_pos c27] at hr
      have q := hK24 _ _ _ _ _ _ hr
      exact ⟨q.1.trans rfl, q.2.trans rfl⟩
    · rw [if_neg c27] at hr
      obtain ⟨z28, hz28, hr⟩ := gbnd hr
      have fz28 := w_X1_sing (a := a) (fun h => h.elim (fun e => ha (Or.inr (Or.inr (Or.inr (Or.inr (Or.inr (Or.inl (e)))))))) (fun e => ha (Or.inr (Or.inr (Or.inr (Or.inr (Or.inr (Or.inr (e))))))))) hz28
      obtain ⟨z29, hz29, hr⟩ := gbnd hr
      have fz29 := w_X3_meet (a := a) (fun h => h.elim (fun e => ha (Or.inr (Or.inl (e)))) (fun e => ha (Or.inr (Or.inr (Or.inl (e)))))) hz29
      have q := hK40 _ _ _ _ _ _ _ hr
      exact ⟨q.1.trans (fz29.1.trans fz28.1), q.2.trans (fz29.2.trans fz28.2)⟩
theorem w_X7_rests_24 {f g a : Nat} {z : gRs}  (ha : ¬ (a = 50 ∨ a = 51 ∨ a = 52 ∨ a = 53 ∨ a = 54 ∨ a = 55 ∨ a = 56))  : ∀ {m : Nat} {v1 : Int32} {v2 : Int32} {v3 : Int32} {v4 : Int32} {I : Nat → Nat → Int32} {L : Nat → Nat → Int64}, r_X7_rests_24 f g m v1 v2 v3 v4 I L = some z → z.2.1 a = I a ∧ z.2.2 a = L a := by
  intro m
  induction m with
  | zero =>
    intro v1 v2 v3 v4 I L hr
    cases hr
  | succ m ih =>
    intro v1 v2 v3 v4 I L hr
    have hK24 : ∀ v1 v2 v3 v4 I L, r_X7_rests_24 f g m v1 v2 v3 v4 I L = some z → z.2.1 a = I a ∧ z.2.2 a = L a := fun v1 v2 v3 v4 I L hr => ih hr
    unfold r_X7_rests_24 at hr
    by_cases c30 : (I f 1) ≤ v4
    · rw [if_pos c30] at hr
      obtain ⟨z31, hz31, hr⟩ := gbnd hr
      have fz31 := w_X3_settle (a := a) (fun e => ha (Or.inl (e))) hz31
      by_cases c32 : ¬ v3 = 0
      · rw [if_pos c32] at hr
        have q := w_X7_rests_82 (a := a) ha  hr
        exact ⟨q.1.trans fz31.1, q.2.trans fz31.2⟩
      · rw [if_neg c32] at hr
        have q := w_X7_rests_82 (a := a) ha  hr
        exact ⟨q.1.trans fz31.1, q.2.trans fz31.2⟩
    · rw [if_neg c30] at hr
      obtain ⟨z33, hz33, hr⟩ := gbnd hr
      have fz33 := w_X1_sing (a := a) (fun h => h.elim (fun e => ha (Or.inr (Or.inr (Or.inr (Or.inl (e)))))) (fun e => ha (Or.inr (Or.inr (Or.inr (Or.inr (Or.inl (e)))))))) hz33
      have q := w_X7_rests_40 (a := a) ha hK24 hr
      exact ⟨q.1.trans fz33.1, q.2.trans fz33.2⟩
theorem w_X7_rests_20 {f g a : Nat} {z : gRs}  (ha : ¬ (a = 50 ∨ a = 51 ∨ a = 52 ∨ a = 53 ∨ a = 54 ∨ a = 55 ∨ a = 56))   {I : Nat → Nat → Int32} {L : Nat → Nat → Int64} (hr : r_X7_rests_20 f g  I L = some z) : z.2.1 a = I a ∧ z.2.2 a = L a := by
  unfold r_X7_rests_20 at hr
  cases hr
  exact ⟨rfl, rfl⟩
theorem w_X7_rests_10 {f g a : Nat} {z : gRs}  (ha : ¬ (a = 50 ∨ a = 51 ∨ a = 52 ∨ a = 53 ∨ a = 54 ∨ a = 55 ∨ a = 56))   {I : Nat → Nat → Int32} {L : Nat → Nat → Int64} (hr : r_X7_rests_10 f g  I L = some z) : z.2.1 a = I a ∧ z.2.2 a = L a := by
  unfold r_X7_rests_10 at hr
  cases hr
  exact ⟨rfl, rfl⟩
theorem w_X7_rests {f g a : Nat} {z : gRs} {I : Nat → Nat → Int32} {L : Nat → Nat → Int64} {a1 : Int32} {a2 : Int32} {a3 : Int32} (ha : ¬ (a = 50 ∨ a = 51 ∨ a = 52 ∨ a = 53 ∨ a = 54 ∨ a = 55 ∨ a = 56)) (hr : r_X7_rests f g I L a1 a2 a3 = some z) : z.2.1 a = I a ∧ z.2.2 a = L a := by
  unfold r_X7_rests at hr
  by_cases c34 : (f_X1_isBeast I L f a1) = 0
  · rw [if_pos c34] at hr
    have q := w_X7_rests_10 (a := a) ha  hr
    exact ⟨q.1.trans rfl, q.2.trans rfl⟩
  · rw [if_neg c34] at hr
    by_cases c35 : ¬ (f_X1_isBeast I L f a2) = 0
    · rw [if_pos c35] at hr
      by_cases c36 : a1 = a2
      · rw [if_pos c36] at hr
        have q := w_X7_rests_20 (a := a) ha  hr
        exact ⟨q.1.trans rfl, q.2.trans rfl⟩
      · rw [if_neg c36] at hr
        by_cases c37 : a3 < 0
        · rw [if_pos c37] at hr
          have q := w_X7_rests_20 (a := a) ha  hr
          exact ⟨q.1.trans rfl, q.2.trans rfl⟩
        · rw [if_neg c37] at hr
          by_cases c38 : a3 ≤ (nI 1)
          · rw [if_pos c38] at hr
            have q := w_X7_rests_24 (a := a) ha  hr
            exact ⟨q.1.trans rfl, q.2.trans rfl⟩
          · rw [if_neg c38] at hr
            have q := w_X7_rests_20 (a := a) ha  hr
            exact ⟨q.1.trans rfl, q.2.trans rfl⟩
    · rw [if_neg c35] at hr
      have q := w_X7_rests_10 (a := a) ha  hr
      exact ⟨q.1.trans rfl, q.2.trans rfl⟩
theorem w_X7_chanceOf_25 {a : Nat} {z : gRs}  (ha : ¬ (False)) {K4 : Int32 → Int32 → Int32 → Int32 → Int32 → (Nat → Nat → Int32) → (Nat → Nat → Int64) → Option gRs} (hK4 : ∀ v0 v1 v2 v3 v4 I L, K4 v0 v1 v2 v3 v4 I L = some z → z.2.1 a = I a ∧ z.2.2 a = L a) {v0 : Int32} {v1 : Int32} {v2 : Int32} {v4 : Int32} {s0 : Int32} {s1 : Int32} {I : Nat → Nat → Int32} {L : Nat → Nat → Int64} (hr : r_X7_chanceOf_25 K4 v0 v1 v2 v4 s0 s1 I L = some z) : z.2.1 a = I a ∧ z.2.2 a = L a := by
  unfold r_X7_chanceOf_25 at hr
  have q := hK4 _ _ _ _ _ _ _ hr
  exact ⟨q.1.trans rfl, q.2.trans rfl⟩
theorem w_X7_chanceOf_4 {a : Nat} {z : gRs}  (ha : ¬ (False))  : ∀ {m : Nat} {v0 : Int32} {v1 : Int32} {v2 : Int32} {v3 : Int32} {v4 : Int32} {I : Nat → Nat → Int32} {L : Nat → Nat → Int64}, r_X7_chanceOf_4  m v0 v1 v2 v3 v4 I L = some z → z.2.1 a = I a ∧ z.2.2 a = L a := by
  intro m
  induction m with
  | zero =>
    intro v0 v1 v2 v3 v4 I L hr
    cases hr
  | succ m ih =>
    intro v0 v1 v2 v3 v4 I L hr
    have hK4 : ∀ v0 v1 v2 v3 v4 I L, r_X7_chanceOf_4  m v0 v1 v2 v3 v4 I L = some z → z.2.1 a = I a ∧ z.2.2 a = L a := fun v0 v1 v2 v3 v4 I L hr => ih hr
    unfold r_X7_chanceOf_4 at hr
    by_cases c7 : (nI 5) ≤ v4
    · rw [if_pos c7] at hr
      cases hr
      exact ⟨rfl, rfl⟩
    · rw [if_neg c7] at hr
      by_cases c8 : ((gshr v1 v4) &&& (nI 1)) = 0
      · rw [if_pos c8] at hr
        have q := hK4 _ _ _ _ _ _ _ hr
        exact ⟨q.1.trans rfl, q.2.trans rfl⟩
      · rw [if_neg c8] at hr
        by_cases c9 : ((gshr v0 v4) &&& (nI 1)) = 0
        · rw [if_pos c9] at hr
          have q := w_X7_chanceOf_25 (a := a) ha hK4 hr
          exact ⟨q.1.trans rfl, q.2.trans rfl⟩
        · rw [if_neg c9] at hr
          have q := w_X7_chanceOf_25 (a := a) ha hK4 hr
          exact ⟨q.1.trans rfl, q.2.trans rfl⟩
theorem w_X7_chanceOf {a : Nat} {z : gRs} {I : Nat → Nat → Int32} {L : Nat → Nat → Int64} {a0 : Int32} {a1 : Int32} {a2 : Int32} (ha : ¬ (False)) (hr : r_X7_chanceOf I L a0 a1 a2 = some z) : z.2.1 a = I a ∧ z.2.2 a = L a := by
  unfold r_X7_chanceOf at hr
  have q := w_X7_chanceOf_4 (a := a) ha  hr
  exact ⟨q.1.trans rfl, q.2.trans rfl⟩
theorem w_X7_tonesWhenOiled {f g a : Nat} {z : gRs} {I : Nat → Nat → Int32} {L : Nat → Nat → Int64} {a1 : Int32} {a2 : Int32} {a3 : Int32} (ha : ¬ (a = 19 ∨ a = 53 ∨ a = 54)) (hr : r_X7_tonesWhenOiled f g I L a1 a2 a3 = some z) : z.2.1 a = I a ∧ z.2.2 a = L a := by
  unfold r_X7_tonesWhenOiled at hr
  obtain ⟨z3, hz3, hr⟩ := gbnd hr
  have fz3 := w_X1_sing (a := a) (fun h => h.elim (fun e => ha (Or.inr (Or.inl (e)))) (fun e => ha (Or.inr (Or.inr (e))))) hz3
  obtain ⟨z4, hz4, hr⟩ := gbnd hr
  have fz4 := w_X6_toneCount (a := a) (fun e => e) hz4
  cases hr
  exact ⟨(fz4.1.trans (fz3.1.trans ((gu2_other (fun e => ha (Or.inl (e)))).trans (wi_X4_become (I := I) (L := L) (fun e => ha (Or.inl (e))))))), (fz4.2.trans (fz3.2.trans (wl_X4_become (I := I) (L := L) (fun e => ha (Or.inl (e))))))⟩
theorem w_X7_drips_70 {f g a : Nat} {z : gRs}  (ha : ¬ (a = 19 ∨ a = 53 ∨ a = 54)) {K41 : Int32 → Int32 → Int32 → Int32 → Int32 → Int32 → Int32 → Int32 → Int32 → (Nat → Nat → Int32) → (Nat → Nat → Int64) → Option gRs} (hK41 : ∀ v1 v2 v3 v4 v5 v6 v7 v8 v9 I L, K41 v1 v2 v3 v4 v5 v6 v7 v8 v9 I L = some z → z.2.1 a = I a ∧ z.2.2 a = L a) {v1 : Int32} {v2 : Int32} {v3 : Int32} {v4 : Int32} {v5 : Int32} {v6 : Int32} {v8 : Int32} {v9 : Int32} {s0 : Int32} {s1 : Int32} {I : Nat → Nat → Int32} {L : Nat → Nat → Int64} (hr : r_X7_drips_70 f g K41 v1 v2 v3 v4 v5 v6 v8 v9 s0 s1 I L = some z) : z.2.1 a = I a ∧ z.2.2 a = L a := by
  unfold r_X7_drips_70 at hr
  have q := hK41 _ _ _ _ _ _ _ _ _ _ _ hr
  exact ⟨q.1.trans rfl, q.2.trans rfl⟩
theorem w_X7_drips_41 {f g a : Nat} {z : gRs}  (ha : ¬ (a = 19 ∨ a = 53 ∨ a = 54))  : ∀ {m : Nat} {v1 : Int32} {v2 : Int32} {v3 : Int32} {v4 : Int32} {v5 : Int32} {v6 : Int32} {v7 : Int32} {v8 : Int32} {v9 : Int32} {I : Nat → Nat → Int32} {L : Nat → Nat → Int64}, r_X7_drips_41 f g m v1 v2 v3 v4 v5 v6 v7 v8 v9 I L = some z → z.2.1 a = I a ∧ z.2.2 a = L a := by
  intro m
  induction m with
  | zero =>
    intro v1 v2 v3 v4 v5 v6 v7 v8 v9 I L hr
    cases hr
  | succ m ih =>
    intro v1 v2 v3 v4 v5 v6 v7 v8 v9 I L hr
    have hK41 : ∀ v1 v2 v3 v4 v5 v6 v7 v8 v9 I L, r_X7_drips_41 f g m v1 v2 v3 v4 v5 v6 v7 v8 v9 I L = some z → z.2.1 a = I a ∧ z.2.2 a = L a := fun v1 v2 v3 v4 v5 v6 v7 v8 v9 I L hr => ih hr
    unfold r_X7_drips_41 at hr
    by_cases c34 : (nI 32) ≤ v9
    · rw [if_pos c34] at hr
      obtain ⟨z35, hz35, hr⟩ := gbnd hr
      have fz35 := w_X7_fraction (a := a) (fun e => e) hz35
      cases hr
      exact ⟨fz35.1, fz35.2⟩
    · rw [if_neg c34] at hr
      by_cases c36 : ¬ (v9 &&& (v6 ^^^ (-1 : Int32))) = 0
      · rw [if_pos c36] at hr
        have q := hK41 _ _ _ _ _ _ _ _ _ _ _ hr
        exact ⟨q.1.trans rfl, q.2.trans rfl⟩
      · rw [if_neg c36] at hr
        obtain ⟨z37, hz37, hr⟩ := gbnd hr
        have fz37 := w_X7_chanceOf (a := a) (fun e => e) hz37
        obtain ⟨z38, hz38, hr⟩ := gbnd hr
        have fz38 := w_X7_tonesWhenOiled (a := a) (fun h => h.elim (fun e => ha (Or.inl (e))) (fun h => h.elim (fun e => ha (Or.inr (Or.inl (e)))) (fun e => ha (Or.inr (Or.inr (e)))))) hz38
        by_cases c39 : v3 < z38.1
        · rw [if_pos c39] at hr
          have q := w_X7_drips_70 (a := a) ha hK41 hr
          exact ⟨q.1.trans (fz38.1.trans fz37.1), q.2.trans (fz38.2.trans fz37.2)⟩
        · rw [if_neg c39] at hr
          have q := w_X7_drips_70 (a := a) ha hK41 hr
          exact ⟨q.1.trans (fz38.1.trans fz37.1), q.2.trans (fz38.2.trans fz37.2)⟩
theorem w_X7_drips_22 {f g a : Nat} {z : gRs}  (ha : ¬ (a = 19 ∨ a = 53 ∨ a = 54))   {I : Nat → Nat → Int32} {L : Nat → Nat → Int64} (hr : r_X7_drips_22 f g  I L = some z) : z.2.1 a = I a ∧ z.2.2 a = L a := by
  unfold r_X7_drips_22 at hr
  cases hr
  exact ⟨rfl, rfl⟩
theorem w_X7_drips_10 {f g a : Nat} {z : gRs}  (ha : ¬ (a = 19 ∨ a = 53 ∨ a = 54))   {I : Nat → Nat → Int32} {L : Nat → Nat → Int64} (hr : r_X7_drips_10 f g  I L = some z) : z.2.1 a = I a ∧ z.2.2 a = L a := by
  unfold r_X7_drips_10 at hr
  cases hr
  exact ⟨rfl, rfl⟩
theorem w_X7_drips {f g a : Nat} {z : gRs} {I : Nat → Nat → Int32} {L : Nat → Nat → Int64} {a1 : Int32} {a2 : Int32} {a3 : Int32} {a4 : Int32} {a5 : Int32} (ha : ¬ (a = 19 ∨ a = 53 ∨ a = 54)) (hr : r_X7_drips f g I L a1 a2 a3 a4 a5 = some z) : z.2.1 a = I a ∧ z.2.2 a = L a := by
  unfold r_X7_drips at hr
  by_cases c40 : (f_X1_isBeast I L f a1) = 0
  · rw [if_pos c40] at hr
    have q := w_X7_drips_10 (a := a) ha  hr
    exact ⟨q.1.trans rfl, q.2.trans rfl⟩
  · rw [if_neg c40] at hr
    by_cases c41 : ¬ (f_X1_isLane I L f a2) = 0
    · rw [if_pos c41] at hr
      by_cases c42 : a3 < 0
      · rw [if_pos c42] at hr
        have q := w_X7_drips_22 (a := a) ha  hr
        exact ⟨q.1.trans rfl, q.2.trans rfl⟩
      · rw [if_neg c42] at hr
        by_cases c43 : (nI 12) < a3
        · rw [if_pos c43] at hr
          have q := w_X7_drips_22 (a := a) ha  hr
          exact ⟨q.1.trans rfl, q.2.trans rfl⟩
        · rw [if_neg c43] at hr
          by_cases c44 : a4 < 0
          · rw [if_pos c44] at hr
            have q := w_X7_drips_22 (a := a) ha  hr
            exact ⟨q.1.trans rfl, q.2.trans rfl⟩
          · rw [if_neg c44] at hr
            by_cases c45 : a4 ≤ (nI 10)
            · rw [if_pos c45] at hr
              obtain ⟨z46, hz46, hr⟩ := gbnd hr
              have fz46 := w_X1_gatesOf (a := a) (fun e => e) hz46
              have q := w_X7_drips_41 (a := a) ha  hr
              exact ⟨q.1.trans fz46.1, q.2.trans fz46.2⟩
            · rw [if_neg c45] at hr
              have q := w_X7_drips_22 (a := a) ha  hr
              exact ⟨q.1.trans rfl, q.2.trans rfl⟩
    · rw [if_neg c41] at hr
      have q := w_X7_drips_10 (a := a) ha  hr
      exact ⟨q.1.trans rfl, q.2.trans rfl⟩
theorem wl_X7_seed {f g a : Nat} {I : Nat → Nat → Int32} {L : Nat → Nat → Int64} {a1 : Int64} (ha : ¬ (a = 2)) : l_X7_seed f g I L a1 a = L a := (gu2_other (fun e => ha (e)))
theorem w_X7_doChance_35 {f g a : Nat} {z : gRs} {a1 : Nat} (ha : ¬ (a = 53 ∨ a = 54 ∨ a = a1))   {I : Nat → Nat → Int32} {L : Nat → Nat → Int64} (hr : r_X7_doChance_35 f g a1  I L = some z) : z.2.1 a = I a ∧ z.2.2 a = L a := by
  unfold r_X7_doChance_35 at hr
  cases hr
  exact ⟨rfl, rfl⟩
theorem w_X7_doChance {f g a : Nat} {z : gRs} {I : Nat → Nat → Int32} {L : Nat → Nat → Int64} {a1 : Nat} {a2 : Int32} (ha : ¬ (a = 53 ∨ a = 54 ∨ a = a1)) (hr : r_X7_doChance f g I L a1 a2 = some z) : z.2.1 a = I a ∧ z.2.2 a = L a := by
  unfold r_X7_doChance at hr
  by_cases c11 : ¬ a2 = (nI 20)
  · rw [if_pos c11] at hr
    by_cases c12 : a2 < (nI 15)
    · rw [if_pos c12] at hr
      obtain ⟨z13, hz13, hr⟩ := gbnd hr
      have fz13 := w_X7_goesHome (a := a) (fun h => h.elim (fun e => ha (Or.inl (e))) (fun h => h.elim (fun e => ha (Or.inr (Or.inl (e)))) (fun e => ha (Or.inr (Or.inr (e)))))) hz13
      by_cases c14 : z13.1 = 0
      · rw [if_pos c14] at hr
        have q := w_X7_doChance_35 (a := a) ha  hr
        exact ⟨q.1.trans fz13.1, q.2.trans fz13.2⟩
      · rw [if_neg c14] at hr
        obtain ⟨z15, hz15, hr⟩ := gbnd hr
        have fz15 := w_X6_toneCount (a := a) (fun e => e) hz15
        cases hr
        exact ⟨(fz15.1.trans fz13.1), (fz15.2.trans fz13.2)⟩
    · rw [if_neg c12] at hr
      have q := w_X7_doChance_35 (a := a) ha  hr
      exact ⟨q.1.trans (wi_X7_turnsOut (f := f) (g := g) (I := I) (L := L) (fun e => ha (Or.inr (Or.inr (e))))), q.2.trans rfl⟩
  · rw [if_neg c11] at hr
    have q := w_X7_doChance_35 (a := a) ha  hr
    exact ⟨q.1.trans (gu2_other (fun e => ha (Or.inr (Or.inr (e))))), q.2.trans rfl⟩
theorem w_X7_winters_17 {f g a : Nat} {z : gRs}  (ha : ¬ (a = 19 ∨ a = 2 ∨ a = 53 ∨ a = 54))  : ∀ {m : Nat} {v1 : Int32} {v2 : Int32} {v3 : Int32} {I : Nat → Nat → Int32} {L : Nat → Nat → Int64}, r_X7_winters_17 f g m v1 v2 v3 I L = some z → z.2.1 a = I a ∧ z.2.2 a = L a := by
  intro m
  induction m with
  | zero =>
    intro v1 v2 v3 I L hr
    cases hr
  | succ m ih =>
    intro v1 v2 v3 I L hr
    have hK17 : ∀ v1 v2 v3 I L, r_X7_winters_17 f g m v1 v2 v3 I L = some z → z.2.1 a = I a ∧ z.2.2 a = L a := fun v1 v2 v3 I L hr => ih hr
    unfold r_X7_winters_17 at hr
    by_cases c7 : v1 ≤ v3
    · rw [if_pos c7] at hr
      cases hr
      exact ⟨rfl, rfl⟩
    · rw [if_neg c7] at hr
      obtain ⟨z8, hz8, hr⟩ := gbnd hr
      have fz8 := w_X7_doChance (a := a) (fun h => h.elim (fun e => ha (Or.inr (Or.inr (Or.inl (e))))) (fun h => h.elim (fun e => ha (Or.inr (Or.inr (Or.inr (e))))) (fun e => ha (Or.inl (e))))) hz8
      have q := hK17 _ _ _ _ _ hr
      exact ⟨q.1.trans fz8.1, q.2.trans (fz8.2.trans (gu2_other (fun e => ha (Or.inr (Or.inl (e))))))⟩
theorem w_X7_winters_6 {f g a : Nat} {z : gRs}  (ha : ¬ (a = 19 ∨ a = 2 ∨ a = 53 ∨ a = 54))   {I : Nat → Nat → Int32} {L : Nat → Nat → Int64} (hr : r_X7_winters_6 f g  I L = some z) : z.2.1 a = I a ∧ z.2.2 a = L a := by
  unfold r_X7_winters_6 at hr
  cases hr
  exact ⟨rfl, rfl⟩
theorem w_X7_winters {f g a : Nat} {z : gRs} {I : Nat → Nat → Int32} {L : Nat → Nat → Int64} {a1 : Int32} (ha : ¬ (a = 19 ∨ a = 2 ∨ a = 53 ∨ a = 54)) (hr : r_X7_winters f g I L a1 = some z) : z.2.1 a = I a ∧ z.2.2 a = L a := by
  unfold r_X7_winters at hr
  by_cases c9 : a1 < (nI 1)
  · rw [if_pos c9] at hr
    have q := w_X7_winters_6 (a := a) ha  hr
    exact ⟨q.1.trans rfl, q.2.trans rfl⟩
  · rw [if_neg c9] at hr
    by_cases c10 : a1 ≤ (nI 30)
    · rw [if_pos c10] at hr
      have q := w_X7_winters_17 (a := a) ha  hr
      exact ⟨q.1.trans (wi_X4_become (I := I) (L := L) (fun e => ha (Or.inl (e)))), q.2.trans (wl_X4_become (I := I) (L := L) (fun e => ha (Or.inl (e))))⟩
    · rw [if_neg c10] at hr
      have q := w_X7_winters_6 (a := a) ha  hr
      exact ⟨q.1.trans rfl, q.2.trans rfl⟩
theorem w_X7_keep {f g a : Nat} {z : gRs} {I : Nat → Nat → Int32} {L : Nat → Nat → Int64} {a1 : Int32} (ha : ¬ (a = 39 ∨ (37 ≤ a ∧ a ≤ 38))) (hr : r_X7_keep f g I L a1 = some z) : z.2.1 a = I a ∧ z.2.2 a = L a := by
  unfold r_X7_keep at hr
  by_cases c4 : ¬ (f_X7_isSlot I L a1) = 0
  · rw [if_pos c4] at hr
    obtain ⟨b5, hr⟩ := gopt hr
    obtain ⟨b6, hr⟩ := gopt hr
    cases hr
    exact ⟨((gu2_other (fun e => ha (Or.inl (e)))).trans (wi_X4_become (I := I) (L := L) (fun e => ha (Or.inr ((by have := gx_lt (gvp_in b6); omega)))))), (wl_X4_become (I := I) (L := L) (fun e => ha (Or.inr ((by have := gx_lt (gvp_in b6); omega)))))⟩
  · rw [if_neg c4] at hr
    cases hr
    exact ⟨rfl, rfl⟩
theorem w_X7_again {f g a : Nat} {z : gRs} {I : Nat → Nat → Int32} {L : Nat → Nat → Int64} {a1 : Int32} (ha : ¬ (a = 18 ∨ a = 20)) (hr : r_X7_again f g I L a1 = some z) : z.2.1 a = I a ∧ z.2.2 a = L a := by
  unfold r_X7_again at hr
  by_cases c5 : ¬ (f_X7_isSlot I L a1) = 0
  · rw [if_pos c5] at hr
    obtain ⟨b6, hr⟩ := gopt hr
    by_cases c7 : ¬ (I 39 (gx a1)) = 0
    · rw [if_pos c7] at hr
      obtain ⟨b8, hr⟩ := gopt hr
      cases hr
      exact ⟨((wi_X0_forgetAll (I := (i_X4_become I L 18 (37 + gx a1))) (L := (l_X4_become I L 18 (37 + gx a1))) (fun e => ha (Or.inr (e)))).trans (wi_X4_become (I := I) (L := L) (fun e => ha (Or.inl (e))))), (wl_X4_become (I := I) (L := L) (fun e => ha (Or.inl (e))))⟩
    · rw [if_neg c7] at hr
      cases hr
      exact ⟨rfl, rfl⟩
  · rw [if_neg c5] at hr
    cases hr
    exact ⟨rfl, rfl⟩
theorem w_X8_ones_4 {a : Nat} {z : gRs}  (ha : ¬ (False))  : ∀ {m : Nat} {v0 : Int32} {v1 : Int32} {v2 : Int32} {I : Nat → Nat → Int32} {L : Nat → Nat → Int64}, r_X8_ones_4  m v0 v1 v2 I L = some z → z.2.1 a = I a ∧ z.2.2 a = L a := by
  intro m
  induction m with
  | zero =>
    intro v0 v1 v2 I L hr
    cases hr
  | succ m ih =>
    intro v0 v1 v2 I L hr
    have hK4 : ∀ v0 v1 v2 I L, r_X8_ones_4  m v0 v1 v2 I L = some z → z.2.1 a = I a ∧ z.2.2 a = L a := fun v0 v1 v2 I L hr => ih hr
    unfold r_X8_ones_4 at hr
    by_cases c2 : (nI 13) ≤ v2
    · rw [if_pos c2] at hr
      cases hr
      exact ⟨rfl, rfl⟩
    · rw [if_neg c2] at hr
      have q := hK4 _ _ _ _ _ hr
      exact ⟨q.1.trans rfl, q.2.trans rfl⟩
theorem w_X8_ones {a : Nat} {z : gRs} {I : Nat → Nat → Int32} {L : Nat → Nat → Int64} {a0 : Int32} (ha : ¬ (False)) (hr : r_X8_ones I L a0 = some z) : z.2.1 a = I a ∧ z.2.2 a = L a := by
  unfold r_X8_ones at hr
  have q := w_X8_ones_4 (a := a) ha  hr
  exact ⟨q.1.trans rfl, q.2.trans rfl⟩
theorem w_X8_write {a : Nat} {z : gRs} {I : Nat → Nat → Int32} {L : Nat → Nat → Int64} {a1 : Int32} (ha : ¬ (a = 57 ∨ a = 68)) (hr : r_X8_write I L a1 = some z) : z.2.1 a = I a ∧ z.2.2 a = L a := by
  unfold r_X8_write at hr
  by_cases c4 : ¬ (f_X8_in I L (Int32.toInt64 a1) (lN 0) (lN 255)) = 0
  · rw [if_pos c4] at hr
    by_cases c5 : ¬ (I 57 20) = (nI 60)
    · rw [if_pos c5] at hr
      obtain ⟨b6, hr⟩ := gopt hr
      cases hr
      exact ⟨((gu2_other (fun e => ha (Or.inl (e)))).trans (gu2_other (fun e => ha (Or.inr (e))))), rfl⟩
    · rw [if_neg c5] at hr
      cases hr
      exact ⟨rfl, rfl⟩
  · rw [if_neg c4] at hr
    cases hr
    exact ⟨rfl, rfl⟩
theorem wi_X8_wipe {a : Nat} {I : Nat → Nat → Int32} {L : Nat → Nat → Int64}  (ha : ¬ (a = 57)) : i_X8_wipe I L  a = I a := (gu2_other (fun e => ha (e)))
theorem w_X8_figure_35 {a : Nat} {z : gRs}  (ha : ¬ (a = 57))  {v1 : Int32} {I : Nat → Nat → Int32} {L : Nat → Nat → Int64} (hr : r_X8_figure_35  v1 I L = some z) : z.2.1 a = I a ∧ z.2.2 a = L a := by
  unfold r_X8_figure_35 at hr
  cases hr
  exact ⟨(gu2_other (fun e => ha (e))), rfl⟩
theorem w_X8_figure_24 {a : Nat} {z : gRs}  (ha : ¬ (a = 57))  {v1 : Int32} {v2 : Int32} {v3 : Int32} {s0 : Int32} {I : Nat → Nat → Int32} {L : Nat → Nat → Int64} (hr : r_X8_figure_24  v1 v2 v3 s0 I L = some z) : z.2.1 a = I a ∧ z.2.2 a = L a := by
  unfold r_X8_figure_24 at hr
  by_cases c20 : v3 = 0
  · rw [if_pos c20] at hr
    have q := w_X8_figure_35 (a := a) ha  hr
    exact ⟨q.1.trans rfl, q.2.trans rfl⟩
  · rw [if_neg c20] at hr
    by_cases c21 : ¬ (f_X8_in I L (Int32.toInt64 s0) (Int32.toInt64 v1) (Int32.toInt64 v2)) = 0
    · rw [if_pos c21] at hr
      cases hr
      exact ⟨(gu2_other (fun e => ha (e))), rfl⟩
    · rw [if_neg c21] at hr
      have q := w_X8_figure_35 (a := a) ha  hr
      exact ⟨q.1.trans rfl, q.2.trans rfl⟩
theorem w_X8_figure {a : Nat} {z : gRs} {I : Nat → Nat → Int32} {L : Nat → Nat → Int64} {a1 : Int32} {a2 : Int32} (ha : ¬ (a = 57)) (hr : r_X8_figure I L a1 a2 = some z) : z.2.1 a = I a ∧ z.2.2 a = L a := by
  unfold r_X8_figure at hr
  by_cases c24 : (if ¬ (I 57 22) = (-9 : Int32) then (nI 0) else (if (I 57 20) ≤ (I 57 21) then (nI 0) else (nI 1))) = 0
  · rw [if_pos c24] at hr
    have q := w_X8_figure_24 (a := a) ha  hr
    exact ⟨q.1.trans rfl, q.2.trans rfl⟩
  · rw [if_neg c24] at hr
    obtain ⟨b25, hr⟩ := gopt hr
    have q := w_X8_figure_24 (a := a) ha  hr
    exact ⟨q.1.trans rfl, q.2.trans rfl⟩
theorem w_X8_letterTone_44 {a : Nat} {z : gRs}  (ha : ¬ (a = 57))   {I : Nat → Nat → Int32} {L : Nat → Nat → Int64} (hr : r_X8_letterTone_44   I L = some z) : z.2.1 a = I a ∧ z.2.2 a = L a := by
  unfold r_X8_letterTone_44 at hr
  cases hr
  exact ⟨(gu2_other (fun e => ha (e))), rfl⟩
theorem w_X8_letterTone_32 {a : Nat} {z : gRs}  (ha : ¬ (a = 57))  {v2 : Int32} {I : Nat → Nat → Int32} {L : Nat → Nat → Int64} (hr : r_X8_letterTone_32  v2 I L = some z) : z.2.1 a = I a ∧ z.2.2 a = L a := by
  unfold r_X8_letterTone_32 at hr
  by_cases c30 : v2 = 0
  · rw [if_pos c30] at hr
    have q := w_X8_letterTone_44 (a := a) ha  hr
    exact ⟨q.1.trans rfl, q.2.trans rfl⟩
  · rw [if_neg c30] at hr
    obtain ⟨b31, hr⟩ := gopt hr
    by_cases c32 : ¬ (f_X8_in I L (Int32.toInt64 (I 68 (gx (I 57 21)))) (lN 97) (lN 108)) = 0
    · rw [if_pos c32] at hr
      obtain ⟨b33, hr⟩ := gopt hr
      cases hr
      exact ⟨(gu2_other (fun e => ha (e))), rfl⟩
    · rw [if_neg c32] at hr
      have q := w_X8_letterTone_44 (a := a) ha  hr
      exact ⟨q.1.trans rfl, q.2.trans rfl⟩
theorem w_X8_letterTone {a : Nat} {z : gRs} {I : Nat → Nat → Int32} {L : Nat → Nat → Int64} {a1 : Int32} (ha : ¬ (a = 57)) (hr : r_X8_letterTone I L a1 = some z) : z.2.1 a = I a ∧ z.2.2 a = L a := by
  unfold r_X8_letterTone at hr
  by_cases c36 : (if ¬ (I 57 22) = (-9 : Int32) then (nI 0) else (if (I 57 20) ≤ (I 57 21) then (nI 0) else (nI 1))) = 0
  · rw [if_pos c36] at hr
    have q := w_X8_letterTone_32 (a := a) ha  hr
    exact ⟨q.1.trans rfl, q.2.trans rfl⟩
  · rw [if_neg c36] at hr
    by_cases c37 : a1 = 0
    · rw [if_pos c37] at hr
      have q := w_X8_letterTone_32 (a := a) ha  hr
      exact ⟨q.1.trans rfl, q.2.trans rfl⟩
    · rw [if_neg c37] at hr
      obtain ⟨b38, hr⟩ := gopt hr
      by_cases c39 : ¬ (I 68 (gx (I 57 21))) = (nI 45)
      · rw [if_pos c39] at hr
        have q := w_X8_letterTone_32 (a := a) ha  hr
        exact ⟨q.1.trans rfl, q.2.trans rfl⟩
      · rw [if_neg c39] at hr
        cases hr
        exact ⟨(gu2_other (fun e => ha (e))), rfl⟩
theorem w_X8_readPart_172 {a : Nat} {z : gRs}  (ha : ¬ (a = 57 ∨ a = 64 ∨ a = 65 ∨ a = 66 ∨ a = 67))   {I : Nat → Nat → Int32} {L : Nat → Nat → Int64} (hr : r_X8_readPart_172   I L = some z) : z.2.1 a = I a ∧ z.2.2 a = L a := by
  unfold r_X8_readPart_172 at hr
  cases hr
  exact ⟨(gu2_other (fun e => ha (Or.inl (e)))), rfl⟩
theorem w_X8_readPart_148 {a : Nat} {z : gRs}  (ha : ¬ (a = 57 ∨ a = 64 ∨ a = 65 ∨ a = 66 ∨ a = 67))  : ∀ {m : Nat} {v2 : Int32} {I : Nat → Nat → Int32} {L : Nat → Nat → Int64}, r_X8_readPart_148  m v2 I L = some z → z.2.1 a = I a ∧ z.2.2 a = L a := by
  intro m
  induction m with
  | zero =>
    intro v2 I L hr
    cases hr
  | succ m ih =>
    intro v2 I L hr
    have hK148 : ∀ v2 I L, r_X8_readPart_148  m v2 I L = some z → z.2.1 a = I a ∧ z.2.2 a = L a := fun v2 I L hr => ih hr
    unfold r_X8_readPart_148 at hr
    by_cases c77 : (nI 4) ≤ v2
    · rw [if_pos c77] at hr
      cases hr
      exact ⟨(gu2_other (fun e => ha (Or.inl (e)))), rfl⟩
    · rw [if_neg c77] at hr
      obtain ⟨z78, hz78, hr⟩ := gbnd hr
      have fz78 := w_X8_letterTone (a := a) (fun e => ha (Or.inl (e))) hz78
      obtain ⟨b79, hr⟩ := gopt hr
      have q := hK148 _ _ _ hr
      exact ⟨q.1.trans ((gu2_other (fun e => ha (Or.inr (Or.inr (Or.inr (Or.inr (e))))))).trans fz78.1), q.2.trans fz78.2⟩
theorem w_X8_readPart_133 {a : Nat} {z : gRs}  (ha : ¬ (a = 57 ∨ a = 64 ∨ a = 65 ∨ a = 66 ∨ a = 67))  {v1 : Int32} {I : Nat → Nat → Int32} {L : Nat → Nat → Int64} (hr : r_X8_readPart_133  v1 I L = some z) : z.2.1 a = I a ∧ z.2.2 a = L a := by
  unfold r_X8_readPart_133 at hr
  by_cases c80 : ¬ v1 = (nI 86)
  · rw [if_pos c80] at hr
    have q := w_X8_readPart_172 (a := a) ha  hr
    exact ⟨q.1.trans rfl, q.2.trans rfl⟩
  · rw [if_neg c80] at hr
    by_cases c81 : (nI 2) ≤ (I 57 17)
    · rw [if_pos c81] at hr
      have q := w_X8_readPart_172 (a := a) ha  hr
      exact ⟨q.1.trans rfl, q.2.trans rfl⟩
    · rw [if_neg c81] at hr
      have q := w_X8_readPart_148 (a := a) ha  hr
      exact ⟨q.1.trans (gu2_other (fun e => ha (Or.inl (e)))), q.2.trans rfl⟩
theorem w_X8_readPart_89 {a : Nat} {z : gRs}  (ha : ¬ (a = 57 ∨ a = 64 ∨ a = 65 ∨ a = 66 ∨ a = 67))  {v1 : Int32} {I : Nat → Nat → Int32} {L : Nat → Nat → Int64} (hr : r_X8_readPart_89  v1 I L = some z) : z.2.1 a = I a ∧ z.2.2 a = L a := by
  unfold r_X8_readPart_89 at hr
  by_cases c82 : ¬ v1 = (nI 66)
  · rw [if_pos c82] at hr
    have q := w_X8_readPart_133 (a := a) ha  hr
    exact ⟨q.1.trans rfl, q.2.trans rfl⟩
  · rw [if_neg c82] at hr
    by_cases c83 : (nI 5) ≤ (I 57 16)
    · rw [if_pos c83] at hr
      have q := w_X8_readPart_133 (a := a) ha  hr
      exact ⟨q.1.trans rfl, q.2.trans rfl⟩
    · rw [if_neg c83] at hr
      obtain ⟨z84, hz84, hr⟩ := gbnd hr
      have fz84 := w_X8_figure (a := a) (fun e => ha (Or.inl (e))) hz84
      obtain ⟨b85, hr⟩ := gopt hr
      obtain ⟨z86, hz86, hr⟩ := gbnd hr
      have fz86 := w_X8_figure (a := a) (fun e => ha (Or.inl (e))) hz86
      obtain ⟨b87, hr⟩ := gopt hr
      cases hr
      exact ⟨((gu2_other (fun e => ha (Or.inl (e)))).trans ((gu2_other (fun e => ha (Or.inr (Or.inr (Or.inr (Or.inl (e))))))).trans (fz86.1.trans ((gu2_other (fun e => ha (Or.inr (Or.inr (Or.inr (Or.inl (e))))))).trans (fz84.1.trans (gu2_other (fun e => ha (Or.inl (e))))))))), (fz86.2.trans fz84.2)⟩
theorem w_X8_readPart_61 {a : Nat} {z : gRs}  (ha : ¬ (a = 57 ∨ a = 64 ∨ a = 65 ∨ a = 66 ∨ a = 67))  : ∀ {m : Nat} {v2 : Int32} {I : Nat → Nat → Int32} {L : Nat → Nat → Int64}, r_X8_readPart_61  m v2 I L = some z → z.2.1 a = I a ∧ z.2.2 a = L a := by
  intro m
  induction m with
  | zero =>
    intro v2 I L hr
    cases hr
  | succ m ih =>
    intro v2 I L hr
    have hK61 : ∀ v2 I L, r_X8_readPart_61  m v2 I L = some z → z.2.1 a = I a ∧ z.2.2 a = L a := fun v2 I L hr => ih hr
    unfold r_X8_readPart_61 at hr
    by_cases c88 : (nI 3) ≤ v2
    · rw [if_pos c88] at hr
      cases hr
      exact ⟨(gu2_other (fun e => ha (Or.inl (e)))), rfl⟩
    · rw [if_neg c88] at hr
      obtain ⟨z89, hz89, hr⟩ := gbnd hr
      have fz89 := w_X8_figure (a := a) (fun e => ha (Or.inl (e))) hz89
      obtain ⟨b90, hr⟩ := gopt hr
      have q := hK61 _ _ _ hr
      exact ⟨q.1.trans ((gu2_other (fun e => ha (Or.inr (Or.inr (Or.inl (e)))))).trans fz89.1), q.2.trans fz89.2⟩
theorem w_X8_readPart_43 {a : Nat} {z : gRs}  (ha : ¬ (a = 57 ∨ a = 64 ∨ a = 65 ∨ a = 66 ∨ a = 67))  {v1 : Int32} {I : Nat → Nat → Int32} {L : Nat → Nat → Int64} (hr : r_X8_readPart_43  v1 I L = some z) : z.2.1 a = I a ∧ z.2.2 a = L a := by
  unfold r_X8_readPart_43 at hr
  by_cases c91 : ¬ v1 = (nI 76)
  · rw [if_pos c91] at hr
    have q := w_X8_readPart_89 (a := a) ha  hr
    exact ⟨q.1.trans rfl, q.2.trans rfl⟩
  · rw [if_neg c91] at hr
    by_cases c92 : (nI 3) ≤ (I 57 15)
    · rw [if_pos c92] at hr
      have q := w_X8_readPart_89 (a := a) ha  hr
      exact ⟨q.1.trans rfl, q.2.trans rfl⟩
    · rw [if_neg c92] at hr
      by_cases c93 : (I 57 14) ≤ 0
      · rw [if_pos c93] at hr
        have q := w_X8_readPart_89 (a := a) ha  hr
        exact ⟨q.1.trans rfl, q.2.trans rfl⟩
      · rw [if_neg c93] at hr
        have q := w_X8_readPart_61 (a := a) ha  hr
        exact ⟨q.1.trans (gu2_other (fun e => ha (Or.inl (e)))), q.2.trans rfl⟩
theorem w_X8_readPart {a : Nat} {z : gRs} {I : Nat → Nat → Int32} {L : Nat → Nat → Int64} {a1 : Int32} (ha : ¬ (a = 57 ∨ a = 64 ∨ a = 65 ∨ a = 66 ∨ a = 67)) (hr : r_X8_readPart I L a1 = some z) : z.2.1 a = I a ∧ z.2.2 a = L a := by
  unfold r_X8_readPart at hr
  by_cases c94 : ¬ a1 = (nI 71)
  · rw [if_pos c94] at hr
    have q := w_X8_readPart_43 (a := a) ha  hr
    exact ⟨q.1.trans rfl, q.2.trans rfl⟩
  · rw [if_neg c94] at hr
    by_cases c95 : (nI 5) ≤ (I 57 14)
    · rw [if_pos c95] at hr
      have q := w_X8_readPart_43 (a := a) ha  hr
      exact ⟨q.1.trans rfl, q.2.trans rfl⟩
    · rw [if_neg c95] at hr
      obtain ⟨z96, hz96, hr⟩ := gbnd hr
      have fz96 := w_X8_letterTone (a := a) (fun e => ha (Or.inl (e))) hz96
      obtain ⟨b97, hr⟩ := gopt hr
      obtain ⟨z98, hz98, hr⟩ := gbnd hr
      have fz98 := w_X8_figure (a := a) (fun e => ha (Or.inl (e))) hz98
      obtain ⟨b99, hr⟩ := gopt hr
      cases hr
      exact ⟨((gu2_other (fun e => ha (Or.inl (e)))).trans ((gu2_other (fun e => ha (Or.inr (Or.inl (e))))).trans (fz98.1.trans ((gu2_other (fun e => ha (Or.inr (Or.inl (e))))).trans (fz96.1.trans (gu2_other (fun e => ha (Or.inl (e))))))))), (fz98.2.trans fz96.2)⟩
theorem w_X8_readText_55 {a : Nat} {z : gRs}  (ha : ¬ (a = 57 ∨ a = 64 ∨ a = 65 ∨ a = 66 ∨ a = 67))   {I : Nat → Nat → Int32} {L : Nat → Nat → Int64} (hr : r_X8_readText_55   I L = some z) : z.2.1 a = I a ∧ z.2.2 a = L a := by
  unfold r_X8_readText_55 at hr
  cases hr
  exact ⟨rfl, rfl⟩
theorem w_X8_readText_38 {a : Nat} {z : gRs}  (ha : ¬ (a = 57 ∨ a = 64 ∨ a = 65 ∨ a = 66 ∨ a = 67))  : ∀ {m : Nat}  {I : Nat → Nat → Int32} {L : Nat → Nat → Int64}, r_X8_readText_38  m  I L = some z → z.2.1 a = I a ∧ z.2.2 a = L a := by
  intro m
  induction m with
  | zero =>
    intro I L hr
    cases hr
  | succ m ih =>
    intro I L hr
    have hK38 : ∀  I L, r_X8_readText_38  m  I L = some z → z.2.1 a = I a ∧ z.2.2 a = L a := fun  I L hr => ih hr
    unfold r_X8_readText_38 at hr
    by_cases c18 : ¬ (I 57 22) = (-9 : Int32)
    · rw [if_pos c18] at hr
      have q := w_X8_readText_55 (a := a) ha  hr
      exact ⟨q.1.trans rfl, q.2.trans rfl⟩
    · rw [if_neg c18] at hr
      by_cases c19 : (I 57 20) ≤ (I 57 21)
      · rw [if_pos c19] at hr
        have q := w_X8_readText_55 (a := a) ha  hr
        exact ⟨q.1.trans rfl, q.2.trans rfl⟩
      · rw [if_neg c19] at hr
        obtain ⟨b20, hr⟩ := gopt hr
        obtain ⟨z21, hz21, hr⟩ := gbnd hr
        have fz21 := w_X8_readPart (a := a) (fun h => h.elim (fun e => ha (Or.inl (e))) (fun h => h.elim (fun e => ha (Or.inr (Or.inl (e)))) (fun h => h.elim (fun e => ha (Or.inr (Or.inr (Or.inl (e))))) (fun h => h.elim (fun e => ha (Or.inr (Or.inr (Or.inr (Or.inl (e)))))) (fun e => ha (Or.inr (Or.inr (Or.inr (Or.inr (e)))))))))) hz21
        have q := hK38 _ _ hr
        exact ⟨q.1.trans fz21.1, q.2.trans fz21.2⟩
theorem w_X8_readText_27 {a : Nat} {z : gRs}  (ha : ¬ (a = 57 ∨ a = 64 ∨ a = 65 ∨ a = 66 ∨ a = 67))   {I : Nat → Nat → Int32} {L : Nat → Nat → Int64} (hr : r_X8_readText_27   I L = some z) : z.2.1 a = I a ∧ z.2.2 a = L a := by
  unfold r_X8_readText_27 at hr
  cases hr
  exact ⟨rfl, rfl⟩
theorem w_X8_readText {a : Nat} {z : gRs} {I : Nat → Nat → Int32} {L : Nat → Nat → Int64}  (ha : ¬ (a = 57 ∨ a = 64 ∨ a = 65 ∨ a = 66 ∨ a = 67)) (hr : r_X8_readText I L  = some z) : z.2.1 a = I a ∧ z.2.2 a = L a := by
  unfold r_X8_readText at hr
  by_cases c22 : ((gu2 (gu2 (gu2 (gu2 (gu2 (gu2 I 57 21 (nI 0)) 57 22 (-9 : Int32)) 57 14 (nI 0)) 57 15 (nI 0)) 57 16 (nI 0)) 57 17 (nI 0)) 57 20) = 0
  · rw [if_pos c22] at hr
    have q := w_X8_readText_27 (a := a) ha  hr
    exact ⟨q.1.trans ((gu2_other (fun e => ha (Or.inl (e)))).trans ((gu2_other (fun e => ha (Or.inl (e)))).trans ((gu2_other (fun e => ha (Or.inl (e)))).trans ((gu2_other (fun e => ha (Or.inl (e)))).trans ((gu2_other (fun e => ha (Or.inl (e)))).trans (gu2_other (fun e => ha (Or.inl (e))))))))), q.2.trans rfl⟩
  · rw [if_neg c22] at hr
    by_cases c23 : ((gu2 (gu2 (gu2 (gu2 (gu2 (gu2 I 57 21 (nI 0)) 57 22 (-9 : Int32)) 57 14 (nI 0)) 57 15 (nI 0)) 57 16 (nI 0)) 57 17 (nI 0)) 68 (gx (nI 0))) = (nI 67)
    · rw [if_pos c23] at hr
      obtain ⟨z24, hz24, hr⟩ := gbnd hr
      have fz24 := w_X8_figure (a := a) (fun e => ha (Or.inl (e))) hz24
      have q := w_X8_readText_38 (a := a) ha  hr
      exact ⟨q.1.trans ((gu2_other (fun e => ha (Or.inl (e)))).trans (fz24.1.trans ((gu2_other (fun e => ha (Or.inl (e)))).trans ((gu2_other (fun e => ha (Or.inl (e)))).trans ((gu2_other (fun e => ha (Or.inl (e)))).trans ((gu2_other (fun e => ha (Or.inl (e)))).trans ((gu2_other (fun e => ha (Or.inl (e)))).trans ((gu2_other (fun e => ha (Or.inl (e)))).trans (gu2_other (fun e => ha (Or.inl (e)))))))))))), q.2.trans fz24.2⟩
    · rw [if_neg c23] at hr
      have q := w_X8_readText_27 (a := a) ha  hr
      exact ⟨q.1.trans ((gu2_other (fun e => ha (Or.inl (e)))).trans ((gu2_other (fun e => ha (Or.inl (e)))).trans ((gu2_other (fun e => ha (Or.inl (e)))).trans ((gu2_other (fun e => ha (Or.inl (e)))).trans ((gu2_other (fun e => ha (Or.inl (e)))).trans (gu2_other (fun e => ha (Or.inl (e))))))))), q.2.trans rfl⟩
theorem w_X8_fault {a : Nat} {z : gRs} {I : Nat → Nat → Int32} {L : Nat → Nat → Int64}  (ha : ¬ (a = 57 ∨ a = 64 ∨ a = 65 ∨ a = 66 ∨ a = 67)) (hr : r_X8_fault I L  = some z) : z.2.1 a = I a ∧ z.2.2 a = L a := by
  unfold r_X8_fault at hr
  obtain ⟨z2, hz2, hr⟩ := gbnd hr
  have fz2 := w_X8_readText (a := a) (fun h => h.elim (fun e => ha (Or.inl (e))) (fun h => h.elim (fun e => ha (Or.inr (Or.inl (e)))) (fun h => h.elim (fun e => ha (Or.inr (Or.inr (Or.inl (e))))) (fun h => h.elim (fun e => ha (Or.inr (Or.inr (Or.inr (Or.inl (e)))))) (fun e => ha (Or.inr (Or.inr (Or.inr (Or.inr (e)))))))))) hz2
  cases hr
  exact ⟨fz2.1, fz2.2⟩
theorem w_X8_fen_117 {a : Nat} {z : gRs}  (ha : ¬ (a = 57 ∨ a = 58 ∨ a = 59 ∨ a = 60 ∨ a = 61 ∨ a = 62 ∨ a = 63 ∨ a = 64 ∨ a = 65 ∨ a = 66 ∨ a = 67 ∨ a = 74))  : ∀ {m : Nat} {v1 : Int32} {I : Nat → Nat → Int32} {L : Nat → Nat → Int64}, r_X8_fen_117  m v1 I L = some z → z.2.1 a = I a ∧ z.2.2 a = L a := by
  intro m
  induction m with
  | zero =>
    intro v1 I L hr
    cases hr
  | succ m ih =>
    intro v1 I L hr
    have hK117 : ∀ v1 I L, r_X8_fen_117  m v1 I L = some z → z.2.1 a = I a ∧ z.2.2 a = L a := fun v1 I L hr => ih hr
    unfold r_X8_fen_117 at hr
    by_cases c21 : (nI 8) ≤ v1
    · rw [if_pos c21] at hr
      cases hr
      exact ⟨((gu2_other (fun e => ha (Or.inr (Or.inr (Or.inr (Or.inr (Or.inr (Or.inr (Or.inr (Or.inr (Or.inr (Or.inr (Or.inr (e)))))))))))))).trans ((gu2_other (fun e => ha (Or.inr (Or.inr (Or.inr (Or.inr (Or.inr (Or.inr (Or.inr (Or.inr (Or.inr (Or.inr (Or.inr (e)))))))))))))).trans (gu2_other (fun e => ha (Or.inl (e)))))), rfl⟩
    · rw [if_neg c21] at hr
      obtain ⟨b22, hr⟩ := gopt hr
      obtain ⟨b23, hr⟩ := gopt hr
      have q := hK117 _ _ _ hr
      exact ⟨q.1.trans (gu2_other (fun e => ha (Or.inr (Or.inr (Or.inr (Or.inr (Or.inr (Or.inl (e))))))))), q.2.trans rfl⟩
theorem w_X8_fen_87 {a : Nat} {z : gRs}  (ha : ¬ (a = 57 ∨ a = 58 ∨ a = 59 ∨ a = 60 ∨ a = 61 ∨ a = 62 ∨ a = 63 ∨ a = 64 ∨ a = 65 ∨ a = 66 ∨ a = 67 ∨ a = 74))  : ∀ {m : Nat} {v1 : Int32} {I : Nat → Nat → Int32} {L : Nat → Nat → Int64}, r_X8_fen_87  m v1 I L = some z → z.2.1 a = I a ∧ z.2.2 a = L a := by
  intro m
  induction m with
  | zero =>
    intro v1 I L hr
    cases hr
  | succ m ih =>
    intro v1 I L hr
    have hK87 : ∀ v1 I L, r_X8_fen_87  m v1 I L = some z → z.2.1 a = I a ∧ z.2.2 a = L a := fun v1 I L hr => ih hr
    unfold r_X8_fen_87 at hr
    by_cases c24 : (I 57 2) ≤ v1
    · rw [if_pos c24] at hr
      have q := w_X8_fen_117 (a := a) ha  hr
      exact ⟨q.1.trans rfl, q.2.trans rfl⟩
    · rw [if_neg c24] at hr
      obtain ⟨b25, hr⟩ := gopt hr
      obtain ⟨b26, hr⟩ := gopt hr
      obtain ⟨b27, hr⟩ := gopt hr
      obtain ⟨b28, hr⟩ := gopt hr
      have q := hK87 _ _ _ hr
      exact ⟨q.1.trans ((gu2_other (fun e => ha (Or.inr (Or.inr (Or.inr (Or.inr (Or.inl (e)))))))).trans (gu2_other (fun e => ha (Or.inr (Or.inr (Or.inr (Or.inl (e)))))))), q.2.trans rfl⟩
theorem w_X8_fen_72 {a : Nat} {z : gRs}  (ha : ¬ (a = 57 ∨ a = 58 ∨ a = 59 ∨ a = 60 ∨ a = 61 ∨ a = 62 ∨ a = 63 ∨ a = 64 ∨ a = 65 ∨ a = 66 ∨ a = 67 ∨ a = 74))  : ∀ {m : Nat} {v1 : Int32} {I : Nat → Nat → Int32} {L : Nat → Nat → Int64}, r_X8_fen_72  m v1 I L = some z → z.2.1 a = I a ∧ z.2.2 a = L a := by
  intro m
  induction m with
  | zero =>
    intro v1 I L hr
    cases hr
  | succ m ih =>
    intro v1 I L hr
    have hK72 : ∀ v1 I L, r_X8_fen_72  m v1 I L = some z → z.2.1 a = I a ∧ z.2.2 a = L a := fun v1 I L hr => ih hr
    unfold r_X8_fen_72 at hr
    by_cases c29 : (nI 9) ≤ v1
    · rw [if_pos c29] at hr
      have q := w_X8_fen_87 (a := a) ha  hr
      exact ⟨q.1.trans rfl, q.2.trans rfl⟩
    · rw [if_neg c29] at hr
      obtain ⟨b30, hr⟩ := gopt hr
      obtain ⟨b31, hr⟩ := gopt hr
      have q := hK72 _ _ _ hr
      exact ⟨q.1.trans (gu2_other (fun e => ha (Or.inr (Or.inr (Or.inl (e)))))), q.2.trans rfl⟩
theorem w_X8_fen_42 {a : Nat} {z : gRs}  (ha : ¬ (a = 57 ∨ a = 58 ∨ a = 59 ∨ a = 60 ∨ a = 61 ∨ a = 62 ∨ a = 63 ∨ a = 64 ∨ a = 65 ∨ a = 66 ∨ a = 67 ∨ a = 74))  : ∀ {m : Nat} {v1 : Int32} {I : Nat → Nat → Int32} {L : Nat → Nat → Int64}, r_X8_fen_42  m v1 I L = some z → z.2.1 a = I a ∧ z.2.2 a = L a := by
  intro m
  induction m with
  | zero =>
    intro v1 I L hr
    cases hr
  | succ m ih =>
    intro v1 I L hr
    have hK42 : ∀ v1 I L, r_X8_fen_42  m v1 I L = some z → z.2.1 a = I a ∧ z.2.2 a = L a := fun v1 I L hr => ih hr
    unfold r_X8_fen_42 at hr
    by_cases c32 : (I 57 0) ≤ v1
    · rw [if_pos c32] at hr
      have q := w_X8_fen_72 (a := a) ha  hr
      exact ⟨q.1.trans rfl, q.2.trans rfl⟩
    · rw [if_neg c32] at hr
      obtain ⟨b33, hr⟩ := gopt hr
      obtain ⟨b34, hr⟩ := gopt hr
      obtain ⟨b35, hr⟩ := gopt hr
      obtain ⟨b36, hr⟩ := gopt hr
      have q := hK42 _ _ _ hr
      exact ⟨q.1.trans ((gu2_other (fun e => ha (Or.inr (Or.inl (e))))).trans (gu2_other (fun e => ha (Or.inr (Or.inr (Or.inr (Or.inr (Or.inr (Or.inr (Or.inl (e))))))))))), q.2.trans rfl⟩
theorem w_X8_fen_24 {a : Nat} {z : gRs}  (ha : ¬ (a = 57 ∨ a = 58 ∨ a = 59 ∨ a = 60 ∨ a = 61 ∨ a = 62 ∨ a = 63 ∨ a = 64 ∨ a = 65 ∨ a = 66 ∨ a = 67 ∨ a = 74))  : ∀ {m : Nat} {v1 : Int32} {I : Nat → Nat → Int32} {L : Nat → Nat → Int64}, r_X8_fen_24  m v1 I L = some z → z.2.1 a = I a ∧ z.2.2 a = L a := by
  intro m
  induction m with
  | zero =>
    intro v1 I L hr
    cases hr
  | succ m ih =>
    intro v1 I L hr
    have hK24 : ∀ v1 I L, r_X8_fen_24  m v1 I L = some z → z.2.1 a = I a ∧ z.2.2 a = L a := fun v1 I L hr => ih hr
    unfold r_X8_fen_24 at hr
    by_cases c37 : (nI 27) ≤ v1
    · rw [if_pos c37] at hr
      have q := w_X8_fen_42 (a := a) ha  hr
      exact ⟨q.1.trans (gu2_other (fun e => ha (Or.inr (Or.inr (Or.inr (Or.inr (Or.inr (Or.inr (Or.inl (e)))))))))), q.2.trans rfl⟩
    · rw [if_neg c37] at hr
      obtain ⟨b38, hr⟩ := gopt hr
      have q := hK24 _ _ _ hr
      exact ⟨q.1.trans (gu2_other (fun e => ha (Or.inr (Or.inr (Or.inr (Or.inr (Or.inr (Or.inr (Or.inl (e)))))))))), q.2.trans rfl⟩
theorem w_X8_fen {a : Nat} {z : gRs} {I : Nat → Nat → Int32} {L : Nat → Nat → Int64}  (ha : ¬ (a = 57 ∨ a = 58 ∨ a = 59 ∨ a = 60 ∨ a = 61 ∨ a = 62 ∨ a = 63 ∨ a = 64 ∨ a = 65 ∨ a = 66 ∨ a = 67 ∨ a = 74)) (hr : r_X8_fen I L  = some z) : z.2.1 a = I a ∧ z.2.2 a = L a := by
  unfold r_X8_fen at hr
  obtain ⟨z39, hz39, hr⟩ := gbnd hr
  have fz39 := w_X8_readText (a := a) (fun h => h.elim (fun e => ha (Or.inl (e))) (fun h => h.elim (fun e => ha (Or.inr (Or.inr (Or.inr (Or.inr (Or.inr (Or.inr (Or.inr (Or.inl (e)))))))))) (fun h => h.elim (fun e => ha (Or.inr (Or.inr (Or.inr (Or.inr (Or.inr (Or.inr (Or.inr (Or.inr (Or.inl (e))))))))))) (fun h => h.elim (fun e => ha (Or.inr (Or.inr (Or.inr (Or.inr (Or.inr (Or.inr (Or.inr (Or.inr (Or.inr (Or.inl (e)))))))))))) (fun e => ha (Or.inr (Or.inr (Or.inr (Or.inr (Or.inr (Or.inr (Or.inr (Or.inr (Or.inr (Or.inr (Or.inl (e))))))))))))))))) hz39
  by_cases c40 : z39.1 = (-9 : Int32)
  · rw [if_pos c40] at hr
    have q := w_X8_fen_24 (a := a) ha  hr
    exact ⟨q.1.trans ((gu2_other (fun e => ha (Or.inl (e)))).trans ((gu2_other (fun e => ha (Or.inl (e)))).trans ((gu2_other (fun e => ha (Or.inl (e)))).trans ((gu2_other (fun e => ha (Or.inl (e)))).trans fz39.1)))), q.2.trans fz39.2⟩
  · rw [if_neg c40] at hr
    cases hr
    exact ⟨fz39.1, fz39.2⟩
theorem w_X8_isGate {a : Nat} {z : gRs} {I : Nat → Nat → Int32} {L : Nat → Nat → Int64} {a1 : Int32} (ha : ¬ (False)) (hr : r_X8_isGate I L a1 = some z) : z.2.1 a = I a ∧ z.2.2 a = L a := by
  unfold r_X8_isGate at hr
  obtain ⟨b2, hr⟩ := gopt hr
  cases hr
  exact ⟨rfl, rfl⟩
theorem w_X8_isLane {a : Nat} {z : gRs} {I : Nat → Nat → Int32} {L : Nat → Nat → Int64} {a1 : Int32} (ha : ¬ (False)) (hr : r_X8_isLane I L a1 = some z) : z.2.1 a = I a ∧ z.2.2 a = L a := by
  unfold r_X8_isLane at hr
  obtain ⟨b2, hr⟩ := gopt hr
  cases hr
  exact ⟨rfl, rfl⟩
theorem w_X8_isBeast {a : Nat} {z : gRs} {I : Nat → Nat → Int32} {L : Nat → Nat → Int64} {a1 : Int32} (ha : ¬ (False)) (hr : r_X8_isBeast I L a1 = some z) : z.2.1 a = I a ∧ z.2.2 a = L a := by
  unfold r_X8_isBeast at hr
  obtain ⟨b2, hr⟩ := gopt hr
  cases hr
  exact ⟨rfl, rfl⟩
theorem w_X8_isVerse {a : Nat} {z : gRs} {I : Nat → Nat → Int32} {L : Nat → Nat → Int64} {a1 : Int32} (ha : ¬ (False)) (hr : r_X8_isVerse I L a1 = some z) : z.2.1 a = I a ∧ z.2.2 a = L a := by
  unfold r_X8_isVerse at hr
  obtain ⟨b2, hr⟩ := gopt hr
  cases hr
  exact ⟨rfl, rfl⟩
theorem w_X8_toneOf_80 {a : Nat} {z : gRs}  (ha : ¬ (False))  {v3 : Int32} {s0 : Int32} {s1 : Int32} {I : Nat → Nat → Int32} {L : Nat → Nat → Int64} (hr : r_X8_toneOf_80  v3 s0 s1 I L = some z) : z.2.1 a = I a ∧ z.2.2 a = L a := by
  unfold r_X8_toneOf_80 at hr
  cases hr
  exact ⟨rfl, rfl⟩
theorem w_X8_toneOf_31 {a : Nat} {z : gRs}  (ha : ¬ (False))  {v2 : Int32} {v3 : Int32} {v4 : Int32} {v5 : Int32} {I : Nat → Nat → Int32} {L : Nat → Nat → Int64} (hr : r_X8_toneOf_31  v2 v3 v4 v5 I L = some z) : z.2.1 a = I a ∧ z.2.2 a = L a := by
  unfold r_X8_toneOf_31 at hr
  obtain ⟨b36, hr⟩ := gopt hr
  obtain ⟨b38, hr⟩ := gopt hr
  obtain ⟨b40, hr⟩ := gopt hr
  by_cases c41 : ¬ (I 58 (gx v2)) = (nI 2)
  · rw [if_pos c41] at hr
    have q := w_X8_toneOf_80 (a := a) ha  hr
    exact ⟨q.1.trans rfl, q.2.trans rfl⟩
  · rw [if_neg c41] at hr
    obtain ⟨b42, hr⟩ := gopt hr
    have q := w_X8_toneOf_80 (a := a) ha  hr
    exact ⟨q.1.trans rfl, q.2.trans rfl⟩
theorem w_X8_toneOf_29 {a : Nat} {z : gRs}  (ha : ¬ (False))   {I : Nat → Nat → Int32} {L : Nat → Nat → Int64} (hr : r_X8_toneOf_29   I L = some z) : z.2.1 a = I a ∧ z.2.2 a = L a := by
  unfold r_X8_toneOf_29 at hr
  cases hr
  exact ⟨rfl, rfl⟩
theorem w_X8_toneOf {a : Nat} {z : gRs} {I : Nat → Nat → Int32} {L : Nat → Nat → Int64} {a1 : Int32} {a2 : Int32} {a3 : Int32} {a4 : Int32} (ha : ¬ (False)) (hr : r_X8_toneOf I L a1 a2 a3 a4 = some z) : z.2.1 a = I a ∧ z.2.2 a = L a := by
  unfold r_X8_toneOf at hr
  obtain ⟨b45, hr⟩ := gopt hr
  obtain ⟨b46, hr⟩ := gopt hr
  by_cases c47 : ¬ (f_X8_bit I L ((I 63 (gx (((nI 27) * a1) + (nI 10)))) ||| (I 63 (gx (((nI 27) * a1) + (nI 11))))) a2) = 0
  · rw [if_pos c47] at hr
    have q := w_X8_toneOf_29 (a := a) ha  hr
    exact ⟨q.1.trans rfl, q.2.trans rfl⟩
  · rw [if_neg c47] at hr
    obtain ⟨b48, hr⟩ := gopt hr
    by_cases c49 : ¬ (I 58 (gx a2)) = (nI 3)
    · rw [if_pos c49] at hr
      have q := w_X8_toneOf_31 (a := a) ha  hr
      exact ⟨q.1.trans rfl, q.2.trans rfl⟩
    · rw [if_neg c49] at hr
      by_cases c50 : (nI 5) ≤ a4
      · rw [if_pos c50] at hr
        have q := w_X8_toneOf_31 (a := a) ha  hr
        exact ⟨q.1.trans rfl, q.2.trans rfl⟩
      · rw [if_neg c50] at hr
        have q := w_X8_toneOf_29 (a := a) ha  hr
        exact ⟨q.1.trans rfl, q.2.trans rfl⟩
theorem w_X8_sing_41 {a : Nat} {z : gRs}  (ha : ¬ (a = 57 ∨ a = 69))   {I : Nat → Nat → Int32} {L : Nat → Nat → Int64} (hr : r_X8_sing_41   I L = some z) : z.2.1 a = I a ∧ z.2.2 a = L a := by
  unfold r_X8_sing_41 at hr
  cases hr
  exact ⟨rfl, rfl⟩
theorem w_X8_sing {a : Nat} {z : gRs} {I : Nat → Nat → Int32} {L : Nat → Nat → Int64} {a1 : Int32} {a2 : Int32} {a3 : Int32} (ha : ¬ (a = 57 ∨ a = 69)) (hr : r_X8_sing I L a1 a2 a3 = some z) : z.2.1 a = I a ∧ z.2.2 a = L a := by
  unfold r_X8_sing at hr
  obtain ⟨b9, hr⟩ := gopt hr
  by_cases c10 : a3 = 0
  · rw [if_pos c10] at hr
    have q := w_X8_sing_41 (a := a) ha  hr
    exact ⟨q.1.trans ((gu2_other (fun e => ha (Or.inl (e)))).trans (gu2_other (fun e => ha (Or.inr (e))))), q.2.trans rfl⟩
  · rw [if_neg c10] at hr
    by_cases c11 : a2 = (nI 12)
    · rw [if_pos c11] at hr
      have q := w_X8_sing_41 (a := a) ha  hr
      exact ⟨q.1.trans ((gu2_other (fun e => ha (Or.inl (e)))).trans (gu2_other (fun e => ha (Or.inr (e))))), q.2.trans rfl⟩
    · rw [if_neg c11] at hr
      obtain ⟨b12, hr⟩ := gopt hr
      have q := w_X8_sing_41 (a := a) ha  hr
      exact ⟨q.1.trans ((gu2_other (fun e => ha (Or.inl (e)))).trans ((gu2_other (fun e => ha (Or.inr (e)))).trans ((gu2_other (fun e => ha (Or.inl (e)))).trans (gu2_other (fun e => ha (Or.inr (e))))))), q.2.trans rfl⟩
theorem w_X8_laySong_56 {a : Nat} {z : gRs}  (ha : ¬ (a = 57 ∨ a = 69)) {K5 : Int32 → Int32 → Int32 → Int32 → Int32 → (Nat → Nat → Int32) → (Nat → Nat → Int64) → Option gRs} (hK5 : ∀ v1 v2 v3 v4 v5 I L, K5 v1 v2 v3 v4 v5 I L = some z → z.2.1 a = I a ∧ z.2.2 a = L a) {v1 : Int32} {v2 : Int32} {v3 : Int32} {v4 : Int32} {v5 : Int32} {I : Nat → Nat → Int32} {L : Nat → Nat → Int64} (hr : r_X8_laySong_56 K5 v1 v2 v3 v4 v5 I L = some z) : z.2.1 a = I a ∧ z.2.2 a = L a := by
  unfold r_X8_laySong_56 at hr
  have q := hK5 _ _ _ _ _ _ _ hr
  exact ⟨q.1.trans rfl, q.2.trans rfl⟩
theorem w_X8_laySong_39 {a : Nat} {z : gRs}  (ha : ¬ (a = 57 ∨ a = 69)) {K5 : Int32 → Int32 → Int32 → Int32 → Int32 → (Nat → Nat → Int32) → (Nat → Nat → Int64) → Option gRs} (hK5 : ∀ v1 v2 v3 v4 v5 I L, K5 v1 v2 v3 v4 v5 I L = some z → z.2.1 a = I a ∧ z.2.2 a = L a) {v1 : Int32} {v2 : Int32} {v3 : Int32} {v4 : Int32} {v5 : Int32} {v6 : Int32} {v7 : Int32} {s0 : Int32} {I : Nat → Nat → Int32} {L : Nat → Nat → Int64} (hr : r_X8_laySong_39 K5 v1 v2 v3 v4 v5 v6 v7 s0 I L = some z) : z.2.1 a = I a ∧ z.2.2 a = L a := by
  unfold r_X8_laySong_39 at hr
  obtain ⟨z30, hz30, hr⟩ := gbnd hr
  have fz30 := w_X8_sing (a := a) (fun h => h.elim (fun e => ha (Or.inl (e))) (fun e => ha (Or.inr (e)))) hz30
  obtain ⟨b31, hr⟩ := gopt hr
  by_cases c32 : ¬ (z30.2.1 58 (gx v6)) = (nI 1)
  · rw [if_pos c32] at hr
    have q := w_X8_laySong_56 (a := a) ha hK5 hr
    exact ⟨q.1.trans fz30.1, q.2.trans fz30.2⟩
  · rw [if_neg c32] at hr
    obtain ⟨z33, hz33, hr⟩ := gbnd hr
    have fz33 := w_X8_sing (a := a) (fun h => h.elim (fun e => ha (Or.inl (e))) (fun e => ha (Or.inr (e)))) hz33
    have q := w_X8_laySong_56 (a := a) ha hK5 hr
    exact ⟨q.1.trans (fz33.1.trans fz30.1), q.2.trans (fz33.2.trans fz30.2)⟩
theorem w_X8_laySong_5 {a : Nat} {z : gRs}  (ha : ¬ (a = 57 ∨ a = 69))  : ∀ {m : Nat} {v1 : Int32} {v2 : Int32} {v3 : Int32} {v4 : Int32} {v5 : Int32} {I : Nat → Nat → Int32} {L : Nat → Nat → Int64}, r_X8_laySong_5  m v1 v2 v3 v4 v5 I L = some z → z.2.1 a = I a ∧ z.2.2 a = L a := by
  intro m
  induction m with
  | zero =>
    intro v1 v2 v3 v4 v5 I L hr
    cases hr
  | succ m ih =>
    intro v1 v2 v3 v4 v5 I L hr
    have hK5 : ∀ v1 v2 v3 v4 v5 I L, r_X8_laySong_5  m v1 v2 v3 v4 v5 I L = some z → z.2.1 a = I a ∧ z.2.2 a = L a := fun v1 v2 v3 v4 v5 I L hr => ih hr
    unfold r_X8_laySong_5 at hr
    by_cases c34 : (nI 3) ≤ v5
    · rw [if_pos c34] at hr
      cases hr
      exact ⟨rfl, rfl⟩
    · rw [if_neg c34] at hr
      obtain ⟨b35, hr⟩ := gopt hr
      obtain ⟨b36, hr⟩ := gopt hr
      obtain ⟨b37, hr⟩ := gopt hr
      obtain ⟨z38, hz38, hr⟩ := gbnd hr
      have fz38 := w_X8_toneOf (a := a) (fun e => e) hz38
      obtain ⟨b39, hr⟩ := gopt hr
      by_cases c40 : ¬ (z38.2.1 61 (gx v3)) = (nI 1)
      · rw [if_pos c40] at hr
        have q := w_X8_laySong_39 (a := a) ha hK5 hr
        exact ⟨q.1.trans fz38.1, q.2.trans fz38.2⟩
      · rw [if_neg c40] at hr
        have q := w_X8_laySong_39 (a := a) ha hK5 hr
        exact ⟨q.1.trans fz38.1, q.2.trans fz38.2⟩
theorem w_X8_laySong {a : Nat} {z : gRs} {I : Nat → Nat → Int32} {L : Nat → Nat → Int64} {a1 : Int32} {a2 : Int32} {a3 : Int32} {a4 : Int32} (ha : ¬ (a = 57 ∨ a = 69)) (hr : r_X8_laySong I L a1 a2 a3 a4 = some z) : z.2.1 a = I a ∧ z.2.2 a = L a := by
  unfold r_X8_laySong at hr
  have q := w_X8_laySong_5 (a := a) ha  hr
  exact ⟨q.1.trans (gu2_other (fun e => ha (Or.inl (e)))), q.2.trans rfl⟩
theorem w_X8_loud_21 {a : Nat} {z : gRs}  (ha : ¬ (False)) {K4 : Int32 → Int32 → Int32 → Int32 → (Nat → Nat → Int32) → (Nat → Nat → Int64) → Option gRs} (hK4 : ∀ v1 v2 v3 v4 I L, K4 v1 v2 v3 v4 I L = some z → z.2.1 a = I a ∧ z.2.2 a = L a) {v1 : Int32} {v2 : Int32} {v4 : Int32} {s0 : Int32} {s1 : Int32} {I : Nat → Nat → Int32} {L : Nat → Nat → Int64} (hr : r_X8_loud_21 K4 v1 v2 v4 s0 s1 I L = some z) : z.2.1 a = I a ∧ z.2.2 a = L a := by
  unfold r_X8_loud_21 at hr
  have q := hK4 _ _ _ _ _ _ hr
  exact ⟨q.1.trans rfl, q.2.trans rfl⟩
theorem w_X8_loud_4 {a : Nat} {z : gRs}  (ha : ¬ (False))  : ∀ {m : Nat} {v1 : Int32} {v2 : Int32} {v3 : Int32} {v4 : Int32} {I : Nat → Nat → Int32} {L : Nat → Nat → Int64}, r_X8_loud_4  m v1 v2 v3 v4 I L = some z → z.2.1 a = I a ∧ z.2.2 a = L a := by
  intro m
  induction m with
  | zero =>
    intro v1 v2 v3 v4 I L hr
    cases hr
  | succ m ih =>
    intro v1 v2 v3 v4 I L hr
    have hK4 : ∀ v1 v2 v3 v4 I L, r_X8_loud_4  m v1 v2 v3 v4 I L = some z → z.2.1 a = I a ∧ z.2.2 a = L a := fun v1 v2 v3 v4 I L hr => ih hr
    unfold r_X8_loud_4 at hr
    by_cases c7 : v2 ≤ v4
    · rw [if_pos c7] at hr
      cases hr
      exact ⟨rfl, rfl⟩
    · rw [if_neg c7] at hr
      obtain ⟨b8, hr⟩ := gopt hr
      by_cases c9 : ¬ (I 69 (gx (((nI 12) * v1) + v4))) = (nI 12)
      · rw [if_pos c9] at hr
        have q := w_X8_loud_21 (a := a) ha hK4 hr
        exact ⟨q.1.trans rfl, q.2.trans rfl⟩
      · rw [if_neg c9] at hr
        have q := w_X8_loud_21 (a := a) ha hK4 hr
        exact ⟨q.1.trans rfl, q.2.trans rfl⟩
theorem w_X8_loud {a : Nat} {z : gRs} {I : Nat → Nat → Int32} {L : Nat → Nat → Int64} {a1 : Int32} {a2 : Int32} (ha : ¬ (False)) (hr : r_X8_loud I L a1 a2 = some z) : z.2.1 a = I a ∧ z.2.2 a = L a := by
  unfold r_X8_loud at hr
  have q := w_X8_loud_4 (a := a) ha  hr
  exact ⟨q.1.trans rfl, q.2.trans rfl⟩
theorem w_X8_addSung_14 {a : Nat} {z : gRs}  (ha : ¬ (a = 63))  : ∀ {m : Nat} {v2 : Int32} {v3 : Int32} {v4 : Int32} {I : Nat → Nat → Int32} {L : Nat → Nat → Int64}, r_X8_addSung_14  m v2 v3 v4 I L = some z → z.2.1 a = I a ∧ z.2.2 a = L a := by
  intro m
  induction m with
  | zero =>
    intro v2 v3 v4 I L hr
    cases hr
  | succ m ih =>
    intro v2 v3 v4 I L hr
    have hK14 : ∀ v2 v3 v4 I L, r_X8_addSung_14  m v2 v3 v4 I L = some z → z.2.1 a = I a ∧ z.2.2 a = L a := fun v2 v3 v4 I L hr => ih hr
    unfold r_X8_addSung_14 at hr
    by_cases c15 : (nI 11) ≤ v4
    · rw [if_pos c15] at hr
      obtain ⟨b16, hr⟩ := gopt hr
      obtain ⟨b17, hr⟩ := gopt hr
      obtain ⟨b18, hr⟩ := gopt hr
      obtain ⟨b19, hr⟩ := gopt hr
      obtain ⟨b20, hr⟩ := gopt hr
      cases hr
      exact ⟨((gu2_other (fun e => ha (e))).trans ((gu2_other (fun e => ha (e))).trans (gu2_other (fun e => ha (e))))), rfl⟩
    · rw [if_neg c15] at hr
      obtain ⟨b21, hr⟩ := gopt hr
      obtain ⟨b22, hr⟩ := gopt hr
      have q := hK14 _ _ _ _ _ hr
      exact ⟨q.1.trans (gu2_other (fun e => ha (e))), q.2.trans rfl⟩
theorem w_X8_addSung {a : Nat} {z : gRs} {I : Nat → Nat → Int32} {L : Nat → Nat → Int64} {a1 : Int32} {a2 : Int32} (ha : ¬ (a = 63)) (hr : r_X8_addSung I L a1 a2 = some z) : z.2.1 a = I a ∧ z.2.2 a = L a := by
  unfold r_X8_addSung at hr
  obtain ⟨b23, hr⟩ := gopt hr
  by_cases c24 : ¬ (I 63 (gx (((nI 27) * a1) + (nI 14)))) = (nI 12)
  · rw [if_pos c24] at hr
    obtain ⟨b25, hr⟩ := gopt hr
    obtain ⟨b26, hr⟩ := gopt hr
    obtain ⟨b27, hr⟩ := gopt hr
    obtain ⟨b28, hr⟩ := gopt hr
    cases hr
    exact ⟨((gu2_other (fun e => ha (e))).trans (gu2_other (fun e => ha (e)))), rfl⟩
  · rw [if_neg c24] at hr
    have q := w_X8_addSung_14 (a := a) ha  hr
    exact ⟨q.1.trans rfl, q.2.trans rfl⟩
theorem w_X8_driveOn_57 {a : Nat} {z : gRs}  (ha : ¬ (a = 57 ∨ a = 63 ∨ a = 69)) {K27 : Int32 → Int32 → Int32 → Int32 → Int32 → (Nat → Nat → Int32) → (Nat → Nat → Int64) → Option gRs} (hK27 : ∀ v2 v3 v4 v5 v6 I L, K27 v2 v3 v4 v5 v6 I L = some z → z.2.1 a = I a ∧ z.2.2 a = L a) {v2 : Int32} {v3 : Int32} {v4 : Int32} {v5 : Int32} {v6 : Int32} {s1 : Int32} {s2 : Int32} {s3 : Int32} {I : Nat → Nat → Int32} {L : Nat → Nat → Int64} (hr : r_X8_driveOn_57 K27 v2 v3 v4 v5 v6 s1 s2 s3 I L = some z) : z.2.1 a = I a ∧ z.2.2 a = L a := by
  unfold r_X8_driveOn_57 at hr
  obtain ⟨b26, hr⟩ := gopt hr
  have q := hK27 _ _ _ _ _ _ _ hr
  exact ⟨q.1.trans (gu2_other (fun e => ha (Or.inr (Or.inl (e))))), q.2.trans rfl⟩
theorem w_X8_driveOn_27 {a : Nat} {z : gRs}  (ha : ¬ (a = 57 ∨ a = 63 ∨ a = 69))  : ∀ {m : Nat} {v2 : Int32} {v3 : Int32} {v4 : Int32} {v5 : Int32} {v6 : Int32} {I : Nat → Nat → Int32} {L : Nat → Nat → Int64}, r_X8_driveOn_27  m v2 v3 v4 v5 v6 I L = some z → z.2.1 a = I a ∧ z.2.2 a = L a := by
  intro m
  induction m with
  | zero =>
    intro v2 v3 v4 v5 v6 I L hr
    cases hr
  | succ m ih =>
    intro v2 v3 v4 v5 v6 I L hr
    have hK27 : ∀ v2 v3 v4 v5 v6 I L, r_X8_driveOn_27  m v2 v3 v4 v5 v6 I L = some z → z.2.1 a = I a ∧ z.2.2 a = L a := fun v2 v3 v4 v5 v6 I L hr => ih hr
    unfold r_X8_driveOn_27 at hr
    by_cases c27 : (nI 3) ≤ v6
    · rw [if_pos c27] at hr
      obtain ⟨b28, hr⟩ := gopt hr
      obtain ⟨b29, hr⟩ := gopt hr
      obtain ⟨z30, hz30, hr⟩ := gbnd hr
      have fz30 := w_X8_loud (a := a) (fun e => e) hz30
      cases hr
      exact ⟨(fz30.1.trans (gu2_other (fun e => ha (Or.inr (Or.inl (e)))))), fz30.2⟩
    · rw [if_neg c27] at hr
      obtain ⟨b31, hr⟩ := gopt hr
      obtain ⟨b32, hr⟩ := gopt hr
      obtain ⟨b33, hr⟩ := gopt hr
      by_cases c34 : (nI 3) ≤ (I 63 (gx ((v4 + (nI 5)) + (I 59 (gx (((nI 3) * v3) + v6))))))
      · rw [if_pos c34] at hr
        have q := w_X8_driveOn_57 (a := a) ha hK27 hr
        exact ⟨q.1.trans rfl, q.2.trans rfl⟩
      · rw [if_neg c34] at hr
        have q := w_X8_driveOn_57 (a := a) ha hK27 hr
        exact ⟨q.1.trans rfl, q.2.trans rfl⟩
theorem w_X8_driveOn_13 {a : Nat} {z : gRs}  (ha : ¬ (a = 57 ∨ a = 63 ∨ a = 69))  : ∀ {m : Nat} {v1 : Int32} {v2 : Int32} {v3 : Int32} {v4 : Int32} {v5 : Int32} {v6 : Int32} {I : Nat → Nat → Int32} {L : Nat → Nat → Int64}, r_X8_driveOn_13  m v1 v2 v3 v4 v5 v6 I L = some z → z.2.1 a = I a ∧ z.2.2 a = L a := by
  intro m
  induction m with
  | zero =>
    intro v1 v2 v3 v4 v5 v6 I L hr
    cases hr
  | succ m ih =>
    intro v1 v2 v3 v4 v5 v6 I L hr
    have hK13 : ∀ v1 v2 v3 v4 v5 v6 I L, r_X8_driveOn_13  m v1 v2 v3 v4 v5 v6 I L = some z → z.2.1 a = I a ∧ z.2.2 a = L a := fun v1 v2 v3 v4 v5 v6 I L hr => ih hr
    unfold r_X8_driveOn_13 at hr
    by_cases c35 : v5 ≤ v6
    · rw [if_pos c35] at hr
      have q := w_X8_driveOn_27 (a := a) ha  hr
      exact ⟨q.1.trans rfl, q.2.trans rfl⟩
    · rw [if_neg c35] at hr
      obtain ⟨b36, hr⟩ := gopt hr
      obtain ⟨z37, hz37, hr⟩ := gbnd hr
      have fz37 := w_X8_addSung (a := a) (fun e => ha (Or.inr (Or.inl (e)))) hz37
      have q := hK13 _ _ _ _ _ _ _ _ hr
      exact ⟨q.1.trans fz37.1, q.2.trans fz37.2⟩
theorem w_X8_driveOn {a : Nat} {z : gRs} {I : Nat → Nat → Int32} {L : Nat → Nat → Int64} {a1 : Int32} {a2 : Int32} {a3 : Int32} (ha : ¬ (a = 57 ∨ a = 63 ∨ a = 69)) (hr : r_X8_driveOn I L a1 a2 a3 = some z) : z.2.1 a = I a ∧ z.2.2 a = L a := by
  unfold r_X8_driveOn at hr
  obtain ⟨z38, hz38, hr⟩ := gbnd hr
  have fz38 := w_X8_laySong (a := a) (fun h => h.elim (fun e => ha (Or.inl (e))) (fun e => ha (Or.inr (Or.inr (e))))) hz38
  have q := w_X8_driveOn_13 (a := a) ha  hr
  exact ⟨q.1.trans fz38.1, q.2.trans fz38.2⟩
theorem w_X8_lanesOf_24 {a : Nat} {z : gRs}  (ha : ¬ (False)) {K4 : Int32 → Int32 → Int32 → (Nat → Nat → Int32) → (Nat → Nat → Int64) → Option gRs} (hK4 : ∀ v1 v2 v3 I L, K4 v1 v2 v3 I L = some z → z.2.1 a = I a ∧ z.2.2 a = L a) {v1 : Int32} {v3 : Int32} {s0 : Int32} {s1 : Int32} {I : Nat → Nat → Int32} {L : Nat → Nat → Int64} (hr : r_X8_lanesOf_24 K4 v1 v3 s0 s1 I L = some z) : z.2.1 a = I a ∧ z.2.2 a = L a := by
  unfold r_X8_lanesOf_24 at hr
  have q := hK4 _ _ _ _ _ hr
  exact ⟨q.1.trans rfl, q.2.trans rfl⟩
theorem w_X8_lanesOf_4 {a : Nat} {z : gRs}  (ha : ¬ (False))  : ∀ {m : Nat} {v1 : Int32} {v2 : Int32} {v3 : Int32} {I : Nat → Nat → Int32} {L : Nat → Nat → Int64}, r_X8_lanesOf_4  m v1 v2 v3 I L = some z → z.2.1 a = I a ∧ z.2.2 a = L a := by
  intro m
  induction m with
  | zero =>
    intro v1 v2 v3 I L hr
    cases hr
  | succ m ih =>
    intro v1 v2 v3 I L hr
    have hK4 : ∀ v1 v2 v3 I L, r_X8_lanesOf_4  m v1 v2 v3 I L = some z → z.2.1 a = I a ∧ z.2.2 a = L a := fun v1 v2 v3 I L hr => ih hr
    unfold r_X8_lanesOf_4 at hr
    by_cases c7 : ((nI 3) * (I 57 1)) ≤ v3
    · rw [if_pos c7] at hr
      cases hr
      exact ⟨rfl, rfl⟩
    · rw [if_neg c7] at hr
      obtain ⟨b8, hr⟩ := gopt hr
      by_cases c9 : ¬ (I 59 (gx v3)) = v1
      · rw [if_pos c9] at hr
        have q := w_X8_lanesOf_24 (a := a) ha hK4 hr
        exact ⟨q.1.trans rfl, q.2.trans rfl⟩
      · rw [if_neg c9] at hr
        have q := w_X8_lanesOf_24 (a := a) ha hK4 hr
        exact ⟨q.1.trans rfl, q.2.trans rfl⟩
theorem w_X8_lanesOf {a : Nat} {z : gRs} {I : Nat → Nat → Int32} {L : Nat → Nat → Int64} {a1 : Int32} (ha : ¬ (False)) (hr : r_X8_lanesOf I L a1 = some z) : z.2.1 a = I a ∧ z.2.2 a = L a := by
  unfold r_X8_lanesOf at hr
  have q := w_X8_lanesOf_4 (a := a) ha  hr
  exact ⟨q.1.trans rfl, q.2.trans rfl⟩
theorem w_X8_gate {a : Nat} {z : gRs} {I : Nat → Nat → Int32} {L : Nat → Nat → Int64} {a1 : Int32} {a2 : Int32} (ha : ¬ (False)) (hr : r_X8_gate I L a1 a2 = some z) : z.2.1 a = I a ∧ z.2.2 a = L a := by
  unfold r_X8_gate at hr
  obtain ⟨z13, hz13, hr⟩ := gbnd hr
  have fz13 := w_X8_isGate (a := a) (fun e => e) hz13
  by_cases c14 : ¬ z13.1 = 0
  · rw [if_pos c14] at hr
    by_cases c15 : a2 = (nI 0)
    · rw [if_pos c15] at hr
      obtain ⟨b16, hr⟩ := gopt hr
      cases hr
      exact ⟨fz13.1, fz13.2⟩
    · rw [if_neg c15] at hr
      by_cases c17 : a2 = (nI 1)
      · rw [if_pos c17] at hr
        obtain ⟨b18, hr⟩ := gopt hr
        cases hr
        exact ⟨fz13.1, fz13.2⟩
      · rw [if_neg c17] at hr
        by_cases c19 : a2 = (nI 2)
        · rw [if_pos c19] at hr
          obtain ⟨b20, hr⟩ := gopt hr
          cases hr
          exact ⟨fz13.1, fz13.2⟩
        · rw [if_neg c19] at hr
          by_cases c21 : a2 = (nI 3)
          · rw [if_pos c21] at hr
            cases hr
            exact ⟨fz13.1, fz13.2⟩
          · rw [if_neg c21] at hr
            by_cases c22 : a2 = (nI 4)
            · rw [if_pos c22] at hr
              cases hr
              exact ⟨fz13.1, fz13.2⟩
            · rw [if_neg c22] at hr
              by_cases c23 : a2 = (nI 5)
              · rw [if_pos c23] at hr
                obtain ⟨z24, hz24, hr⟩ := gbnd hr
                have fz24 := w_X8_lanesOf (a := a) (fun e => e) hz24
                cases hr
                exact ⟨(fz24.1.trans fz13.1), (fz24.2.trans fz13.2)⟩
              · rw [if_neg c23] at hr
                cases hr
                exact ⟨fz13.1, fz13.2⟩
  · rw [if_neg c14] at hr
    cases hr
    exact ⟨fz13.1, fz13.2⟩
theorem w_X8_beast_34 {a : Nat} {z : gRs}  (ha : ¬ (False))  {s0 : Int32} {I : Nat → Nat → Int32} {L : Nat → Nat → Int64} (hr : r_X8_beast_34  s0 I L = some z) : z.2.1 a = I a ∧ z.2.2 a = L a := by
  unfold r_X8_beast_34 at hr
  cases hr
  exact ⟨rfl, rfl⟩
theorem w_X8_beast {a : Nat} {z : gRs} {I : Nat → Nat → Int32} {L : Nat → Nat → Int64} {a1 : Int32} {a2 : Int32} (ha : ¬ (False)) (hr : r_X8_beast I L a1 a2 = some z) : z.2.1 a = I a ∧ z.2.2 a = L a := by
  unfold r_X8_beast at hr
  obtain ⟨z15, hz15, hr⟩ := gbnd hr
  have fz15 := w_X8_isBeast (a := a) (fun e => e) hz15
  by_cases c16 : ¬ z15.1 = 0
  · rw [if_pos c16] at hr
    by_cases c17 : ¬ a2 = 0
    · rw [if_pos c17] at hr
      by_cases c18 : ¬ a2 = (nI 1)
      · rw [if_pos c18] at hr
        by_cases c19 : ¬ a2 = (nI 2)
        · rw [if_pos c19] at hr
          have q := w_X8_beast_34 (a := a) ha  hr
          exact ⟨q.1.trans fz15.1, q.2.trans fz15.2⟩
        · rw [if_neg c19] at hr
          have q := w_X8_beast_34 (a := a) ha  hr
          exact ⟨q.1.trans fz15.1, q.2.trans fz15.2⟩
      · rw [if_neg c18] at hr
        obtain ⟨b20, hr⟩ := gopt hr
        have q := w_X8_beast_34 (a := a) ha  hr
        exact ⟨q.1.trans fz15.1, q.2.trans fz15.2⟩
    · rw [if_neg c17] at hr
      obtain ⟨b21, hr⟩ := gopt hr
      have q := w_X8_beast_34 (a := a) ha  hr
      exact ⟨q.1.trans fz15.1, q.2.trans fz15.2⟩
  · rw [if_neg c16] at hr
    cases hr
    exact ⟨fz15.1, fz15.2⟩
theorem w_X8_tone_22 {a : Nat} {z : gRs}  (ha : ¬ (False))  {s0 : Int32} {I : Nat → Nat → Int32} {L : Nat → Nat → Int64} (hr : r_X8_tone_22  s0 I L = some z) : z.2.1 a = I a ∧ z.2.2 a = L a := by
  unfold r_X8_tone_22 at hr
  cases hr
  exact ⟨rfl, rfl⟩
theorem w_X8_tone {a : Nat} {z : gRs} {I : Nat → Nat → Int32} {L : Nat → Nat → Int64} {a1 : Int32} {a2 : Int32} (ha : ¬ (False)) (hr : r_X8_tone I L a1 a2 = some z) : z.2.1 a = I a ∧ z.2.2 a = L a := by
  unfold r_X8_tone at hr
  obtain ⟨z15, hz15, hr⟩ := gbnd hr
  have fz15 := w_X8_isGate (a := a) (fun e => e) hz15
  by_cases c16 : z15.1 = 0
  · rw [if_pos c16] at hr
    have q := w_X8_tone_22 (a := a) ha  hr
    exact ⟨q.1.trans fz15.1, q.2.trans fz15.2⟩
  · rw [if_neg c16] at hr
    obtain ⟨z17, hz17, hr⟩ := gbnd hr
    have fz17 := w_X8_isBeast (a := a) (fun e => e) hz17
    by_cases c18 : z17.1 = 0
    · rw [if_pos c18] at hr
      have q := w_X8_tone_22 (a := a) ha  hr
      exact ⟨q.1.trans (fz17.1.trans fz15.1), q.2.trans (fz17.2.trans fz15.2)⟩
    · rw [if_neg c18] at hr
      obtain ⟨b19, hr⟩ := gopt hr
      obtain ⟨b20, hr⟩ := gopt hr
      obtain ⟨z21, hz21, hr⟩ := gbnd hr
      have fz21 := w_X8_toneOf (a := a) (fun e => e) hz21
      have q := w_X8_tone_22 (a := a) ha  hr
      exact ⟨q.1.trans (fz21.1.trans (fz17.1.trans fz15.1)), q.2.trans (fz21.2.trans (fz17.2.trans fz15.2))⟩
theorem w_X8_song_39 {a : Nat} {z : gRs}  (ha : ¬ (a = 57 ∨ a = 69))  {s0 : Int32} {I : Nat → Nat → Int32} {L : Nat → Nat → Int64} (hr : r_X8_song_39  s0 I L = some z) : z.2.1 a = I a ∧ z.2.2 a = L a := by
  unfold r_X8_song_39 at hr
  cases hr
  exact ⟨rfl, rfl⟩
theorem w_X8_song_8 {a : Nat} {z : gRs}  (ha : ¬ (a = 57 ∨ a = 69))   {I : Nat → Nat → Int32} {L : Nat → Nat → Int64} (hr : r_X8_song_8   I L = some z) : z.2.1 a = I a ∧ z.2.2 a = L a := by
  unfold r_X8_song_8 at hr
  cases hr
  exact ⟨rfl, rfl⟩
theorem w_X8_song {a : Nat} {z : gRs} {I : Nat → Nat → Int32} {L : Nat → Nat → Int64} {a1 : Int32} {a2 : Int32} {a3 : Int32} (ha : ¬ (a = 57 ∨ a = 69)) (hr : r_X8_song I L a1 a2 a3 = some z) : z.2.1 a = I a ∧ z.2.2 a = L a := by
  unfold r_X8_song at hr
  obtain ⟨z19, hz19, hr⟩ := gbnd hr
  have fz19 := w_X8_isBeast (a := a) (fun e => e) hz19
  by_cases c20 : z19.1 = 0
  · rw [if_pos c20] at hr
    have q := w_X8_song_8 (a := a) ha  hr
    exact ⟨q.1.trans fz19.1, q.2.trans fz19.2⟩
  · rw [if_neg c20] at hr
    obtain ⟨z21, hz21, hr⟩ := gbnd hr
    have fz21 := w_X8_isLane (a := a) (fun e => e) hz21
    by_cases c22 : ¬ z21.1 = 0
    · rw [if_pos c22] at hr
      by_cases c23 : ¬ (f_X8_in z21.2.1 z21.2.2 (Int32.toInt64 a3) (lN 0) (lN 12)) = 0
      · rw [if_pos c23] at hr
        obtain ⟨z24, hz24, hr⟩ := gbnd hr
        have fz24 := w_X8_laySong (a := a) (fun h => h.elim (fun e => ha (Or.inl (e))) (fun e => ha (Or.inr (e)))) hz24
        by_cases c25 : ¬ a3 = (nI 12)
        · rw [if_pos c25] at hr
          by_cases c26 : z24.1 ≤ a3
          · rw [if_pos c26] at hr
            have q := w_X8_song_39 (a := a) ha  hr
            exact ⟨q.1.trans (fz24.1.trans (fz21.1.trans fz19.1)), q.2.trans (fz24.2.trans (fz21.2.trans fz19.2))⟩
          · rw [if_neg c26] at hr
            obtain ⟨b27, hr⟩ := gopt hr
            have q := w_X8_song_39 (a := a) ha  hr
            exact ⟨q.1.trans (fz24.1.trans (fz21.1.trans fz19.1)), q.2.trans (fz24.2.trans (fz21.2.trans fz19.2))⟩
        · rw [if_neg c25] at hr
          have q := w_X8_song_39 (a := a) ha  hr
          exact ⟨q.1.trans (fz24.1.trans (fz21.1.trans fz19.1)), q.2.trans (fz24.2.trans (fz21.2.trans fz19.2))⟩
      · rw [if_neg c23] at hr
        cases hr
        exact ⟨(fz21.1.trans fz19.1), (fz21.2.trans fz19.2)⟩
    · rw [if_neg c22] at hr
      have q := w_X8_song_8 (a := a) ha  hr
      exact ⟨q.1.trans (fz21.1.trans fz19.1), q.2.trans (fz21.2.trans fz19.2)⟩
theorem w_X8_sungOn_31 {a : Nat} {z : gRs}  (ha : ¬ (False))  {s0 : Int32} {I : Nat → Nat → Int32} {L : Nat → Nat → Int64} (hr : r_X8_sungOn_31  s0 I L = some z) : z.2.1 a = I a ∧ z.2.2 a = L a := by
  unfold r_X8_sungOn_31 at hr
  cases hr
  exact ⟨rfl, rfl⟩
theorem w_X8_sungOn {a : Nat} {z : gRs} {I : Nat → Nat → Int32} {L : Nat → Nat → Int64} {a1 : Int32} {a2 : Int32} (ha : ¬ (False)) (hr : r_X8_sungOn I L a1 a2 = some z) : z.2.1 a = I a ∧ z.2.2 a = L a := by
  unfold r_X8_sungOn at hr
  obtain ⟨b9, hr⟩ := gopt hr
  by_cases c10 : (I 63 (gx (((nI 27) * a1) + (nI 14)))) ≤ a2
  · rw [if_pos c10] at hr
    have q := w_X8_sungOn_31 (a := a) ha  hr
    exact ⟨q.1.trans rfl, q.2.trans rfl⟩
  · rw [if_neg c10] at hr
    obtain ⟨b11, hr⟩ := gopt hr
    obtain ⟨b12, hr⟩ := gopt hr
    have q := w_X8_sungOn_31 (a := a) ha  hr
    exact ⟨q.1.trans rfl, q.2.trans rfl⟩
theorem w_X8_sung_12 {a : Nat} {z : gRs}  (ha : ¬ (False))  {s0 : Int32} {I : Nat → Nat → Int32} {L : Nat → Nat → Int64} (hr : r_X8_sung_12  s0 I L = some z) : z.2.1 a = I a ∧ z.2.2 a = L a := by
  unfold r_X8_sung_12 at hr
  cases hr
  exact ⟨rfl, rfl⟩
theorem w_X8_sung {a : Nat} {z : gRs} {I : Nat → Nat → Int32} {L : Nat → Nat → Int64} {a1 : Int32} (ha : ¬ (False)) (hr : r_X8_sung I L a1 = some z) : z.2.1 a = I a ∧ z.2.2 a = L a := by
  unfold r_X8_sung at hr
  by_cases c5 : (f_X8_in I L (Int32.toInt64 a1) (lN 0) (lN 11)) = 0
  · rw [if_pos c5] at hr
    have q := w_X8_sung_12 (a := a) ha  hr
    exact ⟨q.1.trans rfl, q.2.trans rfl⟩
  · rw [if_neg c5] at hr
    obtain ⟨z6, hz6, hr⟩ := gbnd hr
    have fz6 := w_X8_sungOn (a := a) (fun e => e) hz6
    have q := w_X8_sung_12 (a := a) ha  hr
    exact ⟨q.1.trans fz6.1, q.2.trans fz6.2⟩
theorem w_X8_keepAct_39 {a : Nat} {z : gRs}  (ha : ¬ (a = 57 ∨ a = 70))  {s1 : Int32} {I : Nat → Nat → Int32} {L : Nat → Nat → Int64} (hr : r_X8_keepAct_39  s1 I L = some z) : z.2.1 a = I a ∧ z.2.2 a = L a := by
  unfold r_X8_keepAct_39 at hr
  cases hr
  exact ⟨(gu2_other (fun e => ha (Or.inl (e)))), rfl⟩
theorem w_X8_keepAct_2 {a : Nat} {z : gRs}  (ha : ¬ (a = 57 ∨ a = 70))  : ∀ {m : Nat} {v1 : Int32} {I : Nat → Nat → Int32} {L : Nat → Nat → Int64}, r_X8_keepAct_2  m v1 I L = some z → z.2.1 a = I a ∧ z.2.2 a = L a := by
  intro m
  induction m with
  | zero =>
    intro v1 I L hr
    cases hr
  | succ m ih =>
    intro v1 I L hr
    have hK2 : ∀ v1 I L, r_X8_keepAct_2  m v1 I L = some z → z.2.1 a = I a ∧ z.2.2 a = L a := fun v1 I L hr => ih hr
    unfold r_X8_keepAct_2 at hr
    by_cases c9 : (nI 27) ≤ v1
    · rw [if_pos c9] at hr
      by_cases c10 : (nI 14) ≤ ((gu2 I 57 26 (grem ((I 57 26) + (nI 1)) (nI 14))) 57 25)
      · rw [if_pos c10] at hr
        have q := w_X8_keepAct_39 (a := a) ha  hr
        exact ⟨q.1.trans (gu2_other (fun e => ha (Or.inl (e)))), q.2.trans rfl⟩
      · rw [if_neg c10] at hr
        have q := w_X8_keepAct_39 (a := a) ha  hr
        exact ⟨q.1.trans (gu2_other (fun e => ha (Or.inl (e)))), q.2.trans rfl⟩
    · rw [if_neg c9] at hr
      obtain ⟨b11, hr⟩ := gopt hr
      obtain ⟨b12, hr⟩ := gopt hr
      have q := hK2 _ _ _ hr
      exact ⟨q.1.trans (gu2_other (fun e => ha (Or.inr (e)))), q.2.trans rfl⟩
theorem w_X8_keepAct {a : Nat} {z : gRs} {I : Nat → Nat → Int32} {L : Nat → Nat → Int64}  (ha : ¬ (a = 57 ∨ a = 70)) (hr : r_X8_keepAct I L  = some z) : z.2.1 a = I a ∧ z.2.2 a = L a := by
  unfold r_X8_keepAct at hr
  have q := w_X8_keepAct_2 (a := a) ha  hr
  exact ⟨q.1.trans rfl, q.2.trans rfl⟩
theorem w_X8_canDrive_22 {a : Nat} {z : gRs}  (ha : ¬ (False))  {s0 : Int32} {I : Nat → Nat → Int32} {L : Nat → Nat → Int64} (hr : r_X8_canDrive_22  s0 I L = some z) : z.2.1 a = I a ∧ z.2.2 a = L a := by
  unfold r_X8_canDrive_22 at hr
  obtain ⟨b14, hr⟩ := gopt hr
  cases hr
  exact ⟨rfl, rfl⟩
theorem w_X8_canDrive {a : Nat} {z : gRs} {I : Nat → Nat → Int32} {L : Nat → Nat → Int64} {a1 : Int32} {a2 : Int32} {a3 : Int32} (ha : ¬ (False)) (hr : r_X8_canDrive I L a1 a2 a3 = some z) : z.2.1 a = I a ∧ z.2.2 a = L a := by
  unfold r_X8_canDrive at hr
  obtain ⟨z15, hz15, hr⟩ := gbnd hr
  have fz15 := w_X8_isBeast (a := a) (fun e => e) hz15
  by_cases c16 : z15.1 = 0
  · rw [if_pos c16] at hr
    have q := w_X8_canDrive_22 (a := a) ha  hr
    exact ⟨q.1.trans fz15.1, q.2.trans fz15.2⟩
  · rw [if_neg c16] at hr
    obtain ⟨z17, hz17, hr⟩ := gbnd hr
    have fz17 := w_X8_isLane (a := a) (fun e => e) hz17
    by_cases c18 : z17.1 = 0
    · rw [if_pos c18] at hr
      have q := w_X8_canDrive_22 (a := a) ha  hr
      exact ⟨q.1.trans (fz17.1.trans fz15.1), q.2.trans (fz17.2.trans fz15.2)⟩
    · rw [if_neg c18] at hr
      obtain ⟨b19, hr⟩ := gopt hr
      by_cases c20 : ¬ (f_X8_bit z17.2.1 z17.2.2 (z17.2.1 63 (gx (((nI 27) * a1) + (nI 12)))) a2) = 0
      · rw [if_pos c20] at hr
        have q := w_X8_canDrive_22 (a := a) ha  hr
        exact ⟨q.1.trans (fz17.1.trans fz15.1), q.2.trans (fz17.2.trans fz15.2)⟩
      · rw [if_neg c20] at hr
        have q := w_X8_canDrive_22 (a := a) ha  hr
        exact ⟨q.1.trans (fz17.1.trans fz15.1), q.2.trans (fz17.2.trans fz15.2)⟩
theorem w_X8_drive_8 {a : Nat} {z : gRs}  (ha : ¬ (a = 57 ∨ a = 63 ∨ a = 69 ∨ a = 70))   {I : Nat → Nat → Int32} {L : Nat → Nat → Int64} (hr : r_X8_drive_8   I L = some z) : z.2.1 a = I a ∧ z.2.2 a = L a := by
  unfold r_X8_drive_8 at hr
  cases hr
  exact ⟨rfl, rfl⟩
theorem w_X8_drive {a : Nat} {z : gRs} {I : Nat → Nat → Int32} {L : Nat → Nat → Int64} {a1 : Int32} {a2 : Int32} (ha : ¬ (a = 57 ∨ a = 63 ∨ a = 69 ∨ a = 70)) (hr : r_X8_drive I L a1 a2 = some z) : z.2.1 a = I a ∧ z.2.2 a = L a := by
  unfold r_X8_drive at hr
  obtain ⟨z17, hz17, hr⟩ := gbnd hr
  have fz17 := w_X8_isBeast (a := a) (fun e => e) hz17
  by_cases c18 : z17.1 = 0
  · rw [if_pos c18] at hr
    have q := w_X8_drive_8 (a := a) ha  hr
    exact ⟨q.1.trans fz17.1, q.2.trans fz17.2⟩
  · rw [if_neg c18] at hr
    obtain ⟨z19, hz19, hr⟩ := gbnd hr
    have fz19 := w_X8_isLane (a := a) (fun e => e) hz19
    by_cases c20 : ¬ z19.1 = 0
    · rw [if_pos c20] at hr
      obtain ⟨z21, hz21, hr⟩ := gbnd hr
      have fz21 := w_X8_canDrive (a := a) (fun e => e) hz21
      by_cases c22 : ¬ z21.1 = 0
      · rw [if_pos c22] at hr
        obtain ⟨z23, hz23, hr⟩ := gbnd hr
        have fz23 := w_X8_keepAct (a := a) (fun h => h.elim (fun e => ha (Or.inl (e))) (fun e => ha (Or.inr (Or.inr (Or.inr (e)))))) hz23
        obtain ⟨z24, hz24, hr⟩ := gbnd hr
        have fz24 := w_X8_driveOn (a := a) (fun h => h.elim (fun e => ha (Or.inl (e))) (fun h => h.elim (fun e => ha (Or.inr (Or.inl (e)))) (fun e => ha (Or.inr (Or.inr (Or.inl (e))))))) hz24
        cases hr
        exact ⟨(fz24.1.trans (fz23.1.trans (fz21.1.trans (fz19.1.trans fz17.1)))), (fz24.2.trans (fz23.2.trans (fz21.2.trans (fz19.2.trans fz17.2))))⟩
      · rw [if_neg c22] at hr
        cases hr
        exact ⟨(fz21.1.trans (fz19.1.trans fz17.1)), (fz21.2.trans (fz19.2.trans fz17.2))⟩
    · rw [if_neg c20] at hr
      have q := w_X8_drive_8 (a := a) ha  hr
      exact ⟨q.1.trans (fz19.1.trans fz17.1), q.2.trans (fz19.2.trans fz17.2)⟩
theorem w_X8_open {a : Nat} {z : gRs} {I : Nat → Nat → Int32} {L : Nat → Nat → Int64} {a1 : Int32} (ha : ¬ (a = 57 ∨ a = 63 ∨ a = 70)) (hr : r_X8_open I L a1 = some z) : z.2.1 a = I a ∧ z.2.2 a = L a := by
  unfold r_X8_open at hr
  obtain ⟨z4, hz4, hr⟩ := gbnd hr
  have fz4 := w_X8_isGate (a := a) (fun e => e) hz4
  by_cases c5 : ¬ z4.1 = 0
  · rw [if_pos c5] at hr
    obtain ⟨z6, hz6, hr⟩ := gbnd hr
    have fz6 := w_X8_keepAct (a := a) (fun h => h.elim (fun e => ha (Or.inl (e))) (fun e => ha (Or.inr (Or.inr (e))))) hz6
    cases hr
    exact ⟨((gu2_other (fun e => ha (Or.inr (Or.inl (e))))).trans (fz6.1.trans fz4.1)), (fz6.2.trans fz4.2)⟩
  · rw [if_neg c5] at hr
    cases hr
    exact ⟨fz4.1, fz4.2⟩
theorem w_X8_oil {a : Nat} {z : gRs} {I : Nat → Nat → Int32} {L : Nat → Nat → Int64} {a1 : Int32} (ha : ¬ (a = 57 ∨ a = 63 ∨ a = 70)) (hr : r_X8_oil I L a1 = some z) : z.2.1 a = I a ∧ z.2.2 a = L a := by
  unfold r_X8_oil at hr
  obtain ⟨z4, hz4, hr⟩ := gbnd hr
  have fz4 := w_X8_isGate (a := a) (fun e => e) hz4
  by_cases c5 : ¬ z4.1 = 0
  · rw [if_pos c5] at hr
    obtain ⟨z6, hz6, hr⟩ := gbnd hr
    have fz6 := w_X8_keepAct (a := a) (fun h => h.elim (fun e => ha (Or.inl (e))) (fun e => ha (Or.inr (Or.inr (e))))) hz6
    cases hr
    exact ⟨((gu2_other (fun e => ha (Or.inr (Or.inl (e))))).trans (fz6.1.trans fz4.1)), (fz6.2.trans fz4.2)⟩
  · rw [if_neg c5] at hr
    cases hr
    exact ⟨fz4.1, fz4.2⟩
theorem w_X8_hang_20 {a : Nat} {z : gRs}  (ha : ¬ (a = 57 ∨ a = 63 ∨ a = 70))  {v1 : Int32} {s1 : Int32} {s2 : Int32} {s3 : Int32} {I : Nat → Nat → Int32} {L : Nat → Nat → Int64} (hr : r_X8_hang_20  v1 s1 s2 s3 I L = some z) : z.2.1 a = I a ∧ z.2.2 a = L a := by
  unfold r_X8_hang_20 at hr
  obtain ⟨b13, hr⟩ := gopt hr
  obtain ⟨b14, hr⟩ := gopt hr
  cases hr
  exact ⟨(gu2_other (fun e => ha (Or.inr (Or.inl (e))))), rfl⟩
theorem w_X8_hang {a : Nat} {z : gRs} {I : Nat → Nat → Int32} {L : Nat → Nat → Int64} {a1 : Int32} {a2 : Int32} (ha : ¬ (a = 57 ∨ a = 63 ∨ a = 70)) (hr : r_X8_hang I L a1 a2 = some z) : z.2.1 a = I a ∧ z.2.2 a = L a := by
  unfold r_X8_hang at hr
  obtain ⟨z15, hz15, hr⟩ := gbnd hr
  have fz15 := w_X8_isGate (a := a) (fun e => e) hz15
  by_cases c16 : ¬ z15.1 = 0
  · rw [if_pos c16] at hr
    obtain ⟨z17, hz17, hr⟩ := gbnd hr
    have fz17 := w_X8_keepAct (a := a) (fun h => h.elim (fun e => ha (Or.inl (e))) (fun e => ha (Or.inr (Or.inr (e))))) hz17
    obtain ⟨b18, hr⟩ := gopt hr
    by_cases c19 : a2 = 0
    · rw [if_pos c19] at hr
      have q := w_X8_hang_20 (a := a) ha  hr
      exact ⟨q.1.trans (fz17.1.trans fz15.1), q.2.trans (fz17.2.trans fz15.2)⟩
    · rw [if_neg c19] at hr
      have q := w_X8_hang_20 (a := a) ha  hr
      exact ⟨q.1.trans (fz17.1.trans fz15.1), q.2.trans (fz17.2.trans fz15.2)⟩
  · rw [if_neg c16] at hr
    cases hr
    exact ⟨fz15.1, fz15.2⟩
theorem w_X8_turnOut {a : Nat} {z : gRs} {I : Nat → Nat → Int32} {L : Nat → Nat → Int64} {a1 : Int32} (ha : ¬ (a = 57 ∨ a = 63 ∨ a = 70)) (hr : r_X8_turnOut I L a1 = some z) : z.2.1 a = I a ∧ z.2.2 a = L a := by
  unfold r_X8_turnOut at hr
  obtain ⟨z6, hz6, hr⟩ := gbnd hr
  have fz6 := w_X8_isBeast (a := a) (fun e => e) hz6
  by_cases c7 : ¬ z6.1 = 0
  · rw [if_pos c7] at hr
    by_cases c8 : ¬ (f_X8_bit z6.2.1 z6.2.2 (z6.2.1 63 (gx (nI 12))) a1) = 0
    · rw [if_pos c8] at hr
      obtain ⟨z9, hz9, hr⟩ := gbnd hr
      have fz9 := w_X8_keepAct (a := a) (fun h => h.elim (fun e => ha (Or.inl (e))) (fun e => ha (Or.inr (Or.inr (e))))) hz9
      obtain ⟨z10, hz10, hr⟩ := gbnd hr
      have fz10 := w_X8_ones (a := a) (fun e => e) hz10
      cases hr
      exact ⟨(fz10.1.trans ((gu2_other (fun e => ha (Or.inr (Or.inl (e))))).trans (fz9.1.trans fz6.1))), (fz10.2.trans (fz9.2.trans fz6.2))⟩
    · rw [if_neg c8] at hr
      cases hr
      exact ⟨fz6.1, fz6.2⟩
  · rw [if_neg c7] at hr
    cases hr
    exact ⟨fz6.1, fz6.2⟩
theorem w_X8_frost {a : Nat} {z : gRs} {I : Nat → Nat → Int32} {L : Nat → Nat → Int64}  (ha : ¬ (a = 57 ∨ a = 63 ∨ a = 70)) (hr : r_X8_frost I L  = some z) : z.2.1 a = I a ∧ z.2.2 a = L a := by
  unfold r_X8_frost at hr
  obtain ⟨z2, hz2, hr⟩ := gbnd hr
  have fz2 := w_X8_keepAct (a := a) (fun h => h.elim (fun e => ha (Or.inl (e))) (fun e => ha (Or.inr (Or.inr (e))))) hz2
  cases hr
  exact ⟨((gu2_other (fun e => ha (Or.inr (Or.inl (e))))).trans fz2.1), fz2.2⟩
theorem w_X8_undo_21 {a : Nat} {z : gRs}  (ha : ¬ (a = 57 ∨ a = 63))  : ∀ {m : Nat} {v1 : Int32} {I : Nat → Nat → Int32} {L : Nat → Nat → Int64}, r_X8_undo_21  m v1 I L = some z → z.2.1 a = I a ∧ z.2.2 a = L a := by
  intro m
  induction m with
  | zero =>
    intro v1 I L hr
    cases hr
  | succ m ih =>
    intro v1 I L hr
    have hK21 : ∀ v1 I L, r_X8_undo_21  m v1 I L = some z → z.2.1 a = I a ∧ z.2.2 a = L a := fun v1 I L hr => ih hr
    unfold r_X8_undo_21 at hr
    by_cases c5 : (nI 27) ≤ v1
    · rw [if_pos c5] at hr
      cases hr
      exact ⟨rfl, rfl⟩
    · rw [if_neg c5] at hr
      obtain ⟨b6, hr⟩ := gopt hr
      obtain ⟨b7, hr⟩ := gopt hr
      have q := hK21 _ _ _ hr
      exact ⟨q.1.trans (gu2_other (fun e => ha (Or.inr (e)))), q.2.trans rfl⟩
theorem w_X8_undo {a : Nat} {z : gRs} {I : Nat → Nat → Int32} {L : Nat → Nat → Int64}  (ha : ¬ (a = 57 ∨ a = 63)) (hr : r_X8_undo I L  = some z) : z.2.1 a = I a ∧ z.2.2 a = L a := by
  unfold r_X8_undo at hr
  by_cases c8 : ¬ (I 57 25) = 0
  · rw [if_pos c8] at hr
    have q := w_X8_undo_21 (a := a) ha  hr
    exact ⟨q.1.trans ((gu2_other (fun e => ha (Or.inl (e)))).trans (gu2_other (fun e => ha (Or.inl (e))))), q.2.trans rfl⟩
  · rw [if_neg c8] at hr
    cases hr
    exact ⟨rfl, rfl⟩
theorem w_X8_fitOn_26 {a : Nat} {z : gRs}  (ha : ¬ (False)) {K4 : Int32 → Int32 → Int32 → Int32 → (Nat → Nat → Int32) → (Nat → Nat → Int64) → Option gRs} (hK4 : ∀ v1 v2 v3 v4 I L, K4 v1 v2 v3 v4 I L = some z → z.2.1 a = I a ∧ z.2.2 a = L a) {v1 : Int32} {v2 : Int32} {v4 : Int32} {s0 : Int32} {s1 : Int32} {I : Nat → Nat → Int32} {L : Nat → Nat → Int64} (hr : r_X8_fitOn_26 K4 v1 v2 v4 s0 s1 I L = some z) : z.2.1 a = I a ∧ z.2.2 a = L a := by
  unfold r_X8_fitOn_26 at hr
  have q := hK4 _ _ _ _ _ _ hr
  exact ⟨q.1.trans rfl, q.2.trans rfl⟩
theorem w_X8_fitOn_4 {a : Nat} {z : gRs}  (ha : ¬ (False))  : ∀ {m : Nat} {v1 : Int32} {v2 : Int32} {v3 : Int32} {v4 : Int32} {I : Nat → Nat → Int32} {L : Nat → Nat → Int64}, r_X8_fitOn_4  m v1 v2 v3 v4 I L = some z → z.2.1 a = I a ∧ z.2.2 a = L a := by
  intro m
  induction m with
  | zero =>
    intro v1 v2 v3 v4 I L hr
    cases hr
  | succ m ih =>
    intro v1 v2 v3 v4 I L hr
    have hK4 : ∀ v1 v2 v3 v4 I L, r_X8_fitOn_4  m v1 v2 v3 v4 I L = some z → z.2.1 a = I a ∧ z.2.2 a = L a := fun v1 v2 v3 v4 I L hr => ih hr
    unfold r_X8_fitOn_4 at hr
    by_cases c9 : (nI 4) ≤ v4
    · rw [if_pos c9] at hr
      cases hr
      exact ⟨rfl, rfl⟩
    · rw [if_neg c9] at hr
      obtain ⟨z10, hz10, hr⟩ := gbnd hr
      have fz10 := w_X8_sungOn (a := a) (fun e => e) hz10
      obtain ⟨b11, hr⟩ := gopt hr
      by_cases c12 : ¬ z10.1 = (z10.2.1 62 (gx (((nI 4) * v2) + v4)))
      · rw [if_pos c12] at hr
        have q := w_X8_fitOn_26 (a := a) ha hK4 hr
        exact ⟨q.1.trans fz10.1, q.2.trans fz10.2⟩
      · rw [if_neg c12] at hr
        have q := w_X8_fitOn_26 (a := a) ha hK4 hr
        exact ⟨q.1.trans fz10.1, q.2.trans fz10.2⟩
theorem w_X8_fitOn {a : Nat} {z : gRs} {I : Nat → Nat → Int32} {L : Nat → Nat → Int64} {a1 : Int32} {a2 : Int32} (ha : ¬ (False)) (hr : r_X8_fitOn I L a1 a2 = some z) : z.2.1 a = I a ∧ z.2.2 a = L a := by
  unfold r_X8_fitOn at hr
  have q := w_X8_fitOn_4 (a := a) ha  hr
  exact ⟨q.1.trans rfl, q.2.trans rfl⟩
theorem w_X8_fit_10 {a : Nat} {z : gRs}  (ha : ¬ (False))  {s0 : Int32} {I : Nat → Nat → Int32} {L : Nat → Nat → Int64} (hr : r_X8_fit_10  s0 I L = some z) : z.2.1 a = I a ∧ z.2.2 a = L a := by
  unfold r_X8_fit_10 at hr
  cases hr
  exact ⟨rfl, rfl⟩
theorem w_X8_fit {a : Nat} {z : gRs} {I : Nat → Nat → Int32} {L : Nat → Nat → Int64} {a1 : Int32} (ha : ¬ (False)) (hr : r_X8_fit I L a1 = some z) : z.2.1 a = I a ∧ z.2.2 a = L a := by
  unfold r_X8_fit at hr
  obtain ⟨z7, hz7, hr⟩ := gbnd hr
  have fz7 := w_X8_isVerse (a := a) (fun e => e) hz7
  by_cases c8 : z7.1 = 0
  · rw [if_pos c8] at hr
    have q := w_X8_fit_10 (a := a) ha  hr
    exact ⟨q.1.trans fz7.1, q.2.trans fz7.2⟩
  · rw [if_neg c8] at hr
    obtain ⟨z9, hz9, hr⟩ := gbnd hr
    have fz9 := w_X8_fitOn (a := a) (fun e => e) hz9
    have q := w_X8_fit_10 (a := a) ha  hr
    exact ⟨q.1.trans (fz9.1.trans fz7.1), q.2.trans (fz9.2.trans fz7.2)⟩
theorem w_X8_harmonyOf_43 {a : Nat} {z : gRs}  (ha : ¬ (False)) {K4 : Int32 → Int32 → Int32 → Int32 → (Nat → Nat → Int32) → (Nat → Nat → Int64) → Option gRs} (hK4 : ∀ v1 v2 v3 v4 I L, K4 v1 v2 v3 v4 I L = some z → z.2.1 a = I a ∧ z.2.2 a = L a) {v1 : Int32} {v2 : Int32} {v4 : Int32} {s0 : Int32} {I : Nat → Nat → Int32} {L : Nat → Nat → Int64} (hr : r_X8_harmonyOf_43 K4 v1 v2 v4 s0 I L = some z) : z.2.1 a = I a ∧ z.2.2 a = L a := by
  unfold r_X8_harmonyOf_43 at hr
  have q := hK4 _ _ _ _ _ _ hr
  exact ⟨q.1.trans rfl, q.2.trans rfl⟩
theorem w_X8_harmonyOf_39 {a : Nat} {z : gRs}  (ha : ¬ (False)) {K4 : Int32 → Int32 → Int32 → Int32 → (Nat → Nat → Int32) → (Nat → Nat → Int64) → Option gRs} (hK4 : ∀ v1 v2 v3 v4 I L, K4 v1 v2 v3 v4 I L = some z → z.2.1 a = I a ∧ z.2.2 a = L a) {v1 : Int32} {v2 : Int32} {v4 : Int32} {s0 : Int32} {s1 : Int32} {I : Nat → Nat → Int32} {L : Nat → Nat → Int64} (hr : r_X8_harmonyOf_39 K4 v1 v2 v4 s0 s1 I L = some z) : z.2.1 a = I a ∧ z.2.2 a = L a := by
  unfold r_X8_harmonyOf_39 at hr
  by_cases c16 : (f_X8_isSweet I L s1) = 0
  · rw [if_pos c16] at hr
    have q := w_X8_harmonyOf_43 (a := a) ha hK4 hr
    exact ⟨q.1.trans rfl, q.2.trans rfl⟩
  · rw [if_neg c16] at hr
    have q := hK4 _ _ _ _ _ _ hr
    exact ⟨q.1.trans rfl, q.2.trans rfl⟩
theorem w_X8_harmonyOf_4 {a : Nat} {z : gRs}  (ha : ¬ (False))  : ∀ {m : Nat} {v1 : Int32} {v2 : Int32} {v3 : Int32} {v4 : Int32} {I : Nat → Nat → Int32} {L : Nat → Nat → Int64}, r_X8_harmonyOf_4  m v1 v2 v3 v4 I L = some z → z.2.1 a = I a ∧ z.2.2 a = L a := by
  intro m
  induction m with
  | zero =>
    intro v1 v2 v3 v4 I L hr
    cases hr
  | succ m ih =>
    intro v1 v2 v3 v4 I L hr
    have hK4 : ∀ v1 v2 v3 v4 I L, r_X8_harmonyOf_4  m v1 v2 v3 v4 I L = some z → z.2.1 a = I a ∧ z.2.2 a = L a := fun v1 v2 v3 v4 I L hr => ih hr
    unfold r_X8_harmonyOf_4 at hr
    by_cases c17 : v1 ≤ v4
    · rw [if_pos c17] at hr
      cases hr
      exact ⟨rfl, rfl⟩
    · rw [if_neg c17] at hr
      by_cases c18 : v2 ≤ v4
      · rw [if_pos c18] at hr
        cases hr
        exact ⟨rfl, rfl⟩
      · rw [if_neg c18] at hr
        obtain ⟨b19, hr⟩ := gopt hr
        obtain ⟨b20, hr⟩ := gopt hr
        by_cases c21 : (I 69 (gx v4)) = (nI 12)
        · rw [if_pos c21] at hr
          have q := w_X8_harmonyOf_43 (a := a) ha hK4 hr
          exact ⟨q.1.trans rfl, q.2.trans rfl⟩
        · rw [if_neg c21] at hr
          by_cases c22 : (I 69 (gx ((nI 12) + v4))) = (nI 12)
          · rw [if_pos c22] at hr
            have q := w_X8_harmonyOf_43 (a := a) ha hK4 hr
            exact ⟨q.1.trans rfl, q.2.trans rfl⟩
          · rw [if_neg c22] at hr
            by_cases c23 : (I 69 (gx v4)) ≤ (I 69 (gx ((nI 12) + v4)))
            · rw [if_pos c23] at hr
              have q := w_X8_harmonyOf_39 (a := a) ha hK4 hr
              exact ⟨q.1.trans rfl, q.2.trans rfl⟩
            · rw [if_neg c23] at hr
              have q := w_X8_harmonyOf_39 (a := a) ha hK4 hr
              exact ⟨q.1.trans rfl, q.2.trans rfl⟩
theorem w_X8_harmonyOf {a : Nat} {z : gRs} {I : Nat → Nat → Int32} {L : Nat → Nat → Int64} {a1 : Int32} {a2 : Int32} (ha : ¬ (False)) (hr : r_X8_harmonyOf I L a1 a2 = some z) : z.2.1 a = I a ∧ z.2.2 a = L a := by
  unfold r_X8_harmonyOf at hr
  have q := w_X8_harmonyOf_4 (a := a) ha  hr
  exact ⟨q.1.trans rfl, q.2.trans rfl⟩
theorem w_X8_harmony_16 {a : Nat} {z : gRs}  (ha : ¬ (a = 57 ∨ a = 69))   {I : Nat → Nat → Int32} {L : Nat → Nat → Int64} (hr : r_X8_harmony_16   I L = some z) : z.2.1 a = I a ∧ z.2.2 a = L a := by
  unfold r_X8_harmony_16 at hr
  cases hr
  exact ⟨rfl, rfl⟩
theorem w_X8_harmony {a : Nat} {z : gRs} {I : Nat → Nat → Int32} {L : Nat → Nat → Int64} {a1 : Int32} {a2 : Int32} {a3 : Int32} {a4 : Int32} (ha : ¬ (a = 57 ∨ a = 69)) (hr : r_X8_harmony I L a1 a2 a3 a4 = some z) : z.2.1 a = I a ∧ z.2.2 a = L a := by
  unfold r_X8_harmony at hr
  obtain ⟨z23, hz23, hr⟩ := gbnd hr
  have fz23 := w_X8_isBeast (a := a) (fun e => e) hz23
  by_cases c24 : z23.1 = 0
  · rw [if_pos c24] at hr
    have q := w_X8_harmony_16 (a := a) ha  hr
    exact ⟨q.1.trans fz23.1, q.2.trans fz23.2⟩
  · rw [if_neg c24] at hr
    obtain ⟨z25, hz25, hr⟩ := gbnd hr
    have fz25 := w_X8_isLane (a := a) (fun e => e) hz25
    by_cases c26 : z25.1 = 0
    · rw [if_pos c26] at hr
      have q := w_X8_harmony_16 (a := a) ha  hr
      exact ⟨q.1.trans (fz25.1.trans fz23.1), q.2.trans (fz25.2.trans fz23.2)⟩
    · rw [if_neg c26] at hr
      obtain ⟨z27, hz27, hr⟩ := gbnd hr
      have fz27 := w_X8_isBeast (a := a) (fun e => e) hz27
      by_cases c28 : z27.1 = 0
      · rw [if_pos c28] at hr
        have q := w_X8_harmony_16 (a := a) ha  hr
        exact ⟨q.1.trans (fz27.1.trans (fz25.1.trans fz23.1)), q.2.trans (fz27.2.trans (fz25.2.trans fz23.2))⟩
      · rw [if_neg c28] at hr
        obtain ⟨z29, hz29, hr⟩ := gbnd hr
        have fz29 := w_X8_isLane (a := a) (fun e => e) hz29
        by_cases c30 : ¬ z29.1 = 0
        · rw [if_pos c30] at hr
          obtain ⟨z31, hz31, hr⟩ := gbnd hr
          have fz31 := w_X8_laySong (a := a) (fun h => h.elim (fun e => ha (Or.inl (e))) (fun e => ha (Or.inr (e)))) hz31
          obtain ⟨z32, hz32, hr⟩ := gbnd hr
          have fz32 := w_X8_laySong (a := a) (fun h => h.elim (fun e => ha (Or.inl (e))) (fun e => ha (Or.inr (e)))) hz32
          obtain ⟨z33, hz33, hr⟩ := gbnd hr
          have fz33 := w_X8_harmonyOf (a := a) (fun e => e) hz33
          cases hr
          exact ⟨(fz33.1.trans (fz32.1.trans (fz31.1.trans (fz29.1.trans (fz27.1.trans (fz25.1.trans fz23.1)))))), (fz33.2.trans (fz32.2.trans (fz31.2.trans (fz29.2.trans (fz27.2.trans (fz25.2.trans fz23.2))))))⟩
        · rw [if_neg c30] at hr
          have q := w_X8_harmony_16 (a := a) ha  hr
          exact ⟨q.1.trans (fz29.1.trans (fz27.1.trans (fz25.1.trans fz23.1))), q.2.trans (fz29.2.trans (fz27.2.trans (fz25.2.trans fz23.2)))⟩
theorem w_X8_layTrial_2 {a : Nat} {z : gRs}  (ha : ¬ (a = 63))  : ∀ {m : Nat} {v1 : Int32} {I : Nat → Nat → Int32} {L : Nat → Nat → Int64}, r_X8_layTrial_2  m v1 I L = some z → z.2.1 a = I a ∧ z.2.2 a = L a := by
  intro m
  induction m with
  | zero =>
    intro v1 I L hr
    cases hr
  | succ m ih =>
    intro v1 I L hr
    have hK2 : ∀ v1 I L, r_X8_layTrial_2  m v1 I L = some z → z.2.1 a = I a ∧ z.2.2 a = L a := fun v1 I L hr => ih hr
    unfold r_X8_layTrial_2 at hr
    by_cases c4 : (nI 27) ≤ v1
    · rw [if_pos c4] at hr
      cases hr
      exact ⟨rfl, rfl⟩
    · rw [if_neg c4] at hr
      obtain ⟨b5, hr⟩ := gopt hr
      obtain ⟨b6, hr⟩ := gopt hr
      have q := hK2 _ _ _ hr
      exact ⟨q.1.trans (gu2_other (fun e => ha (e))), q.2.trans rfl⟩
theorem w_X8_layTrial {a : Nat} {z : gRs} {I : Nat → Nat → Int32} {L : Nat → Nat → Int64}  (ha : ¬ (a = 63)) (hr : r_X8_layTrial I L  = some z) : z.2.1 a = I a ∧ z.2.2 a = L a := by
  unfold r_X8_layTrial at hr
  have q := w_X8_layTrial_2 (a := a) ha  hr
  exact ⟨q.1.trans rfl, q.2.trans rfl⟩
theorem w_X8_power_4 {a : Nat} {z : gRs}  (ha : ¬ (False))  : ∀ {m : Nat} {v0 : Int32} {v1 : Int32} {v2 : Int32} {v3 : Int32} {I : Nat → Nat → Int32} {L : Nat → Nat → Int64}, r_X8_power_4  m v0 v1 v2 v3 I L = some z → z.2.1 a = I a ∧ z.2.2 a = L a := by
  intro m
  induction m with
  | zero =>
    intro v0 v1 v2 v3 I L hr
    cases hr
  | succ m ih =>
    intro v0 v1 v2 v3 I L hr
    have hK4 : ∀ v0 v1 v2 v3 I L, r_X8_power_4  m v0 v1 v2 v3 I L = some z → z.2.1 a = I a ∧ z.2.2 a = L a := fun v0 v1 v2 v3 I L hr => ih hr
    unfold r_X8_power_4 at hr
    by_cases c2 : v1 ≤ v3
    · rw [if_pos c2] at hr
      cases hr
      exact ⟨rfl, rfl⟩
    · rw [if_neg c2] at hr
      have q := hK4 _ _ _ _ _ _ hr
      exact ⟨q.1.trans rfl, q.2.trans rfl⟩
theorem w_X8_power {a : Nat} {z : gRs} {I : Nat → Nat → Int32} {L : Nat → Nat → Int64} {a0 : Int32} {a1 : Int32} (ha : ¬ (False)) (hr : r_X8_power I L a0 a1 = some z) : z.2.1 a = I a ∧ z.2.2 a = L a := by
  unfold r_X8_power at hr
  have q := w_X8_power_4 (a := a) ha  hr
  exact ⟨q.1.trans rfl, q.2.trans rfl⟩
theorem w_X8_driveRow_10 {a : Nat} {z : gRs}  (ha : ¬ (a = 57 ∨ a = 63 ∨ a = 69))  : ∀ {m : Nat} {v1 : Int32} {v2 : Int32} {v3 : Int32} {v4 : Int32} {I : Nat → Nat → Int32} {L : Nat → Nat → Int64}, r_X8_driveRow_10  m v1 v2 v3 v4 I L = some z → z.2.1 a = I a ∧ z.2.2 a = L a := by
  intro m
  induction m with
  | zero =>
    intro v1 v2 v3 v4 I L hr
    cases hr
  | succ m ih =>
    intro v1 v2 v3 v4 I L hr
    have hK10 : ∀ v1 v2 v3 v4 I L, r_X8_driveRow_10  m v1 v2 v3 v4 I L = some z → z.2.1 a = I a ∧ z.2.2 a = L a := fun v1 v2 v3 v4 I L hr => ih hr
    unfold r_X8_driveRow_10 at hr
    by_cases c13 : v1 ≤ v4
    · rw [if_pos c13] at hr
      cases hr
      exact ⟨rfl, rfl⟩
    · rw [if_neg c13] at hr
      obtain ⟨z14, hz14, hr⟩ := gbnd hr
      have fz14 := w_X8_power (a := a) (fun e => e) hz14
      obtain ⟨b15, hr⟩ := gopt hr
      obtain ⟨b16, hr⟩ := gopt hr
      obtain ⟨b17, hr⟩ := gopt hr
      obtain ⟨b18, hr⟩ := gopt hr
      obtain ⟨z19, hz19, hr⟩ := gbnd hr
      have fz19 := w_X8_canDrive (a := a) (fun e => e) hz19
      by_cases c20 : ¬ z19.1 = 0
      · rw [if_pos c20] at hr
        obtain ⟨b21, hr⟩ := gopt hr
        obtain ⟨b22, hr⟩ := gopt hr
        obtain ⟨z23, hz23, hr⟩ := gbnd hr
        have fz23 := w_X8_driveOn (a := a) (fun h => h.elim (fun e => ha (Or.inl (e))) (fun h => h.elim (fun e => ha (Or.inr (Or.inl (e)))) (fun e => ha (Or.inr (Or.inr (e)))))) hz23
        have q := hK10 _ _ _ _ _ _ hr
        exact ⟨q.1.trans (fz23.1.trans (fz19.1.trans fz14.1)), q.2.trans (fz23.2.trans (fz19.2.trans fz14.2))⟩
      · rw [if_neg c20] at hr
        cases hr
        exact ⟨(fz19.1.trans fz14.1), (fz19.2.trans fz14.2)⟩
theorem w_X8_driveRow {a : Nat} {z : gRs} {I : Nat → Nat → Int32} {L : Nat → Nat → Int64} {a1 : Int32} {a2 : Int32} (ha : ¬ (a = 57 ∨ a = 63 ∨ a = 69)) (hr : r_X8_driveRow I L a1 a2 = some z) : z.2.1 a = I a ∧ z.2.2 a = L a := by
  unfold r_X8_driveRow at hr
  obtain ⟨z24, hz24, hr⟩ := gbnd hr
  have fz24 := w_X8_layTrial (a := a) (fun e => ha (Or.inr (Or.inl (e)))) hz24
  have q := w_X8_driveRow_10 (a := a) ha  hr
  exact ⟨q.1.trans fz24.1, q.2.trans fz24.2⟩
theorem w_X8_told_10 {a : Nat} {z : gRs}  (ha : ¬ (False))  : ∀ {m : Nat} {v1 : Int32} {v2 : Int32} {v3 : Int32} {v4 : Int32} {v5 : Int32} {I : Nat → Nat → Int32} {L : Nat → Nat → Int64}, r_X8_told_10  m v1 v2 v3 v4 v5 I L = some z → z.2.1 a = I a ∧ z.2.2 a = L a := by
  intro m
  induction m with
  | zero =>
    intro v1 v2 v3 v4 v5 I L hr
    cases hr
  | succ m ih =>
    intro v1 v2 v3 v4 v5 I L hr
    have hK10 : ∀ v1 v2 v3 v4 v5 I L, r_X8_told_10  m v1 v2 v3 v4 v5 I L = some z → z.2.1 a = I a ∧ z.2.2 a = L a := fun v1 v2 v3 v4 v5 I L hr => ih hr
    unfold r_X8_told_10 at hr
    by_cases c7 : v1 ≤ v5
    · rw [if_pos c7] at hr
      cases hr
      exact ⟨rfl, rfl⟩
    · rw [if_neg c7] at hr
      obtain ⟨z8, hz8, hr⟩ := gbnd hr
      have fz8 := w_X8_power (a := a) (fun e => e) hz8
      obtain ⟨b9, hr⟩ := gopt hr
      obtain ⟨b10, hr⟩ := gopt hr
      obtain ⟨b11, hr⟩ := gopt hr
      obtain ⟨b12, hr⟩ := gopt hr
      have q := hK10 _ _ _ _ _ _ _ hr
      exact ⟨q.1.trans fz8.1, q.2.trans fz8.2⟩
theorem w_X8_told {a : Nat} {z : gRs} {I : Nat → Nat → Int32} {L : Nat → Nat → Int64} {a1 : Int32} {a2 : Int32} (ha : ¬ (False)) (hr : r_X8_told I L a1 a2 = some z) : z.2.1 a = I a ∧ z.2.2 a = L a := by
  unfold r_X8_told at hr
  have q := w_X8_told_10 (a := a) ha  hr
  exact ⟨q.1.trans rfl, q.2.trans rfl⟩
theorem w_X8_bestFit_27 {a : Nat} {z : gRs}  (ha : ¬ (a = 57 ∨ a = 63 ∨ a = 69)) {K7 : Int32 → Int32 → Int32 → Int32 → (Nat → Nat → Int32) → (Nat → Nat → Int64) → Option gRs} (hK7 : ∀ v1 v2 v3 v4 I L, K7 v1 v2 v3 v4 I L = some z → z.2.1 a = I a ∧ z.2.2 a = L a) {v1 : Int32} {v2 : Int32} {v3 : Int32} {v4 : Int32} {s0 : Int32} {I : Nat → Nat → Int32} {L : Nat → Nat → Int64} (hr : r_X8_bestFit_27 K7 v1 v2 v3 v4 s0 I L = some z) : z.2.1 a = I a ∧ z.2.2 a = L a := by
  unfold r_X8_bestFit_27 at hr
  have q := hK7 _ _ _ _ _ _ hr
  exact ⟨q.1.trans (gu2_other (fun e => ha (Or.inl (e)))), q.2.trans rfl⟩
theorem w_X8_bestFit_7 {a : Nat} {z : gRs}  (ha : ¬ (a = 57 ∨ a = 63 ∨ a = 69))  : ∀ {m : Nat} {v1 : Int32} {v2 : Int32} {v3 : Int32} {v4 : Int32} {I : Nat → Nat → Int32} {L : Nat → Nat → Int64}, r_X8_bestFit_7  m v1 v2 v3 v4 I L = some z → z.2.1 a = I a ∧ z.2.2 a = L a := by
  intro m
  induction m with
  | zero =>
    intro v1 v2 v3 v4 I L hr
    cases hr
  | succ m ih =>
    intro v1 v2 v3 v4 I L hr
    have hK7 : ∀ v1 v2 v3 v4 I L, r_X8_bestFit_7  m v1 v2 v3 v4 I L = some z → z.2.1 a = I a ∧ z.2.2 a = L a := fun v1 v2 v3 v4 I L hr => ih hr
    unfold r_X8_bestFit_7 at hr
    obtain ⟨z17, hz17, hr⟩ := gbnd hr
    have fz17 := w_X8_power (a := a) (fun e => e) hz17
    by_cases c18 : z17.1 ≤ v4
    · rw [if_pos c18] at hr
      cases hr
      exact ⟨fz17.1, fz17.2⟩
    · rw [if_neg c18] at hr
      obtain ⟨z19, hz19, hr⟩ := gbnd hr
      have fz19 := w_X8_driveRow (a := a) (fun h => h.elim (fun e => ha (Or.inl (e))) (fun h => h.elim (fun e => ha (Or.inr (Or.inl (e)))) (fun e => ha (Or.inr (Or.inr (e)))))) hz19
      by_cases c20 : z19.1 = 0
      · rw [if_pos c20] at hr
        have q := w_X8_bestFit_27 (a := a) ha hK7 hr
        exact ⟨q.1.trans (fz19.1.trans fz17.1), q.2.trans (fz19.2.trans fz17.2)⟩
      · rw [if_neg c20] at hr
        obtain ⟨z21, hz21, hr⟩ := gbnd hr
        have fz21 := w_X8_fitOn (a := a) (fun e => e) hz21
        have q := w_X8_bestFit_27 (a := a) ha hK7 hr
        exact ⟨q.1.trans (fz21.1.trans (fz19.1.trans fz17.1)), q.2.trans (fz21.2.trans (fz19.2.trans fz17.2))⟩
theorem w_X8_bestFit {a : Nat} {z : gRs} {I : Nat → Nat → Int32} {L : Nat → Nat → Int64} {a1 : Int32} {a2 : Int32} (ha : ¬ (a = 57 ∨ a = 63 ∨ a = 69)) (hr : r_X8_bestFit I L a1 a2 = some z) : z.2.1 a = I a ∧ z.2.2 a = L a := by
  unfold r_X8_bestFit at hr
  have q := w_X8_bestFit_7 (a := a) ha  hr
  exact ⟨q.1.trans (gu2_other (fun e => ha (Or.inl (e)))), q.2.trans rfl⟩
theorem w_X8_best_30 {a : Nat} {z : gRs}  (ha : ¬ (a = 57 ∨ a = 63 ∨ a = 69))  {v4 : Int32} {I : Nat → Nat → Int32} {L : Nat → Nat → Int64} (hr : r_X8_best_30  v4 I L = some z) : z.2.1 a = I a ∧ z.2.2 a = L a := by
  unfold r_X8_best_30 at hr
  cases hr
  exact ⟨rfl, rfl⟩
theorem w_X8_best {a : Nat} {z : gRs} {I : Nat → Nat → Int32} {L : Nat → Nat → Int64} {a1 : Int32} {a2 : Int32} {a3 : Int32} (ha : ¬ (a = 57 ∨ a = 63 ∨ a = 69)) (hr : r_X8_best I L a1 a2 a3 = some z) : z.2.1 a = I a ∧ z.2.2 a = L a := by
  unfold r_X8_best at hr
  obtain ⟨z15, hz15, hr⟩ := gbnd hr
  have fz15 := w_X8_isVerse (a := a) (fun e => e) hz15
  by_cases c16 : ¬ z15.1 = 0
  · rw [if_pos c16] at hr
    by_cases c17 : ¬ (f_X8_in z15.2.1 z15.2.2 (Int32.toInt64 a2) (lN 1) (lN 3)) = 0
    · rw [if_pos c17] at hr
      obtain ⟨z18, hz18, hr⟩ := gbnd hr
      have fz18 := w_X8_bestFit (a := a) (fun h => h.elim (fun e => ha (Or.inl (e))) (fun h => h.elim (fun e => ha (Or.inr (Or.inl (e)))) (fun e => ha (Or.inr (Or.inr (e)))))) hz18
      by_cases c19 : a3 = 0
      · rw [if_pos c19] at hr
        have q := w_X8_best_30 (a := a) ha  hr
        exact ⟨q.1.trans (fz18.1.trans fz15.1), q.2.trans (fz18.2.trans fz15.2)⟩
      · rw [if_neg c19] at hr
        by_cases c20 : z18.1 = (-9 : Int32)
        · rw [if_pos c20] at hr
          have q := w_X8_best_30 (a := a) ha  hr
          exact ⟨q.1.trans (fz18.1.trans fz15.1), q.2.trans (fz18.2.trans fz15.2)⟩
        · rw [if_neg c20] at hr
          obtain ⟨z21, hz21, hr⟩ := gbnd hr
          have fz21 := w_X8_told (a := a) (fun e => e) hz21
          cases hr
          exact ⟨(fz21.1.trans (fz18.1.trans fz15.1)), (fz21.2.trans (fz18.2.trans fz15.2))⟩
    · rw [if_neg c17] at hr
      cases hr
      exact ⟨fz15.1, fz15.2⟩
  · rw [if_neg c16] at hr
    cases hr
    exact ⟨fz15.1, fz15.2⟩
theorem w_X8_fewest_8 {a : Nat} {z : gRs}  (ha : ¬ (a = 57 ∨ a = 63 ∨ a = 69))  : ∀ {m : Nat} {v1 : Int32} {v2 : Int32} {I : Nat → Nat → Int32} {L : Nat → Nat → Int64}, r_X8_fewest_8  m v1 v2 I L = some z → z.2.1 a = I a ∧ z.2.2 a = L a := by
  intro m
  induction m with
  | zero =>
    intro v1 v2 I L hr
    cases hr
  | succ m ih =>
    intro v1 v2 I L hr
    have hK8 : ∀ v1 v2 I L, r_X8_fewest_8  m v1 v2 I L = some z → z.2.1 a = I a ∧ z.2.2 a = L a := fun v1 v2 I L hr => ih hr
    unfold r_X8_fewest_8 at hr
    by_cases c6 : (nI 4) ≤ v2
    · rw [if_pos c6] at hr
      cases hr
      exact ⟨rfl, rfl⟩
    · rw [if_neg c6] at hr
      obtain ⟨z7, hz7, hr⟩ := gbnd hr
      have fz7 := w_X8_bestFit (a := a) (fun h => h.elim (fun e => ha (Or.inl (e))) (fun h => h.elim (fun e => ha (Or.inr (Or.inl (e)))) (fun e => ha (Or.inr (Or.inr (e)))))) hz7
      by_cases c8 : ¬ z7.1 = (nI 4)
      · rw [if_pos c8] at hr
        have q := hK8 _ _ _ _ hr
        exact ⟨q.1.trans fz7.1, q.2.trans fz7.2⟩
      · rw [if_neg c8] at hr
        cases hr
        exact ⟨fz7.1, fz7.2⟩
theorem w_X8_fewest {a : Nat} {z : gRs} {I : Nat → Nat → Int32} {L : Nat → Nat → Int64} {a1 : Int32} (ha : ¬ (a = 57 ∨ a = 63 ∨ a = 69)) (hr : r_X8_fewest I L a1 = some z) : z.2.1 a = I a ∧ z.2.2 a = L a := by
  unfold r_X8_fewest at hr
  obtain ⟨z9, hz9, hr⟩ := gbnd hr
  have fz9 := w_X8_isVerse (a := a) (fun e => e) hz9
  by_cases c10 : ¬ z9.1 = 0
  · rw [if_pos c10] at hr
    have q := w_X8_fewest_8 (a := a) ha  hr
    exact ⟨q.1.trans fz9.1, q.2.trans fz9.2⟩
  · rw [if_neg c10] at hr
    cases hr
    exact ⟨fz9.1, fz9.2⟩
theorem w_X8_tonesIn_4 {a : Nat} {z : gRs}  (ha : ¬ (False))  : ∀ {m : Nat} {v1 : Int32} {v2 : Int32} {v3 : Int32} {v4 : Int32} {I : Nat → Nat → Int32} {L : Nat → Nat → Int64}, r_X8_tonesIn_4  m v1 v2 v3 v4 I L = some z → z.2.1 a = I a ∧ z.2.2 a = L a := by
  intro m
  induction m with
  | zero =>
    intro v1 v2 v3 v4 I L hr
    cases hr
  | succ m ih =>
    intro v1 v2 v3 v4 I L hr
    have hK4 : ∀ v1 v2 v3 v4 I L, r_X8_tonesIn_4  m v1 v2 v3 v4 I L = some z → z.2.1 a = I a ∧ z.2.2 a = L a := fun v1 v2 v3 v4 I L hr => ih hr
    unfold r_X8_tonesIn_4 at hr
    by_cases c3 : v2 ≤ v4
    · rw [if_pos c3] at hr
      cases hr
      exact ⟨rfl, rfl⟩
    · rw [if_neg c3] at hr
      obtain ⟨b4, hr⟩ := gopt hr
      have q := hK4 _ _ _ _ _ _ hr
      exact ⟨q.1.trans rfl, q.2.trans rfl⟩
theorem w_X8_tonesIn {a : Nat} {z : gRs} {I : Nat → Nat → Int32} {L : Nat → Nat → Int64} {a1 : Int32} {a2 : Int32} (ha : ¬ (False)) (hr : r_X8_tonesIn I L a1 a2 = some z) : z.2.1 a = I a ∧ z.2.2 a = L a := by
  unfold r_X8_tonesIn at hr
  have q := w_X8_tonesIn_4 (a := a) ha  hr
  exact ⟨q.1.trans rfl, q.2.trans rfl⟩
theorem w_X8_has_64 {a : Nat} {z : gRs}  (ha : ¬ (a = 57 ∨ a = 69)) {K40 : Int32 → Int32 → Int32 → Int32 → (Nat → Nat → Int32) → (Nat → Nat → Int64) → Option gRs} (hK40 : ∀ v2 v3 v4 v5 I L, K40 v2 v3 v4 v5 I L = some z → z.2.1 a = I a ∧ z.2.2 a = L a) {v2 : Int32} {v3 : Int32} {v5 : Int32} {s0 : Int32} {s1 : Int32} {I : Nat → Nat → Int32} {L : Nat → Nat → Int64} (hr : r_X8_has_64 K40 v2 v3 v5 s0 s1 I L = some z) : z.2.1 a = I a ∧ z.2.2 a = L a := by
  unfold r_X8_has_64 at hr
  have q := hK40 _ _ _ _ _ _ hr
  exact ⟨q.1.trans rfl, q.2.trans rfl⟩
theorem w_X8_has_40 {a : Nat} {z : gRs}  (ha : ¬ (a = 57 ∨ a = 69))  : ∀ {m : Nat} {v2 : Int32} {v3 : Int32} {v4 : Int32} {v5 : Int32} {I : Nat → Nat → Int32} {L : Nat → Nat → Int64}, r_X8_has_40  m v2 v3 v4 v5 I L = some z → z.2.1 a = I a ∧ z.2.2 a = L a := by
  intro m
  induction m with
  | zero =>
    intro v2 v3 v4 v5 I L hr
    cases hr
  | succ m ih =>
    intro v2 v3 v4 v5 I L hr
    have hK40 : ∀ v2 v3 v4 v5 I L, r_X8_has_40  m v2 v3 v4 v5 I L = some z → z.2.1 a = I a ∧ z.2.2 a = L a := fun v2 v3 v4 v5 I L hr => ih hr
    unfold r_X8_has_40 at hr
    by_cases c25 : (I 57 2) ≤ v5
    · rw [if_pos c25] at hr
      cases hr
      exact ⟨rfl, rfl⟩
    · rw [if_neg c25] at hr
      obtain ⟨z26, hz26, hr⟩ := gbnd hr
      have fz26 := w_X8_laySong (a := a) (fun h => h.elim (fun e => ha (Or.inl (e))) (fun e => ha (Or.inr (e)))) hz26
      obtain ⟨z27, hz27, hr⟩ := gbnd hr
      have fz27 := w_X8_tonesIn (a := a) (fun e => e) hz27
      by_cases c28 : ¬ (v3 &&& (z27.1 ^^^ (-1 : Int32))) = 0
      · rw [if_pos c28] at hr
        have q := w_X8_has_64 (a := a) ha hK40 hr
        exact ⟨q.1.trans (fz27.1.trans fz26.1), q.2.trans (fz27.2.trans fz26.2)⟩
      · rw [if_neg c28] at hr
        have q := w_X8_has_64 (a := a) ha hK40 hr
        exact ⟨q.1.trans (fz27.1.trans fz26.1), q.2.trans (fz27.2.trans fz26.2)⟩
theorem w_X8_has_14 {a : Nat} {z : gRs}  (ha : ¬ (a = 57 ∨ a = 69))  : ∀ {m : Nat} {v1 : Int32} {v2 : Int32} {v3 : Int32} {v4 : Int32} {I : Nat → Nat → Int32} {L : Nat → Nat → Int64}, r_X8_has_14  m v1 v2 v3 v4 I L = some z → z.2.1 a = I a ∧ z.2.2 a = L a := by
  intro m
  induction m with
  | zero =>
    intro v1 v2 v3 v4 I L hr
    cases hr
  | succ m ih =>
    intro v1 v2 v3 v4 I L hr
    have hK14 : ∀ v1 v2 v3 v4 I L, r_X8_has_14  m v1 v2 v3 v4 I L = some z → z.2.1 a = I a ∧ z.2.2 a = L a := fun v1 v2 v3 v4 I L hr => ih hr
    unfold r_X8_has_14 at hr
    by_cases c29 : (nI 4) ≤ v4
    · rw [if_pos c29] at hr
      have q := w_X8_has_40 (a := a) ha  hr
      exact ⟨q.1.trans rfl, q.2.trans rfl⟩
    · rw [if_neg c29] at hr
      obtain ⟨b30, hr⟩ := gopt hr
      have q := hK14 _ _ _ _ _ _ hr
      exact ⟨q.1.trans rfl, q.2.trans rfl⟩
theorem w_X8_has_8 {a : Nat} {z : gRs}  (ha : ¬ (a = 57 ∨ a = 69))   {I : Nat → Nat → Int32} {L : Nat → Nat → Int64} (hr : r_X8_has_8   I L = some z) : z.2.1 a = I a ∧ z.2.2 a = L a := by
  unfold r_X8_has_8 at hr
  cases hr
  exact ⟨rfl, rfl⟩
theorem w_X8_has {a : Nat} {z : gRs} {I : Nat → Nat → Int32} {L : Nat → Nat → Int64} {a1 : Int32} {a2 : Int32} (ha : ¬ (a = 57 ∨ a = 69)) (hr : r_X8_has I L a1 a2 = some z) : z.2.1 a = I a ∧ z.2.2 a = L a := by
  unfold r_X8_has at hr
  obtain ⟨z31, hz31, hr⟩ := gbnd hr
  have fz31 := w_X8_isVerse (a := a) (fun e => e) hz31
  by_cases c32 : z31.1 = 0
  · rw [if_pos c32] at hr
    have q := w_X8_has_8 (a := a) ha  hr
    exact ⟨q.1.trans fz31.1, q.2.trans fz31.2⟩
  · rw [if_neg c32] at hr
    obtain ⟨z33, hz33, hr⟩ := gbnd hr
    have fz33 := w_X8_isLane (a := a) (fun e => e) hz33
    by_cases c34 : ¬ z33.1 = 0
    · rw [if_pos c34] at hr
      have q := w_X8_has_14 (a := a) ha  hr
      exact ⟨q.1.trans (fz33.1.trans fz31.1), q.2.trans (fz33.2.trans fz31.2)⟩
    · rw [if_neg c34] at hr
      have q := w_X8_has_8 (a := a) ha  hr
      exact ⟨q.1.trans (fz33.1.trans fz31.1), q.2.trans (fz33.2.trans fz31.2)⟩
theorem w_X8_isSilent_37 {a : Nat} {z : gRs}  (ha : ¬ (a = 57 ∨ a = 63 ∨ a = 69))  {s0 : Int32} {I : Nat → Nat → Int32} {L : Nat → Nat → Int64} (hr : r_X8_isSilent_37  s0 I L = some z) : z.2.1 a = I a ∧ z.2.2 a = L a := by
  unfold r_X8_isSilent_37 at hr
  obtain ⟨b12, hr⟩ := gopt hr
  cases hr
  exact ⟨rfl, rfl⟩
theorem w_X8_isSilent_14 {a : Nat} {z : gRs}  (ha : ¬ (a = 57 ∨ a = 63 ∨ a = 69))  : ∀ {m : Nat} {v1 : Int32} {v3 : Int32} {v4 : Int32} {I : Nat → Nat → Int32} {L : Nat → Nat → Int64}, r_X8_isSilent_14  m v1 v3 v4 I L = some z → z.2.1 a = I a ∧ z.2.2 a = L a := by
  intro m
  induction m with
  | zero =>
    intro v1 v3 v4 I L hr
    cases hr
  | succ m ih =>
    intro v1 v3 v4 I L hr
    have hK14 : ∀ v1 v3 v4 I L, r_X8_isSilent_14  m v1 v3 v4 I L = some z → z.2.1 a = I a ∧ z.2.2 a = L a := fun v1 v3 v4 I L hr => ih hr
    unfold r_X8_isSilent_14 at hr
    by_cases c13 : (I 57 2) ≤ v4
    · rw [if_pos c13] at hr
      by_cases c14 : ¬ v3 = 0
      · rw [if_pos c14] at hr
        have q := w_X8_isSilent_37 (a := a) ha  hr
        exact ⟨q.1.trans rfl, q.2.trans rfl⟩
      · rw [if_neg c14] at hr
        have q := w_X8_isSilent_37 (a := a) ha  hr
        exact ⟨q.1.trans rfl, q.2.trans rfl⟩
    · rw [if_neg c13] at hr
      obtain ⟨z15, hz15, hr⟩ := gbnd hr
      have fz15 := w_X8_laySong (a := a) (fun h => h.elim (fun e => ha (Or.inl (e))) (fun e => ha (Or.inr (Or.inr (e))))) hz15
      obtain ⟨z16, hz16, hr⟩ := gbnd hr
      have fz16 := w_X8_loud (a := a) (fun e => e) hz16
      have q := hK14 _ _ _ _ _ hr
      exact ⟨q.1.trans (fz16.1.trans fz15.1), q.2.trans (fz16.2.trans fz15.2)⟩
theorem w_X8_isSilent {a : Nat} {z : gRs} {I : Nat → Nat → Int32} {L : Nat → Nat → Int64} {a1 : Int32} {a2 : Int32} (ha : ¬ (a = 57 ∨ a = 63 ∨ a = 69)) (hr : r_X8_isSilent I L a1 a2 = some z) : z.2.1 a = I a ∧ z.2.2 a = L a := by
  unfold r_X8_isSilent at hr
  obtain ⟨z17, hz17, hr⟩ := gbnd hr
  have fz17 := w_X8_layTrial (a := a) (fun e => ha (Or.inr (Or.inl (e)))) hz17
  have q := w_X8_isSilent_14 (a := a) ha  hr
  exact ⟨q.1.trans ((gu2_other (fun e => ha (Or.inr (Or.inl (e))))).trans fz17.1), q.2.trans fz17.2⟩
theorem w_X8_silence_38 {a : Nat} {z : gRs}  (ha : ¬ (a = 57 ∨ a = 63 ∨ a = 69)) {K10 : Int32 → Int32 → Int32 → (Nat → Nat → Int32) → (Nat → Nat → Int64) → Option gRs} (hK10 : ∀ v1 v2 v3 I L, K10 v1 v2 v3 I L = some z → z.2.1 a = I a ∧ z.2.2 a = L a) {v1 : Int32} {v3 : Int32} {s0 : Int32} {I : Nat → Nat → Int32} {L : Nat → Nat → Int64} (hr : r_X8_silence_38 K10 v1 v3 s0 I L = some z) : z.2.1 a = I a ∧ z.2.2 a = L a := by
  unfold r_X8_silence_38 at hr
  have q := hK10 _ _ _ _ _ hr
  exact ⟨q.1.trans rfl, q.2.trans rfl⟩
theorem w_X8_silence_24 {a : Nat} {z : gRs}  (ha : ¬ (a = 57 ∨ a = 63 ∨ a = 69)) {K10 : Int32 → Int32 → Int32 → (Nat → Nat → Int32) → (Nat → Nat → Int64) → Option gRs} (hK10 : ∀ v1 v2 v3 I L, K10 v1 v2 v3 I L = some z → z.2.1 a = I a ∧ z.2.2 a = L a) {v1 : Int32} {v2 : Int32} {v3 : Int32} {I : Nat → Nat → Int32} {L : Nat → Nat → Int64} (hr : r_X8_silence_24 K10 v1 v2 v3 I L = some z) : z.2.1 a = I a ∧ z.2.2 a = L a := by
  unfold r_X8_silence_24 at hr
  by_cases c24 : (nI 1) = 0
  · rw [if_pos c24] at hr
    have q := w_X8_silence_38 (a := a) ha hK10 hr
    exact ⟨q.1.trans rfl, q.2.trans rfl⟩
  · rw [if_neg c24] at hr
    obtain ⟨z25, hz25, hr⟩ := gbnd hr
    have fz25 := w_X8_isSilent (a := a) (fun h => h.elim (fun e => ha (Or.inl (e))) (fun h => h.elim (fun e => ha (Or.inr (Or.inl (e)))) (fun e => ha (Or.inr (Or.inr (e)))))) hz25
    by_cases c26 : z25.1 = 0
    · rw [if_pos c26] at hr
      have q := w_X8_silence_38 (a := a) ha hK10 hr
      exact ⟨q.1.trans fz25.1, q.2.trans fz25.2⟩
    · rw [if_neg c26] at hr
      have q := w_X8_silence_38 (a := a) ha hK10 hr
      exact ⟨q.1.trans fz25.1, q.2.trans fz25.2⟩
theorem w_X8_silence_10 {a : Nat} {z : gRs}  (ha : ¬ (a = 57 ∨ a = 63 ∨ a = 69))  : ∀ {m : Nat} {v1 : Int32} {v2 : Int32} {v3 : Int32} {I : Nat → Nat → Int32} {L : Nat → Nat → Int64}, r_X8_silence_10  m v1 v2 v3 I L = some z → z.2.1 a = I a ∧ z.2.2 a = L a := by
  intro m
  induction m with
  | zero =>
    intro v1 v2 v3 I L hr
    cases hr
  | succ m ih =>
    intro v1 v2 v3 I L hr
    have hK10 : ∀ v1 v2 v3 I L, r_X8_silence_10  m v1 v2 v3 I L = some z → z.2.1 a = I a ∧ z.2.2 a = L a := fun v1 v2 v3 I L hr => ih hr
    unfold r_X8_silence_10 at hr
    by_cases c27 : (gshl (nI 1) (I 57 0)) ≤ v3
    · rw [if_pos c27] at hr
      cases hr
      exact ⟨rfl, rfl⟩
    · rw [if_neg c27] at hr
      by_cases c28 : v2 = (-9 : Int32)
      · rw [if_pos c28] at hr
        have q := w_X8_silence_24 (a := a) ha hK10 hr
        exact ⟨q.1.trans rfl, q.2.trans rfl⟩
      · rw [if_neg c28] at hr
        obtain ⟨z29, hz29, hr⟩ := gbnd hr
        have fz29 := w_X8_ones (a := a) (fun e => e) hz29
        obtain ⟨z30, hz30, hr⟩ := gbnd hr
        have fz30 := w_X8_ones (a := a) (fun e => e) hz30
        by_cases c31 : z30.1 ≤ z29.1
        · rw [if_pos c31] at hr
          by_cases c32 : (nI 0) = 0
          · rw [if_pos c32] at hr
            have q := w_X8_silence_38 (a := a) ha hK10 hr
            exact ⟨q.1.trans (fz30.1.trans fz29.1), q.2.trans (fz30.2.trans fz29.2)⟩
          · rw [if_neg c32] at hr
            obtain ⟨z33, hz33, hr⟩ := gbnd hr
            have fz33 := w_X8_isSilent (a := a) (fun h => h.elim (fun e => ha (Or.inl (e))) (fun h => h.elim (fun e => ha (Or.inr (Or.inl (e)))) (fun e => ha (Or.inr (Or.inr (e)))))) hz33
            by_cases c34 : z33.1 = 0
            · rw [if_pos c34] at hr
              have q := w_X8_silence_38 (a := a) ha hK10 hr
              exact ⟨q.1.trans (fz33.1.trans (fz30.1.trans fz29.1)), q.2.trans (fz33.2.trans (fz30.2.trans fz29.2))⟩
            · rw [if_neg c34] at hr
              have q := w_X8_silence_38 (a := a) ha hK10 hr
              exact ⟨q.1.trans (fz33.1.trans (fz30.1.trans fz29.1)), q.2.trans (fz33.2.trans (fz30.2.trans fz29.2))⟩
        · rw [if_neg c31] at hr
          have q := w_X8_silence_24 (a := a) ha hK10 hr
          exact ⟨q.1.trans (fz30.1.trans fz29.1), q.2.trans (fz30.2.trans fz29.2)⟩
theorem w_X8_silence {a : Nat} {z : gRs} {I : Nat → Nat → Int32} {L : Nat → Nat → Int64} {a1 : Int32} (ha : ¬ (a = 57 ∨ a = 63 ∨ a = 69)) (hr : r_X8_silence I L a1 = some z) : z.2.1 a = I a ∧ z.2.2 a = L a := by
  unfold r_X8_silence at hr
  obtain ⟨z35, hz35, hr⟩ := gbnd hr
  have fz35 := w_X8_isLane (a := a) (fun e => e) hz35
  by_cases c36 : ¬ z35.1 = 0
  · rw [if_pos c36] at hr
    have q := w_X8_silence_10 (a := a) ha  hr
    exact ⟨q.1.trans fz35.1, q.2.trans fz35.2⟩
  · rw [if_neg c36] at hr
    cases hr
    exact ⟨fz35.1, fz35.2⟩
theorem w_X8_tryThing_60 {a : Nat} {z : gRs}  (ha : ¬ (a = 57 ∨ a = 63 ∨ a = 69))  {v1 : Int32} {v2 : Int32} {s0 : Int32} {I : Nat → Nat → Int32} {L : Nat → Nat → Int64} (hr : r_X8_tryThing_60  v1 v2 s0 I L = some z) : z.2.1 a = I a ∧ z.2.2 a = L a := by
  unfold r_X8_tryThing_60 at hr
  obtain ⟨b91, hr⟩ := gopt hr
  cases hr
  exact ⟨(gite (gite (gite rfl (gite rfl (gu2_other (fun e => ha (Or.inr (Or.inl (e))))))) (gite (gite rfl (gite rfl (gu2_other (fun e => ha (Or.inr (Or.inl (e))))))) (gu2_other (fun e => ha (Or.inr (Or.inl (e))))))) (gite (gite (gite rfl (gite rfl (gu2_other (fun e => ha (Or.inr (Or.inl (e))))))) (gite (gite rfl (gite rfl (gu2_other (fun e => ha (Or.inr (Or.inl (e))))))) (gu2_other (fun e => ha (Or.inr (Or.inl (e))))))) (gu2_other (fun e => ha (Or.inr (Or.inl (e))))))), rfl⟩
theorem w_X8_tryThing_59 {a : Nat} {z : gRs}  (ha : ¬ (a = 57 ∨ a = 63 ∨ a = 69))  {v1 : Int32} {v2 : Int32} {I : Nat → Nat → Int32} {L : Nat → Nat → Int64} (hr : r_X8_tryThing_59  v1 v2 I L = some z) : z.2.1 a = I a ∧ z.2.2 a = L a := by
  unfold r_X8_tryThing_59 at hr
  have q := w_X8_tryThing_60 (a := a) ha  hr
  exact ⟨q.1.trans rfl, q.2.trans rfl⟩
theorem w_X8_tryThing_42 {a : Nat} {z : gRs}  (ha : ¬ (a = 57 ∨ a = 63 ∨ a = 69))  {v1 : Int32} {v2 : Int32} {I : Nat → Nat → Int32} {L : Nat → Nat → Int64} (hr : r_X8_tryThing_42  v1 v2 I L = some z) : z.2.1 a = I a ∧ z.2.2 a = L a := by
  unfold r_X8_tryThing_42 at hr
  have q := w_X8_tryThing_60 (a := a) ha  hr
  exact ⟨q.1.trans rfl, q.2.trans rfl⟩
theorem w_X8_tryThing_17 {a : Nat} {z : gRs}  (ha : ¬ (a = 57 ∨ a = 63 ∨ a = 69))  {v3 : Int32} {I : Nat → Nat → Int32} {L : Nat → Nat → Int64} (hr : r_X8_tryThing_17  v3 I L = some z) : z.2.1 a = I a ∧ z.2.2 a = L a := by
  unfold r_X8_tryThing_17 at hr
  obtain ⟨b93, hr⟩ := gopt hr
  cases hr
  exact ⟨rfl, rfl⟩
theorem w_X8_tryThing {a : Nat} {z : gRs} {I : Nat → Nat → Int32} {L : Nat → Nat → Int64} {a1 : Int32} {a2 : Int32} (ha : ¬ (a = 57 ∨ a = 63 ∨ a = 69)) (hr : r_X8_tryThing I L a1 a2 = some z) : z.2.1 a = I a ∧ z.2.2 a = L a := by
  unfold r_X8_tryThing at hr
  by_cases c94 : (nI 5) ≤ a1
  · rw [if_pos c94] at hr
    by_cases c95 : (nI 7) ≤ a1
    · rw [if_pos c95] at hr
      by_cases c96 : ¬ a1 = (nI 7)
      · rw [if_pos c96] at hr
        by_cases c97 : ¬ a1 = (nI 8)
        · rw [if_pos c97] at hr
          have q := w_X8_tryThing_59 (a := a) ha  hr
          exact ⟨q.1.trans rfl, q.2.trans rfl⟩
        · rw [if_neg c97] at hr
          obtain ⟨z98, hz98, hr⟩ := gbnd hr
          have fz98 := w_X8_isVerse (a := a) (fun e => e) hz98
          by_cases c99 : z98.1 = 0
          · rw [if_pos c99] at hr
            have q := w_X8_tryThing_59 (a := a) ha  hr
            exact ⟨q.1.trans fz98.1, q.2.trans fz98.2⟩
          · rw [if_neg c99] at hr
            obtain ⟨z100, hz100, hr⟩ := gbnd hr
            have fz100 := w_X8_fitOn (a := a) (fun e => e) hz100
            by_cases c101 : z100.1 ≤ (nI 2)
            · rw [if_pos c101] at hr
              have q := w_X8_tryThing_59 (a := a) ha  hr
              exact ⟨q.1.trans (fz100.1.trans fz98.1), q.2.trans (fz100.2.trans fz98.2)⟩
            · rw [if_neg c101] at hr
              have q := w_X8_tryThing_60 (a := a) ha  hr
              exact ⟨q.1.trans (fz100.1.trans fz98.1), q.2.trans (fz100.2.trans fz98.2)⟩
      · rw [if_neg c96] at hr
        obtain ⟨z102, hz102, hr⟩ := gbnd hr
        have fz102 := w_X8_isBeast (a := a) (fun e => e) hz102
        by_cases c103 : z102.1 = 0
        · rw [if_pos c103] at hr
          have q := w_X8_tryThing_42 (a := a) ha  hr
          exact ⟨q.1.trans fz102.1, q.2.trans fz102.2⟩
        · rw [if_neg c103] at hr
          by_cases c104 : (f_X8_bit z102.2.1 z102.2.2 (z102.2.1 63 (gx (nI 39))) a2) = 0
          · rw [if_pos c104] at hr
            have q := w_X8_tryThing_42 (a := a) ha  hr
            exact ⟨q.1.trans fz102.1, q.2.trans fz102.2⟩
          · rw [if_neg c104] at hr
            have q := w_X8_tryThing_60 (a := a) ha  hr
            exact ⟨q.1.trans fz102.1, q.2.trans fz102.2⟩
    · rw [if_neg c95] at hr
      obtain ⟨z105, hz105, hr⟩ := gbnd hr
      have fz105 := w_X8_isGate (a := a) (fun e => e) hz105
      have q := w_X8_tryThing_60 (a := a) ha  hr
      exact ⟨q.1.trans fz105.1, q.2.trans fz105.2⟩
  · rw [if_neg c94] at hr
    obtain ⟨z106, hz106, hr⟩ := gbnd hr
    have fz106 := w_X8_canDrive (a := a) (fun e => e) hz106
    by_cases c107 : z106.1 = 0
    · rw [if_pos c107] at hr
      have q := w_X8_tryThing_17 (a := a) ha  hr
      exact ⟨q.1.trans fz106.1, q.2.trans fz106.2⟩
    · rw [if_neg c107] at hr
      obtain ⟨z108, hz108, hr⟩ := gbnd hr
      have fz108 := w_X8_driveOn (a := a) (fun h => h.elim (fun e => ha (Or.inl (e))) (fun h => h.elim (fun e => ha (Or.inr (Or.inl (e)))) (fun e => ha (Or.inr (Or.inr (e)))))) hz108
      have q := w_X8_tryThing_17 (a := a) ha  hr
      exact ⟨q.1.trans (fz108.1.trans fz106.1), q.2.trans (fz108.2.trans fz106.2)⟩
theorem w_X8_judge_23 {a : Nat} {z : gRs}  (ha : ¬ (a = 57 ∨ a = 63 ∨ a = 69))  : ∀ {m : Nat} {v1 : Int32} {v2 : Int32} {v3 : Int32} {I : Nat → Nat → Int32} {L : Nat → Nat → Int64}, r_X8_judge_23  m v1 v2 v3 I L = some z → z.2.1 a = I a ∧ z.2.2 a = L a := by
  intro m
  induction m with
  | zero =>
    intro v1 v2 v3 I L hr
    cases hr
  | succ m ih =>
    intro v1 v2 v3 I L hr
    have hK23 : ∀ v1 v2 v3 I L, r_X8_judge_23  m v1 v2 v3 I L = some z → z.2.1 a = I a ∧ z.2.2 a = L a := fun v1 v2 v3 I L hr => ih hr
    unfold r_X8_judge_23 at hr
    by_cases c14 : v1 ≤ v3
    · rw [if_pos c14] at hr
      cases hr
      exact ⟨rfl, rfl⟩
    · rw [if_neg c14] at hr
      obtain ⟨z15, hz15, hr⟩ := gbnd hr
      have fz15 := w_X8_power (a := a) (fun e => e) hz15
      obtain ⟨b16, hr⟩ := gopt hr
      obtain ⟨z17, hz17, hr⟩ := gbnd hr
      have fz17 := w_X8_tryThing (a := a) (fun h => h.elim (fun e => ha (Or.inl (e))) (fun h => h.elim (fun e => ha (Or.inr (Or.inl (e)))) (fun e => ha (Or.inr (Or.inr (e)))))) hz17
      by_cases c18 : ¬ z17.1 = 0
      · rw [if_pos c18] at hr
        have q := hK23 _ _ _ _ _ hr
        exact ⟨q.1.trans (fz17.1.trans fz15.1), q.2.trans (fz17.2.trans fz15.2)⟩
      · rw [if_neg c18] at hr
        cases hr
        exact ⟨(fz17.1.trans fz15.1), (fz17.2.trans fz15.2)⟩
theorem w_X8_judge_17 {a : Nat} {z : gRs}  (ha : ¬ (a = 57 ∨ a = 63 ∨ a = 69))   {I : Nat → Nat → Int32} {L : Nat → Nat → Int64} (hr : r_X8_judge_17   I L = some z) : z.2.1 a = I a ∧ z.2.2 a = L a := by
  unfold r_X8_judge_17 at hr
  cases hr
  exact ⟨rfl, rfl⟩
theorem w_X8_judge {a : Nat} {z : gRs} {I : Nat → Nat → Int32} {L : Nat → Nat → Int64} {a1 : Int32} {a2 : Int32} (ha : ¬ (a = 57 ∨ a = 63 ∨ a = 69)) (hr : r_X8_judge I L a1 a2 = some z) : z.2.1 a = I a ∧ z.2.2 a = L a := by
  unfold r_X8_judge at hr
  by_cases c19 : (f_X8_in I L (Int32.toInt64 a1) (lN 1) (lN 4)) = 0
  · rw [if_pos c19] at hr
    have q := w_X8_judge_17 (a := a) ha  hr
    exact ⟨q.1.trans rfl, q.2.trans rfl⟩
  · rw [if_neg c19] at hr
    obtain ⟨z20, hz20, hr⟩ := gbnd hr
    have fz20 := w_X8_power (a := a) (fun e => e) hz20
    by_cases c21 : ¬ (f_X8_in z20.2.1 z20.2.2 (Int32.toInt64 a2) (lN 0) (Int32.toInt64 (z20.1 - (nI 1)))) = 0
    · rw [if_pos c21] at hr
      obtain ⟨z22, hz22, hr⟩ := gbnd hr
      have fz22 := w_X8_layTrial (a := a) (fun e => ha (Or.inr (Or.inl (e)))) hz22
      have q := w_X8_judge_23 (a := a) ha  hr
      exact ⟨q.1.trans (fz22.1.trans fz20.1), q.2.trans (fz22.2.trans fz20.2)⟩
    · rw [if_neg c21] at hr
      have q := w_X8_judge_17 (a := a) ha  hr
      exact ⟨q.1.trans fz20.1, q.2.trans fz20.2⟩
theorem w_X8_hear_18 {a : Nat} {z : gRs}  (ha : ¬ (a = 57 ∨ a = 71 ∨ a = 72 ∨ a = 73))   {I : Nat → Nat → Int32} {L : Nat → Nat → Int64} (hr : r_X8_hear_18   I L = some z) : z.2.1 a = I a ∧ z.2.2 a = L a := by
  unfold r_X8_hear_18 at hr
  cases hr
  exact ⟨rfl, rfl⟩
theorem w_X8_hear {a : Nat} {z : gRs} {I : Nat → Nat → Int32} {L : Nat → Nat → Int64} {a1 : Int32} {a2 : Int32} {a3 : Int32} (ha : ¬ (a = 57 ∨ a = 71 ∨ a = 72 ∨ a = 73)) (hr : r_X8_hear I L a1 a2 a3 = some z) : z.2.1 a = I a ∧ z.2.2 a = L a := by
  unfold r_X8_hear at hr
  obtain ⟨z17, hz17, hr⟩ := gbnd hr
  have fz17 := w_X8_isGate (a := a) (fun e => e) hz17
  by_cases c18 : ¬ z17.1 = 0
  · rw [if_pos c18] at hr
    by_cases c19 : (f_X8_in z17.2.1 z17.2.2 (Int32.toInt64 a1) (lN 0) (lN 3)) = 0
    · rw [if_pos c19] at hr
      have q := w_X8_hear_18 (a := a) ha  hr
      exact ⟨q.1.trans fz17.1, q.2.trans fz17.2⟩
    · rw [if_neg c19] at hr
      by_cases c20 : ¬ (f_X8_in z17.2.1 z17.2.2 (Int32.toInt64 a3) (lN 0) (lN 12)) = 0
      · rw [if_pos c20] at hr
        by_cases c21 : ¬ (z17.2.1 57 29) = (nI 6)
        · rw [if_pos c21] at hr
          obtain ⟨b22, hr⟩ := gopt hr
          obtain ⟨b23, hr⟩ := gopt hr
          obtain ⟨b24, hr⟩ := gopt hr
          cases hr
          exact ⟨((gu2_other (fun e => ha (Or.inl (e)))).trans ((gu2_other (fun e => ha (Or.inr (Or.inr (Or.inr (e)))))).trans ((gu2_other (fun e => ha (Or.inr (Or.inr (Or.inl (e)))))).trans ((gu2_other (fun e => ha (Or.inr (Or.inl (e))))).trans fz17.1)))), fz17.2⟩
        · rw [if_neg c21] at hr
          cases hr
          exact ⟨fz17.1, fz17.2⟩
      · rw [if_neg c20] at hr
        have q := w_X8_hear_18 (a := a) ha  hr
        exact ⟨q.1.trans fz17.1, q.2.trans fz17.2⟩
  · rw [if_neg c18] at hr
    cases hr
    exact ⟨fz17.1, fz17.2⟩
theorem wi_X8_unhear {a : Nat} {I : Nat → Nat → Int32} {L : Nat → Nat → Int64}  (ha : ¬ (a = 57)) : i_X8_unhear I L  a = I a := (gu2_other (fun e => ha (e)))
theorem w_X8_weights_61 {a : Nat} {z : gRs}  (ha : ¬ (False)) {K12 : Int32 → Int32 → Int32 → (Nat → Nat → Int32) → (Nat → Nat → Int64) → Option gRs} (hK12 : ∀ v1 v2 v3 I L, K12 v1 v2 v3 I L = some z → z.2.1 a = I a ∧ z.2.2 a = L a) {K19 : Int32 → Int32 → Int32 → Int32 → Int32 → (Nat → Nat → Int32) → (Nat → Nat → Int64) → Option gRs} (hK19 : ∀ v1 v2 v3 v4 v5 I L, K19 v1 v2 v3 v4 v5 I L = some z → z.2.1 a = I a ∧ z.2.2 a = L a) {v1 : Int32} {v2 : Int32} {v3 : Int32} {v5 : Int32} {s0 : Int32} {I : Nat → Nat → Int32} {L : Nat → Nat → Int64} (hr : r_X8_weights_61 K12 K19 v1 v2 v3 v5 s0 I L = some z) : z.2.1 a = I a ∧ z.2.2 a = L a := by
  unfold r_X8_weights_61 at hr
  have q := hK19 _ _ _ _ _ _ _ hr
  exact ⟨q.1.trans rfl, q.2.trans rfl⟩
theorem w_X8_weights_38 {a : Nat} {z : gRs}  (ha : ¬ (False)) {K12 : Int32 → Int32 → Int32 → (Nat → Nat → Int32) → (Nat → Nat → Int64) → Option gRs} (hK12 : ∀ v1 v2 v3 I L, K12 v1 v2 v3 I L = some z → z.2.1 a = I a ∧ z.2.2 a = L a) {K19 : Int32 → Int32 → Int32 → Int32 → Int32 → (Nat → Nat → Int32) → (Nat → Nat → Int64) → Option gRs} (hK19 : ∀ v1 v2 v3 v4 v5 I L, K19 v1 v2 v3 v4 v5 I L = some z → z.2.1 a = I a ∧ z.2.2 a = L a) {v1 : Int32} {v2 : Int32} {v3 : Int32} {v4 : Int32} {v5 : Int32} {I : Nat → Nat → Int32} {L : Nat → Nat → Int64} (hr : r_X8_weights_38 K12 K19 v1 v2 v3 v4 v5 I L = some z) : z.2.1 a = I a ∧ z.2.2 a = L a := by
  unfold r_X8_weights_38 at hr
  by_cases c37 : v4 = 0
  · rw [if_pos c37] at hr
    have q := w_X8_weights_61 (a := a) ha hK12 hK19 hr
    exact ⟨q.1.trans rfl, q.2.trans rfl⟩
  · rw [if_neg c37] at hr
    by_cases c38 : (nI 0) = 0
    · rw [if_pos c38] at hr
      have q := w_X8_weights_61 (a := a) ha hK12 hK19 hr
      exact ⟨q.1.trans rfl, q.2.trans rfl⟩
    · rw [if_neg c38] at hr
      obtain ⟨b39, hr⟩ := gopt hr
      obtain ⟨z40, hz40, hr⟩ := gbnd hr
      have fz40 := w_X8_toneOf (a := a) (fun e => e) hz40
      obtain ⟨b41, hr⟩ := gopt hr
      by_cases c42 : ¬ z40.1 = (z40.2.1 73 (gx v5))
      · rw [if_pos c42] at hr
        have q := w_X8_weights_61 (a := a) ha hK12 hK19 hr
        exact ⟨q.1.trans fz40.1, q.2.trans fz40.2⟩
      · rw [if_neg c42] at hr
        have q := w_X8_weights_61 (a := a) ha hK12 hK19 hr
        exact ⟨q.1.trans fz40.1, q.2.trans fz40.2⟩
theorem w_X8_weights_19 {a : Nat} {z : gRs}  (ha : ¬ (False)) {K12 : Int32 → Int32 → Int32 → (Nat → Nat → Int32) → (Nat → Nat → Int64) → Option gRs} (hK12 : ∀ v1 v2 v3 I L, K12 v1 v2 v3 I L = some z → z.2.1 a = I a ∧ z.2.2 a = L a) : ∀ {m : Nat} {v1 : Int32} {v2 : Int32} {v3 : Int32} {v4 : Int32} {v5 : Int32} {I : Nat → Nat → Int32} {L : Nat → Nat → Int64}, r_X8_weights_19 K12 m v1 v2 v3 v4 v5 I L = some z → z.2.1 a = I a ∧ z.2.2 a = L a := by
  intro m
  induction m with
  | zero =>
    intro v1 v2 v3 v4 v5 I L hr
    cases hr
  | succ m ih =>
    intro v1 v2 v3 v4 v5 I L hr
    have hK19 : ∀ v1 v2 v3 v4 v5 I L, r_X8_weights_19 K12 m v1 v2 v3 v4 v5 I L = some z → z.2.1 a = I a ∧ z.2.2 a = L a := fun v1 v2 v3 v4 v5 I L hr => ih hr
    unfold r_X8_weights_19 at hr
    by_cases c43 : (I 57 29) ≤ v5
    · rw [if_pos c43] at hr
      have q := hK12 _ _ _ _ _ hr
      exact ⟨q.1.trans rfl, q.2.trans rfl⟩
    · rw [if_neg c43] at hr
      obtain ⟨b45, hr⟩ := gopt hr
      by_cases c46 : ¬ (I 71 (gx v5)) = v1
      · rw [if_pos c46] at hr
        have q := w_X8_weights_38 (a := a) ha hK12 hK19 hr
        exact ⟨q.1.trans rfl, q.2.trans rfl⟩
      · rw [if_neg c46] at hr
        obtain ⟨b47, hr⟩ := gopt hr
        obtain ⟨z48, hz48, hr⟩ := gbnd hr
        have fz48 := w_X8_isGate (a := a) (fun e => e) hz48
        by_cases c49 : z48.1 = 0
        · rw [if_pos c49] at hr
          have q := w_X8_weights_38 (a := a) ha hK12 hK19 hr
          exact ⟨q.1.trans fz48.1, q.2.trans fz48.2⟩
        · rw [if_neg c49] at hr
          by_cases c50 : v4 = 0
          · rw [if_pos c50] at hr
            have q := w_X8_weights_61 (a := a) ha hK12 hK19 hr
            exact ⟨q.1.trans fz48.1, q.2.trans fz48.2⟩
          · rw [if_neg c50] at hr
            by_cases c51 : (nI 1) = 0
            · rw [if_pos c51] at hr
              have q := w_X8_weights_61 (a := a) ha hK12 hK19 hr
              exact ⟨q.1.trans fz48.1, q.2.trans fz48.2⟩
            · rw [if_neg c51] at hr
              obtain ⟨b52, hr⟩ := gopt hr
              obtain ⟨z53, hz53, hr⟩ := gbnd hr
              have fz53 := w_X8_toneOf (a := a) (fun e => e) hz53
              obtain ⟨b54, hr⟩ := gopt hr
              by_cases c55 : ¬ z53.1 = (z53.2.1 73 (gx v5))
              · rw [if_pos c55] at hr
                have q := w_X8_weights_61 (a := a) ha hK12 hK19 hr
                exact ⟨q.1.trans (fz53.1.trans fz48.1), q.2.trans (fz53.2.trans fz48.2)⟩
              · rw [if_neg c55] at hr
                have q := w_X8_weights_61 (a := a) ha hK12 hK19 hr
                exact ⟨q.1.trans (fz53.1.trans fz48.1), q.2.trans (fz53.2.trans fz48.2)⟩
theorem w_X8_weights_12 {a : Nat} {z : gRs}  (ha : ¬ (False))  : ∀ {m : Nat} {v1 : Int32} {v2 : Int32} {v3 : Int32} {I : Nat → Nat → Int32} {L : Nat → Nat → Int64}, r_X8_weights_12  m v1 v2 v3 I L = some z → z.2.1 a = I a ∧ z.2.2 a = L a := by
  intro m
  induction m with
  | zero =>
    intro v1 v2 v3 I L hr
    cases hr
  | succ m ih =>
    intro v1 v2 v3 I L hr
    have hK12 : ∀ v1 v2 v3 I L, r_X8_weights_12  m v1 v2 v3 I L = some z → z.2.1 a = I a ∧ z.2.2 a = L a := fun v1 v2 v3 I L hr => ih hr
    unfold r_X8_weights_12 at hr
    by_cases c57 : (nI 10) ≤ v3
    · rw [if_pos c57] at hr
      cases hr
      exact ⟨rfl, rfl⟩
    · rw [if_neg c57] at hr
      have q := w_X8_weights_19 (a := a) ha hK12 hr
      exact ⟨q.1.trans rfl, q.2.trans rfl⟩
theorem w_X8_weights {a : Nat} {z : gRs} {I : Nat → Nat → Int32} {L : Nat → Nat → Int64} {a1 : Int32} (ha : ¬ (False)) (hr : r_X8_weights I L a1 = some z) : z.2.1 a = I a ∧ z.2.2 a = L a := by
  unfold r_X8_weights at hr
  by_cases c58 : ¬ (f_X8_in I L (Int32.toInt64 a1) (lN 0) (lN 3)) = 0
  · rw [if_pos c58] at hr
    have q := w_X8_weights_12 (a := a) ha  hr
    exact ⟨q.1.trans rfl, q.2.trans rfl⟩
  · rw [if_neg c58] at hr
    cases hr
    exact ⟨rfl, rfl⟩
theorem w_X8_factorial_4 {a : Nat} {z : gRs}  (ha : ¬ (False))  : ∀ {m : Nat} {v0 : Int32} {v1 : Int32} {v2 : Int32} {I : Nat → Nat → Int32} {L : Nat → Nat → Int64}, r_X8_factorial_4  m v0 v1 v2 I L = some z → z.2.1 a = I a ∧ z.2.2 a = L a := by
  intro m
  induction m with
  | zero =>
    intro v0 v1 v2 I L hr
    cases hr
  | succ m ih =>
    intro v0 v1 v2 I L hr
    have hK4 : ∀ v0 v1 v2 I L, r_X8_factorial_4  m v0 v1 v2 I L = some z → z.2.1 a = I a ∧ z.2.2 a = L a := fun v0 v1 v2 I L hr => ih hr
    unfold r_X8_factorial_4 at hr
    by_cases c2 : v0 < v2
    · rw [if_pos c2] at hr
      cases hr
      exact ⟨rfl, rfl⟩
    · rw [if_neg c2] at hr
      have q := hK4 _ _ _ _ _ hr
      exact ⟨q.1.trans rfl, q.2.trans rfl⟩
theorem w_X8_factorial {a : Nat} {z : gRs} {I : Nat → Nat → Int32} {L : Nat → Nat → Int64} {a0 : Int32} (ha : ¬ (False)) (hr : r_X8_factorial I L a0 = some z) : z.2.1 a = I a ∧ z.2.2 a = L a := by
  unfold r_X8_factorial at hr
  have q := w_X8_factorial_4 (a := a) ha  hr
  exact ⟨q.1.trans rfl, q.2.trans rfl⟩
theorem w_X8_common_9 {a : Nat} {z : gRs}  (ha : ¬ (False))  : ∀ {m : Nat} {v2 : Int32} {v3 : Int32} {I : Nat → Nat → Int32} {L : Nat → Nat → Int64}, r_X8_common_9  m v2 v3 I L = some z → z.2.1 a = I a ∧ z.2.2 a = L a := by
  intro m
  induction m with
  | zero =>
    intro v2 v3 I L hr
    cases hr
  | succ m ih =>
    intro v2 v3 I L hr
    have hK9 : ∀ v2 v3 I L, r_X8_common_9  m v2 v3 I L = some z → z.2.1 a = I a ∧ z.2.2 a = L a := fun v2 v3 I L hr => ih hr
    unfold r_X8_common_9 at hr
    by_cases c4 : v3 = 0
    · rw [if_pos c4] at hr
      cases hr
      exact ⟨rfl, rfl⟩
    · rw [if_neg c4] at hr
      obtain ⟨b5, hr⟩ := gopt hr
      have q := hK9 _ _ _ _ hr
      exact ⟨q.1.trans rfl, q.2.trans rfl⟩
theorem w_X8_common {a : Nat} {z : gRs} {I : Nat → Nat → Int32} {L : Nat → Nat → Int64} {a0 : Int32} {a1 : Int32} (ha : ¬ (False)) (hr : r_X8_common I L a0 a1 = some z) : z.2.1 a = I a ∧ z.2.2 a = L a := by
  unfold r_X8_common at hr
  have q := w_X8_common_9 (a := a) ha  hr
  exact ⟨q.1.trans rfl, q.2.trans rfl⟩
theorem w_X8_tonesBy_24 {a : Nat} {z : gRs}  (ha : ¬ (a = 57 ∨ a = 69)) {K4 : Int32 → Int32 → Int32 → Int32 → (Nat → Nat → Int32) → (Nat → Nat → Int64) → Option gRs} (hK4 : ∀ v1 v2 v3 v4 I L, K4 v1 v2 v3 v4 I L = some z → z.2.1 a = I a ∧ z.2.2 a = L a) {v1 : Int32} {v2 : Int32} {v4 : Int32} {s0 : Int32} {s1 : Int32} {I : Nat → Nat → Int32} {L : Nat → Nat → Int64} (hr : r_X8_tonesBy_24 K4 v1 v2 v4 s0 s1 I L = some z) : z.2.1 a = I a ∧ z.2.2 a = L a := by
  unfold r_X8_tonesBy_24 at hr
  have q := hK4 _ _ _ _ _ _ hr
  exact ⟨q.1.trans rfl, q.2.trans rfl⟩
theorem w_X8_tonesBy_4 {a : Nat} {z : gRs}  (ha : ¬ (a = 57 ∨ a = 69))  : ∀ {m : Nat} {v1 : Int32} {v2 : Int32} {v3 : Int32} {v4 : Int32} {I : Nat → Nat → Int32} {L : Nat → Nat → Int64}, r_X8_tonesBy_4  m v1 v2 v3 v4 I L = some z → z.2.1 a = I a ∧ z.2.2 a = L a := by
  intro m
  induction m with
  | zero =>
    intro v1 v2 v3 v4 I L hr
    cases hr
  | succ m ih =>
    intro v1 v2 v3 v4 I L hr
    have hK4 : ∀ v1 v2 v3 v4 I L, r_X8_tonesBy_4  m v1 v2 v3 v4 I L = some z → z.2.1 a = I a ∧ z.2.2 a = L a := fun v1 v2 v3 v4 I L hr => ih hr
    unfold r_X8_tonesBy_4 at hr
    by_cases c11 : (I 57 2) ≤ v4
    · rw [if_pos c11] at hr
      obtain ⟨z12, hz12, hr⟩ := gbnd hr
      have fz12 := w_X8_ones (a := a) (fun e => e) hz12
      cases hr
      exact ⟨fz12.1, fz12.2⟩
    · rw [if_neg c11] at hr
      by_cases c13 : (f_X8_bit I L v1 v4) = 0
      · rw [if_pos c13] at hr
        have q := w_X8_tonesBy_24 (a := a) ha hK4 hr
        exact ⟨q.1.trans rfl, q.2.trans rfl⟩
      · rw [if_neg c13] at hr
        obtain ⟨z14, hz14, hr⟩ := gbnd hr
        have fz14 := w_X8_laySong (a := a) (fun h => h.elim (fun e => ha (Or.inl (e))) (fun e => ha (Or.inr (e)))) hz14
        obtain ⟨z15, hz15, hr⟩ := gbnd hr
        have fz15 := w_X8_tonesIn (a := a) (fun e => e) hz15
        have q := w_X8_tonesBy_24 (a := a) ha hK4 hr
        exact ⟨q.1.trans (fz15.1.trans fz14.1), q.2.trans (fz15.2.trans fz14.2)⟩
theorem w_X8_tonesBy {a : Nat} {z : gRs} {I : Nat → Nat → Int32} {L : Nat → Nat → Int64} {a1 : Int32} {a2 : Int32} (ha : ¬ (a = 57 ∨ a = 69)) (hr : r_X8_tonesBy I L a1 a2 = some z) : z.2.1 a = I a ∧ z.2.2 a = L a := by
  unfold r_X8_tonesBy at hr
  have q := w_X8_tonesBy_4 (a := a) ha  hr
  exact ⟨q.1.trans rfl, q.2.trans rfl⟩
theorem w_X8_share_74 {a : Nat} {z : gRs}  (ha : ¬ (a = 57 ∨ a = 69))  {s0 : Int32} {I : Nat → Nat → Int32} {L : Nat → Nat → Int64} (hr : r_X8_share_74  s0 I L = some z) : z.2.1 a = I a ∧ z.2.2 a = L a := by
  unfold r_X8_share_74 at hr
  cases hr
  exact ⟨rfl, rfl⟩
theorem w_X8_share_55 {a : Nat} {z : gRs}  (ha : ¬ (a = 57 ∨ a = 69)) {K14 : Int32 → Int32 → Int32 → Int32 → Int32 → (Nat → Nat → Int32) → (Nat → Nat → Int64) → Option gRs} (hK14 : ∀ v1 v2 v3 v4 v5 I L, K14 v1 v2 v3 v4 v5 I L = some z → z.2.1 a = I a ∧ z.2.2 a = L a) {v1 : Int32} {v2 : Int32} {v3 : Int32} {v4 : Int32} {v5 : Int32} {I : Nat → Nat → Int32} {L : Nat → Nat → Int64} (hr : r_X8_share_55 K14 v1 v2 v3 v4 v5 I L = some z) : z.2.1 a = I a ∧ z.2.2 a = L a := by
  unfold r_X8_share_55 at hr
  have q := hK14 _ _ _ _ _ _ _ hr
  exact ⟨q.1.trans rfl, q.2.trans rfl⟩
theorem w_X8_share_14 {a : Nat} {z : gRs}  (ha : ¬ (a = 57 ∨ a = 69))  : ∀ {m : Nat} {v1 : Int32} {v2 : Int32} {v3 : Int32} {v4 : Int32} {v5 : Int32} {I : Nat → Nat → Int32} {L : Nat → Nat → Int64}, r_X8_share_14  m v1 v2 v3 v4 v5 I L = some z → z.2.1 a = I a ∧ z.2.2 a = L a := by
  intro m
  induction m with
  | zero =>
    intro v1 v2 v3 v4 v5 I L hr
    cases hr
  | succ m ih =>
    intro v1 v2 v3 v4 v5 I L hr
    have hK14 : ∀ v1 v2 v3 v4 v5 I L, r_X8_share_14  m v1 v2 v3 v4 v5 I L = some z → z.2.1 a = I a ∧ z.2.2 a = L a := fun v1 v2 v3 v4 v5 I L hr => ih hr
    unfold r_X8_share_14 at hr
    by_cases c41 : (gshl (nI 1) (I 57 2)) ≤ v5
    · rw [if_pos c41] at hr
      obtain ⟨z42, hz42, hr⟩ := gbnd hr
      have fz42 := w_X8_factorial (a := a) (fun e => e) hz42
      obtain ⟨z43, hz43, hr⟩ := gbnd hr
      have fz43 := w_X8_common (a := a) (fun e => e) hz43
      by_cases c44 : v3 = 0
      · rw [if_pos c44] at hr
        obtain ⟨z45, hz45, hr⟩ := gbnd hr
        have fz45 := w_X8_factorial (a := a) (fun e => e) hz45
        obtain ⟨b46, hr⟩ := gopt hr
        have q := w_X8_share_74 (a := a) ha  hr
        exact ⟨q.1.trans (fz45.1.trans (fz43.1.trans fz42.1)), q.2.trans (fz45.2.trans (fz43.2.trans fz42.2))⟩
      · rw [if_neg c44] at hr
        obtain ⟨b47, hr⟩ := gopt hr
        have q := w_X8_share_74 (a := a) ha  hr
        exact ⟨q.1.trans (fz43.1.trans fz42.1), q.2.trans (fz43.2.trans fz42.2)⟩
    · rw [if_neg c41] at hr
      by_cases c48 : ¬ (f_X8_bit I L v5 v1) = 0
      · rw [if_pos c48] at hr
        have q := w_X8_share_55 (a := a) ha hK14 hr
        exact ⟨q.1.trans rfl, q.2.trans rfl⟩
      · rw [if_neg c48] at hr
        obtain ⟨z49, hz49, hr⟩ := gbnd hr
        have fz49 := w_X8_ones (a := a) (fun e => e) hz49
        obtain ⟨z50, hz50, hr⟩ := gbnd hr
        have fz50 := w_X8_factorial (a := a) (fun e => e) hz50
        obtain ⟨z51, hz51, hr⟩ := gbnd hr
        have fz51 := w_X8_ones (a := a) (fun e => e) hz51
        obtain ⟨z52, hz52, hr⟩ := gbnd hr
        have fz52 := w_X8_factorial (a := a) (fun e => e) hz52
        obtain ⟨z53, hz53, hr⟩ := gbnd hr
        have fz53 := w_X8_tonesBy (a := a) (fun h => h.elim (fun e => ha (Or.inl (e))) (fun e => ha (Or.inr (e)))) hz53
        obtain ⟨z54, hz54, hr⟩ := gbnd hr
        have fz54 := w_X8_tonesBy (a := a) (fun h => h.elim (fun e => ha (Or.inl (e))) (fun e => ha (Or.inr (e)))) hz54
        have q := w_X8_share_55 (a := a) ha hK14 hr
        exact ⟨q.1.trans (fz54.1.trans (fz53.1.trans (fz52.1.trans (fz51.1.trans (fz50.1.trans fz49.1))))), q.2.trans (fz54.2.trans (fz53.2.trans (fz52.2.trans (fz51.2.trans (fz50.2.trans fz49.2)))))⟩
theorem w_X8_share_8 {a : Nat} {z : gRs}  (ha : ¬ (a = 57 ∨ a = 69))   {I : Nat → Nat → Int32} {L : Nat → Nat → Int64} (hr : r_X8_share_8   I L = some z) : z.2.1 a = I a ∧ z.2.2 a = L a := by
  unfold r_X8_share_8 at hr
  cases hr
  exact ⟨rfl, rfl⟩
theorem w_X8_share {a : Nat} {z : gRs} {I : Nat → Nat → Int32} {L : Nat → Nat → Int64} {a1 : Int32} {a2 : Int32} {a3 : Int32} (ha : ¬ (a = 57 ∨ a = 69)) (hr : r_X8_share I L a1 a2 a3 = some z) : z.2.1 a = I a ∧ z.2.2 a = L a := by
  unfold r_X8_share at hr
  obtain ⟨z55, hz55, hr⟩ := gbnd hr
  have fz55 := w_X8_isBeast (a := a) (fun e => e) hz55
  by_cases c56 : z55.1 = 0
  · rw [if_pos c56] at hr
    have q := w_X8_share_8 (a := a) ha  hr
    exact ⟨q.1.trans fz55.1, q.2.trans fz55.2⟩
  · rw [if_neg c56] at hr
    obtain ⟨z57, hz57, hr⟩ := gbnd hr
    have fz57 := w_X8_isLane (a := a) (fun e => e) hz57
    by_cases c58 : ¬ z57.1 = 0
    · rw [if_pos c58] at hr
      have q := w_X8_share_14 (a := a) ha  hr
      exact ⟨q.1.trans (fz57.1.trans fz55.1), q.2.trans (fz57.2.trans fz55.2)⟩
    · rw [if_neg c58] at hr
      have q := w_X8_share_8 (a := a) ha  hr
      exact ⟨q.1.trans (fz57.1.trans fz55.1), q.2.trans (fz57.2.trans fz55.2)⟩
theorem w_X8_gain_21 {a : Nat} {z : gRs}  (ha : ¬ (a = 57 ∨ a = 69))  {v2 : Int32} {v4 : Int32} {v5 : Int32} {s0 : Int32} {I : Nat → Nat → Int32} {L : Nat → Nat → Int64} (hr : r_X8_gain_21  v2 v4 v5 s0 I L = some z) : z.2.1 a = I a ∧ z.2.2 a = L a := by
  unfold r_X8_gain_21 at hr
  obtain ⟨z11, hz11, hr⟩ := gbnd hr
  have fz11 := w_X8_laySong (a := a) (fun h => h.elim (fun e => ha (Or.inl (e))) (fun e => ha (Or.inr (e)))) hz11
  obtain ⟨z12, hz12, hr⟩ := gbnd hr
  have fz12 := w_X8_harmonyOf (a := a) (fun e => e) hz12
  cases hr
  exact ⟨(fz12.1.trans fz11.1), (fz12.2.trans fz11.2)⟩
theorem w_X8_gain {a : Nat} {z : gRs} {I : Nat → Nat → Int32} {L : Nat → Nat → Int64} {a1 : Int32} {a2 : Int32} {a3 : Int32} {a4 : Int32} (ha : ¬ (a = 57 ∨ a = 69)) (hr : r_X8_gain I L a1 a2 a3 a4 = some z) : z.2.1 a = I a ∧ z.2.2 a = L a := by
  unfold r_X8_gain at hr
  by_cases c13 : ¬ a3 = a4
  · rw [if_pos c13] at hr
    obtain ⟨z14, hz14, hr⟩ := gbnd hr
    have fz14 := w_X8_laySong (a := a) (fun h => h.elim (fun e => ha (Or.inl (e))) (fun e => ha (Or.inr (e)))) hz14
    obtain ⟨z15, hz15, hr⟩ := gbnd hr
    have fz15 := w_X8_loud (a := a) (fun e => e) hz15
    by_cases c16 : ¬ z15.1 = z14.1
    · rw [if_pos c16] at hr
      have q := w_X8_gain_21 (a := a) ha  hr
      exact ⟨q.1.trans (fz15.1.trans fz14.1), q.2.trans (fz15.2.trans fz14.2)⟩
    · rw [if_neg c16] at hr
      have q := w_X8_gain_21 (a := a) ha  hr
      exact ⟨q.1.trans (fz15.1.trans fz14.1), q.2.trans (fz15.2.trans fz14.2)⟩
  · rw [if_neg c13] at hr
    cases hr
    exact ⟨rfl, rfl⟩
theorem w_X8_isRest_38 {a : Nat} {z : gRs}  (ha : ¬ (a = 57 ∨ a = 69)) {K4 : Int32 → Int32 → Int32 → Int32 → Int32 → Int32 → (Nat → Nat → Int32) → (Nat → Nat → Int64) → Option gRs} (hK4 : ∀ v1 v2 v3 v4 v5 v6 I L, K4 v1 v2 v3 v4 v5 v6 I L = some z → z.2.1 a = I a ∧ z.2.2 a = L a) {v1 : Int32} {v2 : Int32} {v3 : Int32} {v4 : Int32} {v6 : Int32} {I : Nat → Nat → Int32} {L : Nat → Nat → Int64} (hr : r_X8_isRest_38 K4 v1 v2 v3 v4 v6 I L = some z) : z.2.1 a = I a ∧ z.2.2 a = L a := by
  unfold r_X8_isRest_38 at hr
  have q := hK4 _ _ _ _ _ _ _ _ hr
  exact ⟨q.1.trans rfl, q.2.trans rfl⟩
theorem w_X8_isRest_4 {a : Nat} {z : gRs}  (ha : ¬ (a = 57 ∨ a = 69))  : ∀ {m : Nat} {v1 : Int32} {v2 : Int32} {v3 : Int32} {v4 : Int32} {v5 : Int32} {v6 : Int32} {I : Nat → Nat → Int32} {L : Nat → Nat → Int64}, r_X8_isRest_4  m v1 v2 v3 v4 v5 v6 I L = some z → z.2.1 a = I a ∧ z.2.2 a = L a := by
  intro m
  induction m with
  | zero =>
    intro v1 v2 v3 v4 v5 v6 I L hr
    cases hr
  | succ m ih =>
    intro v1 v2 v3 v4 v5 v6 I L hr
    have hK4 : ∀ v1 v2 v3 v4 v5 v6 I L, r_X8_isRest_4  m v1 v2 v3 v4 v5 v6 I L = some z → z.2.1 a = I a ∧ z.2.2 a = L a := fun v1 v2 v3 v4 v5 v6 I L hr => ih hr
    unfold r_X8_isRest_4 at hr
    by_cases c19 : (I 57 1) ≤ v6
    · rw [if_pos c19] at hr
      obtain ⟨b20, hr⟩ := gopt hr
      cases hr
      exact ⟨rfl, rfl⟩
    · rw [if_neg c19] at hr
      by_cases c21 : v5 = 0
      · rw [if_pos c21] at hr
        have q := w_X8_isRest_38 (a := a) ha hK4 hr
        exact ⟨q.1.trans rfl, q.2.trans rfl⟩
      · rw [if_neg c21] at hr
        obtain ⟨z22, hz22, hr⟩ := gbnd hr
        have fz22 := w_X8_gain (a := a) (fun h => h.elim (fun e => ha (Or.inl (e))) (fun e => ha (Or.inr (e)))) hz22
        obtain ⟨z23, hz23, hr⟩ := gbnd hr
        have fz23 := w_X8_gain (a := a) (fun h => h.elim (fun e => ha (Or.inl (e))) (fun e => ha (Or.inr (e)))) hz23
        by_cases c24 : z23.1 < z22.1
        · rw [if_pos c24] at hr
          have q := w_X8_isRest_38 (a := a) ha hK4 hr
          exact ⟨q.1.trans (fz23.1.trans fz22.1), q.2.trans (fz23.2.trans fz22.2)⟩
        · rw [if_neg c24] at hr
          obtain ⟨z25, hz25, hr⟩ := gbnd hr
          have fz25 := w_X8_gain (a := a) (fun h => h.elim (fun e => ha (Or.inl (e))) (fun e => ha (Or.inr (e)))) hz25
          obtain ⟨z26, hz26, hr⟩ := gbnd hr
          have fz26 := w_X8_gain (a := a) (fun h => h.elim (fun e => ha (Or.inl (e))) (fun e => ha (Or.inr (e)))) hz26
          by_cases c27 : z26.1 < z25.1
          · rw [if_pos c27] at hr
            have q := w_X8_isRest_38 (a := a) ha hK4 hr
            exact ⟨q.1.trans (fz26.1.trans (fz25.1.trans (fz23.1.trans fz22.1))), q.2.trans (fz26.2.trans (fz25.2.trans (fz23.2.trans fz22.2)))⟩
          · rw [if_neg c27] at hr
            have q := hK4 _ _ _ _ _ _ _ _ hr
            exact ⟨q.1.trans (fz26.1.trans (fz25.1.trans (fz23.1.trans fz22.1))), q.2.trans (fz26.2.trans (fz25.2.trans (fz23.2.trans fz22.2)))⟩
theorem w_X8_isRest {a : Nat} {z : gRs} {I : Nat → Nat → Int32} {L : Nat → Nat → Int64} {a1 : Int32} {a2 : Int32} {a3 : Int32} {a4 : Int32} (ha : ¬ (a = 57 ∨ a = 69)) (hr : r_X8_isRest I L a1 a2 a3 a4 = some z) : z.2.1 a = I a ∧ z.2.2 a = L a := by
  unfold r_X8_isRest at hr
  have q := w_X8_isRest_4 (a := a) ha  hr
  exact ⟨q.1.trans rfl, q.2.trans rfl⟩
theorem w_X8_rests_62 {a : Nat} {z : gRs}  (ha : ¬ (a = 57 ∨ a = 69)) {K27 : Int32 → Int32 → Int32 → Int32 → Int32 → Int32 → (Nat → Nat → Int32) → (Nat → Nat → Int64) → Option gRs} (hK27 : ∀ v1 v2 v3 v4 v5 v6 I L, K27 v1 v2 v3 v4 v5 v6 I L = some z → z.2.1 a = I a ∧ z.2.2 a = L a) {v1 : Int32} {v2 : Int32} {v3 : Int32} {v4 : Int32} {v6 : Int32} {s0 : Int32} {I : Nat → Nat → Int32} {L : Nat → Nat → Int64} (hr : r_X8_rests_62 K27 v1 v2 v3 v4 v6 s0 I L = some z) : z.2.1 a = I a ∧ z.2.2 a = L a := by
  unfold r_X8_rests_62 at hr
  have q := hK27 _ _ _ _ _ _ _ _ hr
  exact ⟨q.1.trans rfl, q.2.trans rfl⟩
theorem w_X8_rests_27 {a : Nat} {z : gRs}  (ha : ¬ (a = 57 ∨ a = 69))  : ∀ {m : Nat} {v1 : Int32} {v2 : Int32} {v3 : Int32} {v4 : Int32} {v5 : Int32} {v6 : Int32} {I : Nat → Nat → Int32} {L : Nat → Nat → Int64}, r_X8_rests_27  m v1 v2 v3 v4 v5 v6 I L = some z → z.2.1 a = I a ∧ z.2.2 a = L a := by
  intro m
  induction m with
  | zero =>
    intro v1 v2 v3 v4 v5 v6 I L hr
    cases hr
  | succ m ih =>
    intro v1 v2 v3 v4 v5 v6 I L hr
    have hK27 : ∀ v1 v2 v3 v4 v5 v6 I L, r_X8_rests_27  m v1 v2 v3 v4 v5 v6 I L = some z → z.2.1 a = I a ∧ z.2.2 a = L a := fun v1 v2 v3 v4 v5 v6 I L hr => ih hr
    unfold r_X8_rests_27 at hr
    by_cases c37 : ((I 57 1) * (I 57 1)) ≤ v6
    · rw [if_pos c37] at hr
      cases hr
      exact ⟨rfl, rfl⟩
    · rw [if_neg c37] at hr
      obtain ⟨b39, hr⟩ := gopt hr
      obtain ⟨b40, hr⟩ := gopt hr
      obtain ⟨z41, hz41, hr⟩ := gbnd hr
      have fz41 := w_X8_isRest (a := a) (fun h => h.elim (fun e => ha (Or.inl (e))) (fun e => ha (Or.inr (e)))) hz41
      by_cases c42 : z41.1 = 0
      · rw [if_pos c42] at hr
        have q := hK27 _ _ _ _ _ _ _ _ hr
        exact ⟨q.1.trans fz41.1, q.2.trans fz41.2⟩
      · rw [if_neg c42] at hr
        by_cases c43 : ¬ v4 = 0
        · rw [if_pos c43] at hr
          have q := w_X8_rests_62 (a := a) ha hK27 hr
          exact ⟨q.1.trans fz41.1, q.2.trans fz41.2⟩
        · rw [if_neg c43] at hr
          obtain ⟨b44, hr⟩ := gopt hr
          obtain ⟨b45, hr⟩ := gopt hr
          have q := w_X8_rests_62 (a := a) ha hK27 hr
          exact ⟨q.1.trans fz41.1, q.2.trans fz41.2⟩
theorem w_X8_rests_19 {a : Nat} {z : gRs}  (ha : ¬ (a = 57 ∨ a = 69))   {I : Nat → Nat → Int32} {L : Nat → Nat → Int64} (hr : r_X8_rests_19   I L = some z) : z.2.1 a = I a ∧ z.2.2 a = L a := by
  unfold r_X8_rests_19 at hr
  cases hr
  exact ⟨rfl, rfl⟩
theorem w_X8_rests_8 {a : Nat} {z : gRs}  (ha : ¬ (a = 57 ∨ a = 69))   {I : Nat → Nat → Int32} {L : Nat → Nat → Int64} (hr : r_X8_rests_8   I L = some z) : z.2.1 a = I a ∧ z.2.2 a = L a := by
  unfold r_X8_rests_8 at hr
  cases hr
  exact ⟨rfl, rfl⟩
theorem w_X8_rests {a : Nat} {z : gRs} {I : Nat → Nat → Int32} {L : Nat → Nat → Int64} {a1 : Int32} {a2 : Int32} {a3 : Int32} (ha : ¬ (a = 57 ∨ a = 69)) (hr : r_X8_rests I L a1 a2 a3 = some z) : z.2.1 a = I a ∧ z.2.2 a = L a := by
  unfold r_X8_rests at hr
  obtain ⟨z47, hz47, hr⟩ := gbnd hr
  have fz47 := w_X8_isBeast (a := a) (fun e => e) hz47
  by_cases c48 : z47.1 = 0
  · rw [if_pos c48] at hr
    have q := w_X8_rests_8 (a := a) ha  hr
    exact ⟨q.1.trans fz47.1, q.2.trans fz47.2⟩
  · rw [if_neg c48] at hr
    obtain ⟨z49, hz49, hr⟩ := gbnd hr
    have fz49 := w_X8_isBeast (a := a) (fun e => e) hz49
    by_cases c50 : ¬ z49.1 = 0
    · rw [if_pos c50] at hr
      by_cases c51 : a1 = a2
      · rw [if_pos c51] at hr
        have q := w_X8_rests_19 (a := a) ha  hr
        exact ⟨q.1.trans (fz49.1.trans fz47.1), q.2.trans (fz49.2.trans fz47.2)⟩
      · rw [if_neg c51] at hr
        by_cases c52 : ¬ (f_X8_in z49.2.1 z49.2.2 (Int32.toInt64 a3) (lN 0) (lN 1)) = 0
        · rw [if_pos c52] at hr
          have q := w_X8_rests_27 (a := a) ha  hr
          exact ⟨q.1.trans (fz49.1.trans fz47.1), q.2.trans (fz49.2.trans fz47.2)⟩
        · rw [if_neg c52] at hr
          have q := w_X8_rests_19 (a := a) ha  hr
          exact ⟨q.1.trans (fz49.1.trans fz47.1), q.2.trans (fz49.2.trans fz47.2)⟩
    · rw [if_neg c50] at hr
      have q := w_X8_rests_8 (a := a) ha  hr
      exact ⟨q.1.trans (fz49.1.trans fz47.1), q.2.trans (fz49.2.trans fz47.2)⟩
theorem w_X8_drips_97 {a : Nat} {z : gRs}  (ha : ¬ (a = 57 ∨ a = 63 ∨ a = 69))  {s0 : Int32} {I : Nat → Nat → Int32} {L : Nat → Nat → Int64} (hr : r_X8_drips_97  s0 I L = some z) : z.2.1 a = I a ∧ z.2.2 a = L a := by
  unfold r_X8_drips_97 at hr
  cases hr
  exact ⟨rfl, rfl⟩
theorem w_X8_drips_80 {a : Nat} {z : gRs}  (ha : ¬ (a = 57 ∨ a = 63 ∨ a = 69)) {K30 : Int32 → Int32 → Int32 → Int32 → Int32 → Int32 → Int32 → Int32 → (Nat → Nat → Int32) → (Nat → Nat → Int64) → Option gRs} (hK30 : ∀ v1 v2 v3 v4 v5 v6 v7 v8 I L, K30 v1 v2 v3 v4 v5 v6 v7 v8 I L = some z → z.2.1 a = I a ∧ z.2.2 a = L a) {v1 : Int32} {v2 : Int32} {v3 : Int32} {v4 : Int32} {v5 : Int32} {v7 : Int32} {v8 : Int32} {s0 : Int32} {s1 : Int32} {I : Nat → Nat → Int32} {L : Nat → Nat → Int64} (hr : r_X8_drips_80 K30 v1 v2 v3 v4 v5 v7 v8 s0 s1 I L = some z) : z.2.1 a = I a ∧ z.2.2 a = L a := by
  unfold r_X8_drips_80 at hr
  have q := hK30 _ _ _ _ _ _ _ _ _ _ hr
  exact ⟨q.1.trans rfl, q.2.trans rfl⟩
theorem w_X8_drips_30 {a : Nat} {z : gRs}  (ha : ¬ (a = 57 ∨ a = 63 ∨ a = 69))  : ∀ {m : Nat} {v1 : Int32} {v2 : Int32} {v3 : Int32} {v4 : Int32} {v5 : Int32} {v6 : Int32} {v7 : Int32} {v8 : Int32} {I : Nat → Nat → Int32} {L : Nat → Nat → Int64}, r_X8_drips_30  m v1 v2 v3 v4 v5 v6 v7 v8 I L = some z → z.2.1 a = I a ∧ z.2.2 a = L a := by
  intro m
  induction m with
  | zero =>
    intro v1 v2 v3 v4 v5 v6 v7 v8 I L hr
    cases hr
  | succ m ih =>
    intro v1 v2 v3 v4 v5 v6 v7 v8 I L hr
    have hK30 : ∀ v1 v2 v3 v4 v5 v6 v7 v8 I L, r_X8_drips_30  m v1 v2 v3 v4 v5 v6 v7 v8 I L = some z → z.2.1 a = I a ∧ z.2.2 a = L a := fun v1 v2 v3 v4 v5 v6 v7 v8 I L hr => ih hr
    unfold r_X8_drips_30 at hr
    by_cases c45 : (gshl (nI 1) (I 57 0)) ≤ v8
    · rw [if_pos c45] at hr
      obtain ⟨z46, hz46, hr⟩ := gbnd hr
      have fz46 := w_X8_common (a := a) (fun e => e) hz46
      by_cases c47 : v5 = 0
      · rw [if_pos c47] at hr
        obtain ⟨b48, hr⟩ := gopt hr
        have q := w_X8_drips_97 (a := a) ha  hr
        exact ⟨q.1.trans fz46.1, q.2.trans fz46.2⟩
      · rw [if_neg c47] at hr
        obtain ⟨b49, hr⟩ := gopt hr
        have q := w_X8_drips_97 (a := a) ha  hr
        exact ⟨q.1.trans fz46.1, q.2.trans fz46.2⟩
    · rw [if_neg c45] at hr
      obtain ⟨z50, hz50, hr⟩ := gbnd hr
      have fz50 := w_X8_layTrial (a := a) (fun e => ha (Or.inr (Or.inl (e)))) hz50
      obtain ⟨z51, hz51, hr⟩ := gbnd hr
      have fz51 := w_X8_ones (a := a) (fun e => e) hz51
      obtain ⟨z52, hz52, hr⟩ := gbnd hr
      have fz52 := w_X8_power (a := a) (fun e => e) hz52
      obtain ⟨z53, hz53, hr⟩ := gbnd hr
      have fz53 := w_X8_ones (a := a) (fun e => e) hz53
      obtain ⟨z54, hz54, hr⟩ := gbnd hr
      have fz54 := w_X8_power (a := a) (fun e => e) hz54
      obtain ⟨z55, hz55, hr⟩ := gbnd hr
      have fz55 := w_X8_laySong (a := a) (fun h => h.elim (fun e => ha (Or.inl (e))) (fun e => ha (Or.inr (Or.inr (e))))) hz55
      obtain ⟨z56, hz56, hr⟩ := gbnd hr
      have fz56 := w_X8_loud (a := a) (fun e => e) hz56
      by_cases c57 : v3 < z56.1
      · rw [if_pos c57] at hr
        have q := w_X8_drips_80 (a := a) ha hK30 hr
        exact ⟨q.1.trans (fz56.1.trans (fz55.1.trans (fz54.1.trans (fz53.1.trans (fz52.1.trans (fz51.1.trans ((gu2_other (fun e => ha (Or.inr (Or.inl (e))))).trans fz50.1))))))), q.2.trans (fz56.2.trans (fz55.2.trans (fz54.2.trans (fz53.2.trans (fz52.2.trans (fz51.2.trans fz50.2))))))⟩
      · rw [if_neg c57] at hr
        have q := w_X8_drips_80 (a := a) ha hK30 hr
        exact ⟨q.1.trans (fz56.1.trans (fz55.1.trans (fz54.1.trans (fz53.1.trans (fz52.1.trans (fz51.1.trans ((gu2_other (fun e => ha (Or.inr (Or.inl (e))))).trans fz50.1))))))), q.2.trans (fz56.2.trans (fz55.2.trans (fz54.2.trans (fz53.2.trans (fz52.2.trans (fz51.2.trans fz50.2))))))⟩
theorem w_X8_drips_22 {a : Nat} {z : gRs}  (ha : ¬ (a = 57 ∨ a = 63 ∨ a = 69))   {I : Nat → Nat → Int32} {L : Nat → Nat → Int64} (hr : r_X8_drips_22   I L = some z) : z.2.1 a = I a ∧ z.2.2 a = L a := by
  unfold r_X8_drips_22 at hr
  cases hr
  exact ⟨rfl, rfl⟩
theorem w_X8_drips_8 {a : Nat} {z : gRs}  (ha : ¬ (a = 57 ∨ a = 63 ∨ a = 69))   {I : Nat → Nat → Int32} {L : Nat → Nat → Int64} (hr : r_X8_drips_8   I L = some z) : z.2.1 a = I a ∧ z.2.2 a = L a := by
  unfold r_X8_drips_8 at hr
  cases hr
  exact ⟨rfl, rfl⟩
theorem w_X8_drips {a : Nat} {z : gRs} {I : Nat → Nat → Int32} {L : Nat → Nat → Int64} {a1 : Int32} {a2 : Int32} {a3 : Int32} {a4 : Int32} {a5 : Int32} (ha : ¬ (a = 57 ∨ a = 63 ∨ a = 69)) (hr : r_X8_drips I L a1 a2 a3 a4 a5 = some z) : z.2.1 a = I a ∧ z.2.2 a = L a := by
  unfold r_X8_drips at hr
  obtain ⟨z58, hz58, hr⟩ := gbnd hr
  have fz58 := w_X8_isBeast (a := a) (fun e => e) hz58
  by_cases c59 : z58.1 = 0
  · rw [if_pos c59] at hr
    have q := w_X8_drips_8 (a := a) ha  hr
    exact ⟨q.1.trans fz58.1, q.2.trans fz58.2⟩
  · rw [if_neg c59] at hr
    obtain ⟨z60, hz60, hr⟩ := gbnd hr
    have fz60 := w_X8_isLane (a := a) (fun e => e) hz60
    by_cases c61 : ¬ z60.1 = 0
    · rw [if_pos c61] at hr
      by_cases c62 : (f_X8_in z60.2.1 z60.2.2 (Int32.toInt64 a3) (lN 0) (lN 12)) = 0
      · rw [if_pos c62] at hr
        have q := w_X8_drips_22 (a := a) ha  hr
        exact ⟨q.1.trans (fz60.1.trans fz58.1), q.2.trans (fz60.2.trans fz58.2)⟩
      · rw [if_neg c62] at hr
        by_cases c63 : ¬ (f_X8_in z60.2.1 z60.2.2 (Int32.toInt64 a4) (lN 0) (lN 10)) = 0
        · rw [if_pos c63] at hr
          have q := w_X8_drips_30 (a := a) ha  hr
          exact ⟨q.1.trans (fz60.1.trans fz58.1), q.2.trans (fz60.2.trans fz58.2)⟩
        · rw [if_neg c63] at hr
          have q := w_X8_drips_22 (a := a) ha  hr
          exact ⟨q.1.trans (fz60.1.trans fz58.1), q.2.trans (fz60.2.trans fz58.2)⟩
    · rw [if_neg c61] at hr
      have q := w_X8_drips_8 (a := a) ha  hr
      exact ⟨q.1.trans (fz60.1.trans fz58.1), q.2.trans (fz60.2.trans fz58.2)⟩
theorem wl_X8_seed {a : Nat} {I : Nat → Nat → Int32} {L : Nat → Nat → Int64} {a1 : Int64} (ha : ¬ (a = 57)) : l_X8_seed I L a1 a = L a := (gu2_other (fun e => ha (e)))
theorem w_X8_winters_87 {a : Nat} {z : gRs}  (ha : ¬ (a = 57 ∨ a = 63 ∨ a = 69)) {K14 : Int32 → Int32 → Int32 → (Nat → Nat → Int32) → (Nat → Nat → Int64) → Option gRs} (hK14 : ∀ v1 v2 v3 I L, K14 v1 v2 v3 I L = some z → z.2.1 a = I a ∧ z.2.2 a = L a) {v1 : Int32} {v2 : Int32} {v3 : Int32} {I : Nat → Nat → Int32} {L : Nat → Nat → Int64} (hr : r_X8_winters_87 K14 v1 v2 v3 I L = some z) : z.2.1 a = I a ∧ z.2.2 a = L a := by
  unfold r_X8_winters_87 at hr
  have q := hK14 _ _ _ _ _ hr
  exact ⟨q.1.trans rfl, q.2.trans rfl⟩
theorem w_X8_winters_14 {a : Nat} {z : gRs}  (ha : ¬ (a = 57 ∨ a = 63 ∨ a = 69))  : ∀ {m : Nat} {v1 : Int32} {v2 : Int32} {v3 : Int32} {I : Nat → Nat → Int32} {L : Nat → Nat → Int64}, r_X8_winters_14  m v1 v2 v3 I L = some z → z.2.1 a = I a ∧ z.2.2 a = L a := by
  intro m
  induction m with
  | zero =>
    intro v1 v2 v3 I L hr
    cases hr
  | succ m ih =>
    intro v1 v2 v3 I L hr
    have hK14 : ∀ v1 v2 v3 I L, r_X8_winters_14  m v1 v2 v3 I L = some z → z.2.1 a = I a ∧ z.2.2 a = L a := fun v1 v2 v3 I L hr => ih hr
    unfold r_X8_winters_14 at hr
    by_cases c17 : v1 ≤ v3
    · rw [if_pos c17] at hr
      cases hr
      exact ⟨rfl, rfl⟩
    · rw [if_neg c17] at hr
      by_cases c18 : ¬ (Int64.toInt32 (gremL (glushr ((gu2 L 57 33 (((L 57 33) * (lN 6364136223846793005)) + (lN 1442695040888963407))) 57 33) (nI 33)) (lN 21))) = (nI 20)
      · rw [if_pos c18] at hr
        by_cases c19 : (Int64.toInt32 (gremL (glushr ((gu2 L 57 33 (((L 57 33) * (lN 6364136223846793005)) + (lN 1442695040888963407))) 57 33) (nI 33)) (lN 21))) ≤ (nI 14)
        · rw [if_pos c19] at hr
          obtain ⟨z20, hz20, hr⟩ := gbnd hr
          have fz20 := w_X8_canDrive (a := a) (fun e => e) hz20
          by_cases c21 : z20.1 = 0
          · rw [if_pos c21] at hr
            have q := w_X8_winters_87 (a := a) ha hK14 hr
            exact ⟨q.1.trans fz20.1, q.2.trans (fz20.2.trans (gu2_other (fun e => ha (Or.inl (e)))))⟩
          · rw [if_neg c21] at hr
            obtain ⟨z22, hz22, hr⟩ := gbnd hr
            have fz22 := w_X8_driveOn (a := a) (fun h => h.elim (fun e => ha (Or.inl (e))) (fun h => h.elim (fun e => ha (Or.inr (Or.inl (e)))) (fun e => ha (Or.inr (Or.inr (e)))))) hz22
            have q := w_X8_winters_87 (a := a) ha hK14 hr
            exact ⟨q.1.trans (fz22.1.trans fz20.1), q.2.trans (fz22.2.trans (fz20.2.trans (gu2_other (fun e => ha (Or.inl (e))))))⟩
        · rw [if_neg c19] at hr
          have q := w_X8_winters_87 (a := a) ha hK14 hr
          exact ⟨q.1.trans (gu2_other (fun e => ha (Or.inr (Or.inl (e))))), q.2.trans (gu2_other (fun e => ha (Or.inl (e))))⟩
      · rw [if_neg c18] at hr
        have q := w_X8_winters_87 (a := a) ha hK14 hr
        exact ⟨q.1.trans (gu2_other (fun e => ha (Or.inr (Or.inl (e))))), q.2.trans (gu2_other (fun e => ha (Or.inl (e))))⟩
theorem w_X8_winters {a : Nat} {z : gRs} {I : Nat → Nat → Int32} {L : Nat → Nat → Int64} {a1 : Int32} (ha : ¬ (a = 57 ∨ a = 63 ∨ a = 69)) (hr : r_X8_winters I L a1 = some z) : z.2.1 a = I a ∧ z.2.2 a = L a := by
  unfold r_X8_winters at hr
  by_cases c23 : ¬ (f_X8_in I L (Int32.toInt64 a1) (lN 1) (lN 30)) = 0
  · rw [if_pos c23] at hr
    obtain ⟨z24, hz24, hr⟩ := gbnd hr
    have fz24 := w_X8_layTrial (a := a) (fun e => ha (Or.inr (Or.inl (e)))) hz24
    have q := w_X8_winters_14 (a := a) ha  hr
    exact ⟨q.1.trans fz24.1, q.2.trans fz24.2⟩
  · rw [if_neg c23] at hr
    cases hr
    exact ⟨rfl, rfl⟩
theorem w_X8_keep_15 {a : Nat} {z : gRs}  (ha : ¬ (a = 74 ∨ a = 75))  : ∀ {m : Nat} {v1 : Int32} {v2 : Int32} {I : Nat → Nat → Int32} {L : Nat → Nat → Int64}, r_X8_keep_15  m v1 v2 I L = some z → z.2.1 a = I a ∧ z.2.2 a = L a := by
  intro m
  induction m with
  | zero =>
    intro v1 v2 I L hr
    cases hr
  | succ m ih =>
    intro v1 v2 I L hr
    have hK15 : ∀ v1 v2 I L, r_X8_keep_15  m v1 v2 I L = some z → z.2.1 a = I a ∧ z.2.2 a = L a := fun v1 v2 I L hr => ih hr
    unfold r_X8_keep_15 at hr
    by_cases c7 : (nI 27) ≤ v2
    · rw [if_pos c7] at hr
      obtain ⟨z8, hz8, hr⟩ := gbnd hr
      have fz8 := w_X8_ones (a := a) (fun e => e) hz8
      cases hr
      exact ⟨fz8.1, fz8.2⟩
    · rw [if_neg c7] at hr
      obtain ⟨b9, hr⟩ := gopt hr
      obtain ⟨b10, hr⟩ := gopt hr
      have q := hK15 _ _ _ _ hr
      exact ⟨q.1.trans (gu2_other (fun e => ha (Or.inr (e)))), q.2.trans rfl⟩
theorem w_X8_keep {a : Nat} {z : gRs} {I : Nat → Nat → Int32} {L : Nat → Nat → Int64} {a1 : Int32} (ha : ¬ (a = 74 ∨ a = 75)) (hr : r_X8_keep I L a1 = some z) : z.2.1 a = I a ∧ z.2.2 a = L a := by
  unfold r_X8_keep at hr
  by_cases c11 : ¬ (f_X8_in I L (Int32.toInt64 a1) (lN 0) (lN 1)) = 0
  · rw [if_pos c11] at hr
    obtain ⟨b12, hr⟩ := gopt hr
    have q := w_X8_keep_15 (a := a) ha  hr
    exact ⟨q.1.trans (gu2_other (fun e => ha (Or.inl (e)))), q.2.trans rfl⟩
  · rw [if_neg c11] at hr
    cases hr
    exact ⟨rfl, rfl⟩
theorem w_X8_again_17 {a : Nat} {z : gRs}  (ha : ¬ (a = 57 ∨ a = 63))  : ∀ {m : Nat} {v1 : Int32} {v2 : Int32} {I : Nat → Nat → Int32} {L : Nat → Nat → Int64}, r_X8_again_17  m v1 v2 I L = some z → z.2.1 a = I a ∧ z.2.2 a = L a := by
  intro m
  induction m with
  | zero =>
    intro v1 v2 I L hr
    cases hr
  | succ m ih =>
    intro v1 v2 I L hr
    have hK17 : ∀ v1 v2 I L, r_X8_again_17  m v1 v2 I L = some z → z.2.1 a = I a ∧ z.2.2 a = L a := fun v1 v2 I L hr => ih hr
    unfold r_X8_again_17 at hr
    by_cases c8 : (nI 27) ≤ v2
    · rw [if_pos c8] at hr
      obtain ⟨z9, hz9, hr⟩ := gbnd hr
      have fz9 := w_X8_ones (a := a) (fun e => e) hz9
      cases hr
      exact ⟨(fz9.1.trans (gu2_other (fun e => ha (Or.inl (e))))), fz9.2⟩
    · rw [if_neg c8] at hr
      obtain ⟨b10, hr⟩ := gopt hr
      obtain ⟨b11, hr⟩ := gopt hr
      have q := hK17 _ _ _ _ hr
      exact ⟨q.1.trans (gu2_other (fun e => ha (Or.inr (e)))), q.2.trans rfl⟩
theorem w_X8_again {a : Nat} {z : gRs} {I : Nat → Nat → Int32} {L : Nat → Nat → Int64} {a1 : Int32} (ha : ¬ (a = 57 ∨ a = 63)) (hr : r_X8_again I L a1 = some z) : z.2.1 a = I a ∧ z.2.2 a = L a := by
  unfold r_X8_again at hr
  by_cases c12 : ¬ (f_X8_in I L (Int32.toInt64 a1) (lN 0) (lN 1)) = 0
  · rw [if_pos c12] at hr
    obtain ⟨b13, hr⟩ := gopt hr
    by_cases c14 : ¬ (I 74 (gx a1)) = 0
    · rw [if_pos c14] at hr
      have q := w_X8_again_17 (a := a) ha  hr
      exact ⟨q.1.trans rfl, q.2.trans rfl⟩
    · rw [if_neg c14] at hr
      cases hr
      exact ⟨rfl, rfl⟩
  · rw [if_neg c12] at hr
    cases hr
    exact ⟨rfl, rfl⟩
