/-! ACTS: the Moments that were, newest first -/
theorem become_c {I : gII} {L : gLL} {V : TMom} {m m2 : Nat} (h : cMom I L m2 V) : cMom (i_X4_become I L m m2) (l_X4_become I L m m2) m V := by
  obtain ⟨m0, m1, m2', m3, m4, m5, m7, S, mS, hS1, hS2⟩ := h
  by_cases e : m = m2
  · subst e
    unfold i_X4_become l_X4_become
    refine ⟨?_, ?_, ?_, ?_, ?_, ?_, ?_, S, ?_, hS1, hS2⟩ <;> simp [gu2, *]
  · have e2 : ¬ m2 = m := fun q => e q.symm
    unfold i_X4_become l_X4_become
    refine ⟨?_, ?_, ?_, ?_, ?_, ?_, ?_, S, ?_, hS1, hS2⟩ <;> simp [gu2, *]
