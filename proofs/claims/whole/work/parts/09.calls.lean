/-! CALLS, and the whole -/
theorem gEx.same {s U : State} (h : s.vm = U.vm) (hE : gEx s) : gEx U := ⟨fun z hz => va_Nw.same rfl h (hE.1 z hz), va_AO.moved (by rw [← h]; exact Vm.Alike.refl _) hE.2⟩
abbrev gwy (M : gT) (N : gN) (y : Nat) : List Cond := Cond.code (N y).1 (N y).2.1 (M y).2.1 (N y).2.2.1 :: gGw
def gPc (b0 b : Nat) (D : va_G) (G : gG3) (L : Nat) (as : List Value) (σ : gS) : Array Value → State → Prop := va_Pc (as.map (gv b0 b)) (fun U => gRel b0 b D G L σ U U.heap ∧ va_K D vwCl (gtys G) U ∧ gEx U ∧ b ≤ U.heap.size)
abbrev grm (d mc ms : Nat) : Room := { frames := d, cells := mc, slots := ms, locals := 64 * d }
/-- what is known of a method that is called -/
theorem ghd_facts {M : gT} {N : gN} {nM y : Nat} (hO : gOK M N nM) (h0 : 0 < y) (hy : y < nM) :
    Cond.code (N y).1 (N y).2.1 (M y).2.1 (N y).2.2.1 ∈ gGw ∧ Cond.initialized (N y).1.cls ∈ gGw ∧ ((N y).1.cls ≠ "java/lang/invoke/MethodHandle" ∧ (N y).1.cls ≠ "java/lang/invoke/VarHandle") ∧ plainFor (N y).1 = true ∧ (M y).2.1 ≤ 40 ∧
    ((N y).2.2.2.2.1 = true → Cond.static (N y).1 ∈ gGw ∧ (parseMethodDescriptor (N y).1.desc).map (fun d => d.parameters.length) = some (M y).2.2.1) ∧
    ((N y).2.2.2.2.1 = false → Cond.instanceMethod (N y).1 ∈ gGw ∧ (∀ n, (M y).2.2.1 = n + 1 → (parseMethodDescriptor (N y).1.desc).map (fun d => d.parameters.length) = some n) ∧ (M y).2.2.2.1 < 9 ∧ gRX (M y).2.2.2.1 = (N y).1.cls ∧ ((N y).1.name = "<init>" → (N y).2.2.1 = none) ∧ (¬ (N y).1.name = "<init>" → Cond.selects (N y).1.cls (N y).1 (N y).1 ∈ gGw)) := by
  have h := hO.2.1 y h0 hy
  unfold ghd at h
  simp only [Bool.and_eq_true, decide_eq_true_eq] at h
  obtain ⟨⟨⟨⟨⟨h1, h2⟩, h3⟩, h4⟩, h5⟩, h6⟩ := h
  refine ⟨gw_mem h1, gw_mem h2, h4, h5, h6, fun hs => ?_, fun hs => ?_⟩
  · rw [hs] at h3
    simp only [if_true, Bool.and_eq_true, decide_eq_true_eq] at h3
    exact ⟨gw_mem h3.1, h3.2⟩
  · rw [hs] at h3
    simp only [Bool.false_eq_true, if_false, Bool.and_eq_true, decide_eq_true_eq] at h3
    obtain ⟨⟨⟨⟨g1, g2⟩, g3⟩, g4⟩, g5⟩ := h3
    refine ⟨gw_mem g1, fun n hn => ?_, g3, g4, fun hn => ?_, fun hn => ?_⟩
    · rw [hn] at g2
      cases hq : parseMethodDescriptor (N y).1.desc with
      | none => rw [hq] at g2; cases g2
      | some d =>
        rw [hq] at g2
        simp only [Option.map_some, Option.some.injEq] at g2 ⊢
        omega
    · rw [if_pos hn] at g5
      exact of_decide_eq_true g5
    · rw [if_neg hn] at g5
      exact gw_mem g5
theorem glaz_d {n : Nat} {as : List Value} (h : glaz n as = true) : (∀ x, .double x ∉ as) ∧ (glay as).length ≤ n := by
  simp only [glaz, Bool.and_eq_true, decide_eq_true_eq, List.all_eq_true] at h
  refine ⟨fun x hx => ?_, h.1⟩
  have := h.2 _ hx
  simp at this
/-- as the kit's, for a method that no native row stands for -/
theorem gOfW {l : Launch} {y : MethodName} {ws ws' : List Cond} {rm : Room} {Pc : Array Value → State → Prop} {Qc : Array Value → State → Outcome → State → Prop} {mc ms : Nat} {free : Addr → Prop} {cc : ByteArray} {maxL : Nat} {ret : Option FieldType}
    (hy : plainFor y = true) (hw : ws = Cond.code y cc maxL ret :: ws')
    (body : ∀ p e s m args below meth c s₁, BodyLoose p l y (headSpec ws rm) cc maxL ret e s m args below meth c s₁ → c.maxLocals = maxL → Pc args s →
      W p l e (headSpec ws rm).room s m args below meth c s.heap [] 0 0 (MQ below Qc args s mc ms free) (entryFrame m args maxL)) : Met l y ws rm Pc Qc mc ms free := by
  refine MetFree.of_bodySF (code := cc) (maxLocals := maxL) (ret := ret) hy ?_ ?_
  · intro args s m h hn
    obtain ⟨meth, c, h1, h2, h3, h4, h5, h6, -, -⟩ := Cond.code_spec hn (atoms_spec (ws := ws) h _ (by rw [hw]; exact List.mem_cons_self))
    exact ⟨meth, c, h1, h2, h3, h4, h5, h6⟩
  · intro p e s m args below meth c s₁ B hml hP _
    have hh0 : s₁.heap = s.heap := by rw [B.state]; rfl
    obtain ⟨t, a1, o, b1, b2, b3⟩ := body p e s m args below meth c s₁ B hml hP s₁ hh0 (Stand.of_body B)
    exact ⟨t, o, a1, b1, b2, ⟨b3.1, b3.2⟩⟩
set_option maxHeartbeats 1000000 in
theorem gMet {M : gT} {N : gN} {nM y : Nat} (hO : gOK M N nM) (h0 : 0 < y) (hy : y < nM) {l : Launch} {b0 b : Nat} {D : va_G} {G : gG3} {L d mc ms : Nat} {as : List Value} {σ : gS} {Q1 : gP} (hz : glaz (M y).2.1 as = true) (hb0 : b0 < b) (hK : gSnd M N nM d mc ms (M y).1 0 (gent (M y).2.1 as) [] σ Q1) :
    Met l (N y).1 (gwy M N y) (grm d mc ms) (gPc b0 b D G L as σ) (gQc b0 b D G L Q1) mc ms (gA b) := by
  obtain ⟨f1, f2, f3, f4, f5, f6, f7⟩ := ghd_facts hO h0 hy
  obtain ⟨z1, z2⟩ := glaz_d hz
  refine gOfW (cc := (N y).2.1) (maxL := (M y).2.1) (ret := (N y).2.2.1) f4 rfl ?_
  intro p e s m args below meth c s₁ B hml hv
  obtain ⟨rfl, hRel, hKs, hEx, hbs⟩ := hv
  have hts := atoms_spec (ws := gwy M N y) B.pre
  rw [lg_entry_eq]
  refine hK y l p e _ s m _ below meth c b0 b D G L s.heap [] 0 0 _ 0 hy rfl ⟨B.exec, B.bytes, hml, findClass_of_methodNamed B.named, fun w hw => hts w (List.mem_cons_of_mem _ hw), hEx, B.returns, B.notSynchronized, fun h => (name_of_methodNamed B.named B.method).1.trans h, hKs, hb0, hbs, Nat.le_refl _, Nat.le_refl _⟩ ⟨hRel, va_S.rf, gLV.entry z1 z2, by rw [Nat.zero_add]; exact Nat.le_refl _, by rw [Nat.zero_add]; exact Nat.le_refl _⟩ ?_
  have h := hO.1 y hy
  simp only [gchk, Bool.and_eq_true, decide_eq_true_eq] at h
  exact h.1
theorem gPc_blind {b0 b : Nat} {D : va_G} {G : gG3} {L : Nat} {as : List Value} {σ : gS} : FrameBlind (gPc b0 b D G L as σ) := by
  intro a U g mk q
  obtain ⟨q0, q1, q2, q3, q4⟩ := q
  exact ⟨q0, gRel.moved (u := U) (U := U.calling g mk a) (Vm.Alike.refl U.vm) q1, va_K.moved (u := U) (U := U.calling g mk a) (Vm.Alike.refl U.vm) q2, gEx.same (s := U) (U := U.calling g mk a) rfl q3, q4⟩
section GCA
variable {p : Program} {l : Launch} {e : Env} {R : Room} {s : State} {m : MethodId} {args : Array Value} {below : List Frame} {meth : Method} {c : Code} {H : Heap} {locs : List Loc} {cells slots : Nat} {Q : State → Prop}
/-- behind a call -/
theorem gcallW {b0 b : Nat} {D : va_G} {G : gG3} {L : Nat} {Q1 : gP} {pc mc ms : Nat} {lsR : Array Slot} {st0 rest : List Value} {a : Array Value} (hr : va_Run p l e R s m args below meth c H locs cells slots mc ms (F0 m pc lsR st0) rest (gQc b0 b D G L Q1 a) (gA b)) (hS : va_S (gA b) s.heap H locs)
    (kk : ∀ (r : Option Value) (σ' : gS) (H1 : Heap) (locs1 : List Loc), Q1 r σ' → gRel b0 b D G L σ' s H1 → va_S (gA b) s.heap H1 locs1 → W p l e R s m args below meth c H1 locs1 (cells + mc) (slots + ms) Q (F0 m (pc + 3) lsR ((r.map (gv b0 b)).toList ++ rest))) : W p l e R s m args below meth c H locs cells slots Q (F0 m pc lsR st0) := by
  intro T hT X
  obtain ⟨v, st₀, t, T', L', h0, X', hL, e1, e2, ⟨r, σ', hq, hv, hrel, hz, hk⟩, st⟩ := hr T hT X
  cases hv
  rw [h0] at hz hk
  have hal : s.vm.Alike t.vm := by rw [← e2]; exact X'.warmed.alike
  obtain ⟨t2, a1, b1⟩ := kk r σ' T'.heap (locs ++ L') hq (by rw [e1]; exact hrel.moved hal.symm)
    ⟨Nat.le_trans hS.1 (by rw [e1]; exact hz), fun q h1 h2 => by rw [e1, hk q (Nat.lt_of_lt_of_le h1 hS.1) h2]; exact hS.2.1 q h1 h2, fun q hq => by
      rcases List.mem_append.mp hq with h | h
      · exact hS.2.2 q h
      · exact hL q h⟩ T' rfl X'
  exact ⟨t2, st t2 a1, b1⟩
end GCA
theorem gchk_of {N : gN} {nM y n : Nat} {C C' : List Instr} (hC : C' = C) (hl : C.length = n) (h0 : gpc (N y).2.2.2.1 0 = some 0) (h : gpiece N nM C y 0 n = true) : gchk N nM C' y = true := by
  subst hC
  subst hl
  exact Bool.and_eq_true_iff.mpr ⟨decide_eq_true h0, h⟩
