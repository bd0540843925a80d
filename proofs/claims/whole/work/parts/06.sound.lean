/-! THE ABSTRACT MACHINE IS SOUND FOR THE MACHINE -/
abbrev gtys (G : gG3) : List (ClassId × FieldType) := [(G.1, .int), (G.2.1, .boolean), (G.2.2, .object RX4)]
def gA (b : Nat) : Nat → Prop := fun q => b ≤ q
/-- what isn't a lasting word: links between nest mates, arrays over Moment -/
def gEx (s : State) : Prop := (∀ z ∈ gnest, va_Nw (.methodLinkNest z.1 z.2.1 z.2.2.1 z.2.2.2) s) ∧ va_AO RX4 s
theorem gEx.warm {s U : State} (hW : s.WarmedH U.vm) (h : gEx s) : gEx U := ⟨fun z hz => va_Nw.warmM hW (h.1 z hz), va_AO.moved hW.alike h.2⟩
theorem gRel.moved {b0 b : Nat} {D : va_G} {G : gG3} {L : Nat} {σ : gS} {u U : State} {H : Heap} (hvm : u.vm.Alike U.vm) (h : gRel b0 b D G L σ u H) : gRel b0 b D G L σ U H := ⟨h.1, h.2.1, h.2.2.1, h.2.2.2.moved hvm⟩
def gQc (b0 b : Nat) (D : va_G) (G : gG3) (L : Nat) (Q : gP) : Array Value → State → Outcome → State → Prop := fun _ st o t =>
  ∃ r σ', Q r σ' ∧ o = .returned (r.map (gv b0 b)) ∧ gRel b0 b D G L σ' t t.heap ∧ va_F (gA b) st t
/-- the words that hold of every class of the world -/
def gCl : Prop := ∀ x, x < 9 → (∀ w ∈ u_ws (gRX x) (gTT x) (gnf x), w ∈ gGw) ∧ vwCl[x]? = some (gRX x, gTT x, gnf x) ∧ (∀ k, k < gnf x → parseFieldDescriptor (gTT x k).2.2.1 = some (gty x k)) ∧ (∀ a, a < gnf x → ∀ b, b < gnf x → a ≠ b → (gTT x a).2.1 ≠ (gTT x b).2.1) ∧ Cond.instantiable (gRX x) (gnf x) ∈ gGw ∧ Cond.initialized (gRX x) ∈ gGw ∧ ∀ k, k < gnf x → gty x k = .int ∨ gty x k = .long ∨ gisr (gty x k) = true
/-- the words that any method may want -/
def gAny : Prop := Cond.instanceMethod objectInit ∈ gGw ∧ Cond.code objectInit ⟨#[0xb1]⟩ 1 none ∈ gGw ∧ Cond.arrayClass .int ∈ gGw ∧ Cond.arrayClass .boolean ∈ gGw
/-- the tables' check -/
def gOK (M : gT) (N : gN) (nM : Nat) : Prop := (∀ y, y < nM → gchk N nM (M y).1 y = true) ∧ (∀ y, 0 < y → y < nM → ghd M N y = true) ∧ gCl ∧ gAny
section GSN
variable (M : gT) (N : gN) (nM : Nat)
/-- a walk of method y stands in the machine -/
def gCx (y : Nat) (p : Program) (R : Room) (s : State) (m : MethodId) (args : Array Value) (meth : Method) (c : Code) (b0 b : Nat) (D : va_G) (G : gG3) (d : Nat) : Prop :=
  p.tables.exec = Jvm.exec ∧ c.code = (N y).2.1 ∧ c.maxLocals = (M y).2.1 ∧ s.vm.findClass (N y).1.cls = some m.cls ∧ (∀ w ∈ gGw, w.before args s = true) ∧ gEx s ∧ meth.sig.returnType = (N y).2.2.1 ∧ meth.locks = false ∧ ((N y).1.name = "<init>" → meth.name = "<init>") ∧
  va_K D vwCl (gtys G) s ∧ b0 < b ∧ b ≤ s.heap.size ∧ d ≤ R.frames ∧ 64 * d ≤ R.locals
def gAt (R : Room) (s : State) (b0 b : Nat) (D : va_G) (G : gG3) (L : Nat) (H : Heap) (locs : List Loc) (cells slots nL mc ms : Nat) (ls : List Value) (lsR : Array Slot) (σ : gS) : Prop :=
  gRel b0 b D G L σ s H ∧ va_S (gA b) s.heap H locs ∧ gLV b0 b nL ls lsR ∧ cells + mc ≤ R.cells ∧ slots + ms ≤ R.slots
def gSnd : gK := fun d mc ms C i ls st σ Q =>
  ∀ (y : Nat) (l : Launch) (p : Program) (e : Env) (R : Room) (s : State) (m : MethodId) (args : Array Value) (below : List Frame) (meth : Method) (c : Code) (b0 b : Nat) (D : va_G) (G : gG3) (L : Nat) (H : Heap) (locs : List Loc) (cells slots : Nat) (lsR : Array Slot) (pc : Nat),
    y < nM → C = (M y).1 → gCx M N y p R s m args meth c b0 b D G d → gAt R s b0 b D G L H locs cells slots (M y).2.1 mc ms ls lsR σ → gpc (N y).2.2.2.1 (i : Int) = some (pc : Int) →
    W p l e R s m args below meth c H locs cells slots (MQ below (gQc b0 b D G L Q) args s R.cells R.slots (gA b)) (F0 m pc lsR (st.map (gv b0 b)))
end GSN
theorem gv_i (b0 b : Nat) (x : Int32) : gv b0 b (.int x) = .int x := rfl
theorem gv_l (b0 b : Nat) (x : Int64) : gv b0 b (.long x) = .long x := rfl
section GST
variable {M : gT} {N : gN} {nM y : Nat} {l : Launch} {p : Program} {e : Env} {R : Room} {s : State} {m : MethodId} {args : Array Value} {below : List Frame} {meth : Method} {c : Code} {b0 b : Nat} {D : va_G} {G : gG3} {L : Nat} {H : Heap} {locs : List Loc} {cells slots : Nat} {lsR : Array Slot} {pc : Nat}
variable {d mc ms i : Nat} {ls st : List Value} {σ : gS} {Q : gP}
/-- what the check gives at an instruction -/
theorem gOK.at (hO : gOK M N nM) (hy : y < nM) {ins : Instr} (hc : (M y).1[i]? = some ins) (hpc : gpc (N y).2.2.2.1 (i : Int) = some (pc : Int)) :
    ∃ len re pl, decode (N y).2.1 pc = .ok (re, len) ∧ gcor N nM (N y).1.cls (N y).2.2.1 (decide ((N y).1.name = "<init>")) (N y).2.2.2.1 i ins pc len re pl = true := by
  have h := hO.1 y hy
  simp only [gchk, gpiece, Bool.and_eq_true, List.all_eq_true, List.mem_range, decide_eq_true_eq] at h
  have hi : i < (M y).1.length := (List.getElem?_eq_some_iff.mp hc).1
  have h2 := h.2 i hi
  rw [Nat.zero_add, gitem, hc] at h2
  simp only [gpc, Int.toNat_natCast] at hpc
  cases hz : (N y).2.2.2.1[i]? with
  | none => rw [hz] at hpc; cases hpc
  | some z =>
    rw [hz] at h2 hpc
    simp only [Option.map_some, Option.some.injEq, Int.natCast_inj] at hpc
    simp only [Bool.and_eq_true, decide_eq_true_eq] at h2
    subst hpc
    exact ⟨z.2.1, z.2.2.1, z.2.2.2, h2.1, h2.2⟩
theorem gpc_nx {q : gQ} {len : Nat} (h : gpc q ((i + 1 : Nat) : Int) = some ((pc : Int) + (len : Int))) : gpc q ((i + 1 : Nat) : Int) = some ((pc + len : Nat) : Int) := by rw [h]; rfl
theorem gpc_nat {q : gQ} {t o : Int} (h : gpc q t = some o) : ∃ k : Nat, o = (k : Int) ∧ gpc q ((t.toNat : Nat) : Int) = some (k : Int) := by
  have h' := h
  simp only [gpc] at h'
  cases hz : q[t.toNat]? with
  | none => rw [hz] at h'; cases h'
  | some z =>
    rw [hz] at h'
    simp only [Option.map_some, Option.some.injEq] at h'
    refine ⟨z.1, h'.symm, ?_⟩
    simp only [gpc, Int.toNat_natCast, hz, Option.map_some]
end GST
