/-! EACH INSTRUCTION: the abstract step is the machine's (rows laid by wip/whole/gen/steps.py) -/
def gGoal (M : gT) (N : gN) (nM : Nat) (ins : Instr) : Prop :=
  ∀ (y : Nat) (l : Launch) (p : Program) (e : Env) (R : Room) (s : State) (m : MethodId) (args : Array Value) (below : List Frame) (meth : Method) (c : Code) (b0 b : Nat) (D : va_G) (G : gG3) (L : Nat) (H : Heap) (locs : List Loc) (cells slots : Nat) (lsR : Array Slot) (pc : Nat) (d mc ms i : Nat) (ls st : List Value) (σ : gS) (Q : gP),
    gstq M (gSnd M N nM) ins d mc ms (M y).1 i ls st σ Q → y < nM → (M y).1[i]? = some ins → gCx M N y p R s m args meth c b0 b D G d → gAt R s b0 b D G L H locs cells slots (M y).2.1 mc ms ls lsR σ → gpc (N y).2.2.2.1 (i : Int) = some (pc : Int) →
    W p l e R s m args below meth c H locs cells slots (MQ below (gQc b0 b D G L Q) args s R.cells R.slots (gA b)) (F0 m pc lsR (st.map (gv b0 b)))
theorem g2le {a : Nat} (h0 : a ≠ 0) (h1 : a ≠ 1) : 2 ≤ a := by omega
theorem gnle {L n : Nat} {σ : gS} {a k : Nat} (h : gInv L σ) (hk : k = 1 ∨ k = 2) (hsh : gsh σ a = 100 + k + 3 * n) : a ≠ 1 := fun q => by
  have := h.2
  rw [q] at hsh
  omega
/-- the script stays -/
theorem gX_kept {b0 b L : Nat} {xs : Nat → Int32} {s : State} {H H1 : Heap} {locs locs1 : List Loc} (hb0 : b0 < b) (hbs : b ≤ s.heap.size) (hS : va_S (gA b) s.heap H locs) (hS1 : va_S (gA b) s.heap H1 locs1) (h : va_X b0 L xs s H) : va_X b0 L xs s H1 := by
  have n : ¬ gA b b0 := Nat.not_le.mpr hb0
  exact h.kept ((hS1.2.1 b0 (by omega) n).trans (hS.2.1 b0 (by omega) n).symm)
section GPU
variable {p : Program} {l : Launch} {e : Env} {R : Room} {s : State} {m : MethodId} {args : Array Value} {below : List Frame} {meth : Method} {c : Code} {H : Heap} {locs : List Loc} {cells slots : Nat} {Q : State → Prop} {cc : ByteArray} {D : va_G} {cl : List vw_C} {tys : List (ClassId × FieldType)} {ws : va_W} {A : Nat → Prop} {H0 : Heap} {a pc : Nat} {ls : Array Slot} {rest : List Value}
/-- putfield, final or not; the heap's size stays -/
theorem gput (hexec : p.tables.exec = Jvm.exec) (hb : c.code = cc) {own C : String} {T : u_T} {N ci index : Nat} {Ts : List Cond} (hts : ∀ w ∈ Ts, w.before args s = true) (hin : ∀ w ∈ u_ws C T N, w ∈ Ts) (ty0 : Nat → FieldType) (hty : ∀ k, k < N → parseFieldDescriptor (T k).2.2.1 = some (ty0 k)) (hnm : ∀ a, a < N → ∀ b, b < N → a ≠ b → (T a).2.1 ≠ (T b).2.1) (hown : s.vm.findClass own = some m.cls) (hK : va_K D cl tys s) (hP : va_P D cl ws H) (hD : va_D A ws) (hS0 : va_S A H0 H locs) (q0 : Nat) {fs : List Value} (he : ws[q0]? = some (a, .inr (ci, fs))) (hc : cl[ci]? = some (C, T, N)) (k : Nat) (hk : k < N) (hlink : (Cond.fieldLink own index (T k).1 (T k).2.1 (T k).2.2.1).before args s = true) (hfin : (T k).2.2.2 = false ∨ (meth.name = "<init>" ∧ (T k).1 = own)) {ty : FieldType} {v : Value} (hd : parseFieldDescriptor (T k).2.2.1 = some ty) (hn : narrow ty v = v) (hfit : fits ty v = true) (hl : k < fs.length)
    (hdg : decode cc pc = .ok (.putfield index, 3)) (kk : ∀ (H1 : Heap) (locs1 : List Loc), va_P D cl (ws.set q0 (a, .inr (ci, fs.set k v))) H1 → va_S A H0 H1 locs1 → H1.size = H.size → W p l e R s m args below meth c H1 locs1 cells slots Q (F0 m (pc + 3) ls rest)) : W p l e R s m args below meth c H locs cells slots Q (F0 m pc ls (v :: .ref a :: rest)) := by
  have hap := va_apart (own := own) hts hin ty0 hty hnm hK hc
  obtain ⟨r, h1, cell, q1, q2, q3, q4⟩ := hP q0 _ he
  cases Option.some.inj (h1.symm.trans hc)
  obtain ⟨hS, hfc, kC, hkC, hkind⟩ := hK.1 ci _ hc
  obtain ⟨cf, kf, fi, f, hi, hsl⟩ := hS k hk
  have hlay := hts _ (hin _ (u_in_lay hk))
  unfold u_lay at hlay
  have hst := (u_facts hfc hkC (u_lays hts hin hk) hi).1
  have last : ∀ H' : Heap, H'[a]? = some (cell.setSlot (D.2 ci k) v) → H'.size = H.size → (∀ q : Nat, q ≠ a → H'[q]? = H[q]?) → W p l e R s m args below meth c H' (locs ++ [⟨a, D.2 ci k⟩]) cells slots Q (F0 m (pc + 3) ls rest) := fun H' e1 e2 e3 =>
    kk H' _ (hP.set hD he ⟨_, hc, t_OB.to (V := updV (vp_V fs) k v) ⟨_, e1, q2, q3, t_set q4 hap hk v⟩ (fun j _ => vp_updV_set hl v j)⟩ e3) (hS0.put e2 e3 (hD.2 q0 _ he)) e2
  by_cases hf2 : (T k).2.2.2 = false
  · rw [if_neg (by rw [hf2]; decide)] at hlay
    have h6 := u_store hfc hkC hkind hlay hi hd hn hfit
    refine W.putK hexec hb (f := f) ⟨hown, hlink, ⟨_, _, _, hi⟩, hst⟩ (by rw [q2]; exact h6) q1 q3 (by rw [hsl]; exact k2_hasslot (q4 k hk)) rfl rfl hdg fun H' e1 e2 e3 => ?_
    rw [hsl] at e1 ⊢
    exact last H' e1 e2 e3
  · obtain ⟨hin2, hdecl⟩ := hfin.resolve_left hf2
    rw [if_pos (by simpa using hf2)] at hlay
    have hcf : m.cls = cf := by
      obtain ⟨_, _, c', _, _, _, -, -, hf', -, -, -, hown2, -⟩ := Cond.laysFinal_spec hlay
      have e1 : c' = cf := by have := hi.symm.trans hf'; simp at this; exact this.1.symm
      rw [hdecl] at hown2
      rw [← e1]; exact Option.some.inj (hown.symm.trans hown2)
    have h6 := u_fits hfc hkC hkind (Or.inr hlay) hi hd hn hfit
    refine W.putFinK hexec hb hown hlink hi hst hcf hin2 (by rw [q2]; exact h6) q1 q3 (by rw [hsl]; exact k2_hasslot (q4 k hk)) rfl rfl hdg fun H' e1 e2 e3 => ?_
    rw [hsl] at e1 ⊢
    exact last H' e1 e2 e3
/-- stores into arrays; the heap's size stays -/
theorem giast (hexec : p.tables.exec = Jvm.exec) (hb : c.code = cc) (hK : va_K D cl tys s) (hP : va_P D cl ws H) (hD : va_D A ws) (hS : va_S A H0 H locs) (q0 t0 : Nat) {cA : ClassId} {n : Nat} {f : Nat → Int32} (ha : ws[q0]? = some (a, .inl (cA, n, .inl f))) (ht : tys[t0]? = some (cA, .int)) {i : Int32} {x : Int32} (hin : vp_in i n) (hdg : decode cc pc = .ok (.iastore, 1))
    (kk : ∀ (H1 : Heap) (locs1 : List Loc), va_P D cl (ws.set q0 (a, .inl (cA, n, .inl (upd f i.toNatClampNeg x)))) H1 → va_S A H0 H1 locs1 → H1.size = H.size → W p l e R s m args below meth c H1 locs1 cells slots Q (F0 m (pc + 1) ls rest)) : W p l e R s m args below meth c H locs cells slots Q (F0 m pc ls (.int x :: .int i :: .ref a :: rest)) := by
  refine W.iast hexec hb (hP q0 _ ha) ((hK.2 t0 _ ht).1 n (fun j => .int (f j))) (fun q => by cases q) (by show ¬ (i < 0 ∨ (arrV _ _ _).slots.size ≤ _); rw [arrV_size]; exact hin) rfl rfl hdg fun H1 e z oq => ?_
  refine kk H1 _ (hP.set hD ha ?_ oq) (hS.put z oq (hD.2 q0 _ ha)) z
  show H1[a]? = some (vp_cell _ _)
  rw [e, vp_cell_i, vp_cell_i, arrV_store]
  congr 2
  funext q
  by_cases hq : q = i.toNatClampNeg <;> simp [updV, upd, hq]
theorem gzast (hexec : p.tables.exec = Jvm.exec) (hb : c.code = cc) (hK : va_K D cl tys s) (hP : va_P D cl ws H) (hD : va_D A ws) (hS : va_S A H0 H locs) (q0 t0 : Nat) {cA : ClassId} {n : Nat} {f : Nat → Int32} (ha : ws[q0]? = some (a, .inl (cA, n, .inl f))) (ht : tys[t0]? = some (cA, .boolean)) {i : Int32} {x : Int32} (hx01 : x = 0 ∨ x = 1) (hin : vp_in i n) (hdg : decode cc pc = .ok (.bastore, 1))
    (kk : ∀ (H1 : Heap) (locs1 : List Loc), va_P D cl (ws.set q0 (a, .inl (cA, n, .inl (upd f i.toNatClampNeg x)))) H1 → va_S A H0 H1 locs1 → H1.size = H.size → W p l e R s m args below meth c H1 locs1 cells slots Q (F0 m (pc + 1) ls rest)) : W p l e R s m args below meth c H locs cells slots Q (F0 m pc ls (.int x :: .int i :: .ref a :: rest)) := by
  refine W.zast hexec hb (hP q0 _ ha) ((hK.2 t0 _ ht).1 n (fun j => .int (f j))) (fun q => by cases q) (by show ¬ (i < 0 ∨ (arrV _ _ _).slots.size ≤ _); rw [arrV_size]; exact hin) rfl rfl hdg fun H1 e z oq => ?_
  refine kk H1 _ (hP.set hD ha ?_ oq) (hS.put z oq (hD.2 q0 _ ha)) z
  show H1[a]? = some (vp_cell _ _)
  have hnx : narrow .boolean (.int x) = .int x := by rcases hx01 with rfl | rfl <;> decide +kernel
  rw [e, vp_cell_i, vp_cell_i, hnx, arrV_store]
  congr 2
  funext q
  by_cases hq : q = i.toNatClampNeg <;> simp [updV, upd, hq]
theorem gaast (hexec : p.tables.exec = Jvm.exec) (hb : c.code = cc) (hK : va_K D cl tys s) (hP : va_P D cl ws H) (hD : va_D A ws) (hS : va_S A H0 H locs) (q0 t0 qk ci : Nat) {cA : ClassId} {r : vw_C} {n v : Nat} {vs : List Value} {f : Nat → Option Nat} (ha : ws[q0]? = some (a, .inl (cA, n, .inr (.inr (.inr (.inr f)))))) (ht : tys[t0]? = some (cA, .object r.1)) (hv : ws[qk]? = some (v, .inr (ci, vs))) (hc : cl[ci]? = some r) {i : Int32} (hin : vp_in i n) (hdg : decode cc pc = .ok (.aastore, 1))
    (kk : ∀ (H1 : Heap) (locs1 : List Loc), va_P D cl (ws.set q0 (a, .inl (cA, n, .inr (.inr (.inr (.inr (va_up f i.toNatClampNeg (some v)))))))) H1 → va_S A H0 H1 locs1 → H1.size = H.size → W p l e R s m args below meth c H1 locs1 cells slots Q (F0 m (pc + 1) ls rest)) : W p l e R s m args below meth c H locs cells slots Q (F0 m pc ls (.ref v :: .int i :: .ref a :: rest)) := by
  have hlt : i.toNatClampNeg < n := Nat.not_le.mp fun q => hin (Or.inr q)
  have h0 : ¬ i < 0 := fun q => hin (Or.inl q)
  obtain ⟨r', hr', cellV, g1, g2, g3, -⟩ := hP qk _ hv
  have hcls := (hK.1 ci r hc).2
  obtain ⟨kA, comp, k1, k2, k3, -⟩ := (hK.2 t0 _ ht).2
  have hcomp : comp = D.1 ci := Option.some.inj (k3.symm.trans hcls.1)
  subst hcomp
  obtain ⟨kC, hkC, -⟩ := hcls.2
  refine W.aast hexec hb (hP q0 _ ha) (fun q h => by cases h) (fun h => by cases h) k1 k2 rfl hkC ⟨h0, by show _ < (arrV _ _ _).slots.size; rw [arrV_size]; exact hlt⟩ g1 (fun q h => by rw [g3] at h; cases h) (by rw [g2]; exact hkC) (by rw [g2]; exact va_assign hcls) rfl rfl hdg fun H1 e z oq => ?_
  refine kk H1 _ (hP.set hD ha ?_ oq) (hS.put z oq (hD.2 q0 _ ha)) z
  show H1[a]? = some (vp_cell _ _)
  rw [e, vp_cell_q, vp_cell_q, arrV_store]
  congr 2
  funext q
  by_cases hq : q = i.toNatClampNeg <;> simp [updV, va_up, va_rf, hq]
end GPU
set_option maxHeartbeats 1000000 in
theorem g_iadd {M : gT} {N : gN} {nM : Nat} (hO : gOK M N nM) : gGoal M N nM (.iadd) := by
  intro y l p e R s m args below meth c b0 b D G L H locs cells slots lsR pc d mc ms i ls st σ Q hq hy hc hC hA hpc
  obtain ⟨len, re, pl, hdg, hcor⟩ := hO.at hy hc hpc
  have hC0 := hC
  have hA0 := hA
  obtain ⟨hx, hb, hml, hown, hts, hEx, hr, hlk, hin, hK, hb0, hbs, hdf, hdl⟩ := hC
  obtain ⟨hRel, hS, hLV, hcl, hsl⟩ := hA
  simp only [gcor, Bool.and_eq_true, Bool.or_eq_true, decide_eq_true_eq, Bool.not_eq_true'] at hcor
  simp only [gstq, gi2, gl2] at hq
  obtain ⟨x, y1, r, rfl, hk⟩ := hq
  obtain ⟨⟨hnx, rfl⟩, rfl⟩ := hcor
  exact lv_iadd hx hb hdg (hk y l p e R s m args below meth c b0 b D G L H locs cells slots lsR (pc + 1) hy rfl hC0 hA0 (gpc_nx hnx))
set_option maxHeartbeats 1000000 in
theorem g_isub {M : gT} {N : gN} {nM : Nat} (hO : gOK M N nM) : gGoal M N nM (.isub) := by
  intro y l p e R s m args below meth c b0 b D G L H locs cells slots lsR pc d mc ms i ls st σ Q hq hy hc hC hA hpc
  obtain ⟨len, re, pl, hdg, hcor⟩ := hO.at hy hc hpc
  have hC0 := hC
  have hA0 := hA
  obtain ⟨hx, hb, hml, hown, hts, hEx, hr, hlk, hin, hK, hb0, hbs, hdf, hdl⟩ := hC
  obtain ⟨hRel, hS, hLV, hcl, hsl⟩ := hA
  simp only [gcor, Bool.and_eq_true, Bool.or_eq_true, decide_eq_true_eq, Bool.not_eq_true'] at hcor
  simp only [gstq, gi2, gl2] at hq
  obtain ⟨x, y1, r, rfl, hk⟩ := hq
  obtain ⟨⟨hnx, rfl⟩, rfl⟩ := hcor
  exact lv_isub hx hb hdg (hk y l p e R s m args below meth c b0 b D G L H locs cells slots lsR (pc + 1) hy rfl hC0 hA0 (gpc_nx hnx))
set_option maxHeartbeats 1000000 in
theorem g_imul {M : gT} {N : gN} {nM : Nat} (hO : gOK M N nM) : gGoal M N nM (.imul) := by
  intro y l p e R s m args below meth c b0 b D G L H locs cells slots lsR pc d mc ms i ls st σ Q hq hy hc hC hA hpc
  obtain ⟨len, re, pl, hdg, hcor⟩ := hO.at hy hc hpc
  have hC0 := hC
  have hA0 := hA
  obtain ⟨hx, hb, hml, hown, hts, hEx, hr, hlk, hin, hK, hb0, hbs, hdf, hdl⟩ := hC
  obtain ⟨hRel, hS, hLV, hcl, hsl⟩ := hA
  simp only [gcor, Bool.and_eq_true, Bool.or_eq_true, decide_eq_true_eq, Bool.not_eq_true'] at hcor
  simp only [gstq, gi2, gl2] at hq
  obtain ⟨x, y1, r, rfl, hk⟩ := hq
  obtain ⟨⟨hnx, rfl⟩, rfl⟩ := hcor
  exact lv_imul hx hb hdg (hk y l p e R s m args below meth c b0 b D G L H locs cells slots lsR (pc + 1) hy rfl hC0 hA0 (gpc_nx hnx))
set_option maxHeartbeats 1000000 in
theorem g_iand {M : gT} {N : gN} {nM : Nat} (hO : gOK M N nM) : gGoal M N nM (.iand) := by
  intro y l p e R s m args below meth c b0 b D G L H locs cells slots lsR pc d mc ms i ls st σ Q hq hy hc hC hA hpc
  obtain ⟨len, re, pl, hdg, hcor⟩ := hO.at hy hc hpc
  have hC0 := hC
  have hA0 := hA
  obtain ⟨hx, hb, hml, hown, hts, hEx, hr, hlk, hin, hK, hb0, hbs, hdf, hdl⟩ := hC
  obtain ⟨hRel, hS, hLV, hcl, hsl⟩ := hA
  simp only [gcor, Bool.and_eq_true, Bool.or_eq_true, decide_eq_true_eq, Bool.not_eq_true'] at hcor
  simp only [gstq, gi2, gl2] at hq
  obtain ⟨x, y1, r, rfl, hk⟩ := hq
  obtain ⟨⟨hnx, rfl⟩, rfl⟩ := hcor
  exact lv_iand hx hb hdg (hk y l p e R s m args below meth c b0 b D G L H locs cells slots lsR (pc + 1) hy rfl hC0 hA0 (gpc_nx hnx))
set_option maxHeartbeats 1000000 in
theorem g_ior {M : gT} {N : gN} {nM : Nat} (hO : gOK M N nM) : gGoal M N nM (.ior) := by
  intro y l p e R s m args below meth c b0 b D G L H locs cells slots lsR pc d mc ms i ls st σ Q hq hy hc hC hA hpc
  obtain ⟨len, re, pl, hdg, hcor⟩ := hO.at hy hc hpc
  have hC0 := hC
  have hA0 := hA
  obtain ⟨hx, hb, hml, hown, hts, hEx, hr, hlk, hin, hK, hb0, hbs, hdf, hdl⟩ := hC
  obtain ⟨hRel, hS, hLV, hcl, hsl⟩ := hA
  simp only [gcor, Bool.and_eq_true, Bool.or_eq_true, decide_eq_true_eq, Bool.not_eq_true'] at hcor
  simp only [gstq, gi2, gl2] at hq
  obtain ⟨x, y1, r, rfl, hk⟩ := hq
  obtain ⟨⟨hnx, rfl⟩, rfl⟩ := hcor
  exact lv_ior hx hb hdg (hk y l p e R s m args below meth c b0 b D G L H locs cells slots lsR (pc + 1) hy rfl hC0 hA0 (gpc_nx hnx))
set_option maxHeartbeats 1000000 in
theorem g_ixor {M : gT} {N : gN} {nM : Nat} (hO : gOK M N nM) : gGoal M N nM (.ixor) := by
  intro y l p e R s m args below meth c b0 b D G L H locs cells slots lsR pc d mc ms i ls st σ Q hq hy hc hC hA hpc
  obtain ⟨len, re, pl, hdg, hcor⟩ := hO.at hy hc hpc
  have hC0 := hC
  have hA0 := hA
  obtain ⟨hx, hb, hml, hown, hts, hEx, hr, hlk, hin, hK, hb0, hbs, hdf, hdl⟩ := hC
  obtain ⟨hRel, hS, hLV, hcl, hsl⟩ := hA
  simp only [gcor, Bool.and_eq_true, Bool.or_eq_true, decide_eq_true_eq, Bool.not_eq_true'] at hcor
  simp only [gstq, gi2, gl2] at hq
  obtain ⟨x, y1, r, rfl, hk⟩ := hq
  obtain ⟨⟨hnx, rfl⟩, rfl⟩ := hcor
  exact lv_ixor hx hb hdg (hk y l p e R s m args below meth c b0 b D G L H locs cells slots lsR (pc + 1) hy rfl hC0 hA0 (gpc_nx hnx))
set_option maxHeartbeats 1000000 in
theorem g_ishl {M : gT} {N : gN} {nM : Nat} (hO : gOK M N nM) : gGoal M N nM (.ishl) := by
  intro y l p e R s m args below meth c b0 b D G L H locs cells slots lsR pc d mc ms i ls st σ Q hq hy hc hC hA hpc
  obtain ⟨len, re, pl, hdg, hcor⟩ := hO.at hy hc hpc
  have hC0 := hC
  have hA0 := hA
  obtain ⟨hx, hb, hml, hown, hts, hEx, hr, hlk, hin, hK, hb0, hbs, hdf, hdl⟩ := hC
  obtain ⟨hRel, hS, hLV, hcl, hsl⟩ := hA
  simp only [gcor, Bool.and_eq_true, Bool.or_eq_true, decide_eq_true_eq, Bool.not_eq_true'] at hcor
  simp only [gstq, gi2, gl2] at hq
  obtain ⟨x, y1, r, rfl, hk⟩ := hq
  obtain ⟨⟨hnx, rfl⟩, rfl⟩ := hcor
  exact lv_ishl hx hb hdg (hk y l p e R s m args below meth c b0 b D G L H locs cells slots lsR (pc + 1) hy rfl hC0 hA0 (gpc_nx hnx))
set_option maxHeartbeats 1000000 in
theorem g_ishr {M : gT} {N : gN} {nM : Nat} (hO : gOK M N nM) : gGoal M N nM (.ishr) := by
  intro y l p e R s m args below meth c b0 b D G L H locs cells slots lsR pc d mc ms i ls st σ Q hq hy hc hC hA hpc
  obtain ⟨len, re, pl, hdg, hcor⟩ := hO.at hy hc hpc
  have hC0 := hC
  have hA0 := hA
  obtain ⟨hx, hb, hml, hown, hts, hEx, hr, hlk, hin, hK, hb0, hbs, hdf, hdl⟩ := hC
  obtain ⟨hRel, hS, hLV, hcl, hsl⟩ := hA
  simp only [gcor, Bool.and_eq_true, Bool.or_eq_true, decide_eq_true_eq, Bool.not_eq_true'] at hcor
  simp only [gstq, gi2, gl2] at hq
  obtain ⟨x, y1, r, rfl, hk⟩ := hq
  obtain ⟨⟨hnx, rfl⟩, rfl⟩ := hcor
  exact lv_ishr hx hb hdg (hk y l p e R s m args below meth c b0 b D G L H locs cells slots lsR (pc + 1) hy rfl hC0 hA0 (gpc_nx hnx))
set_option maxHeartbeats 1000000 in
theorem g_iushr {M : gT} {N : gN} {nM : Nat} (hO : gOK M N nM) : gGoal M N nM (.iushr) := by
  intro y l p e R s m args below meth c b0 b D G L H locs cells slots lsR pc d mc ms i ls st σ Q hq hy hc hC hA hpc
  obtain ⟨len, re, pl, hdg, hcor⟩ := hO.at hy hc hpc
  have hC0 := hC
  have hA0 := hA
  obtain ⟨hx, hb, hml, hown, hts, hEx, hr, hlk, hin, hK, hb0, hbs, hdf, hdl⟩ := hC
  obtain ⟨hRel, hS, hLV, hcl, hsl⟩ := hA
  simp only [gcor, Bool.and_eq_true, Bool.or_eq_true, decide_eq_true_eq, Bool.not_eq_true'] at hcor
  simp only [gstq, gi2, gl2] at hq
  obtain ⟨x, y1, r, rfl, hk⟩ := hq
  obtain ⟨⟨hnx, rfl⟩, rfl⟩ := hcor
  exact lv_iushr hx hb hdg rfl (hk y l p e R s m args below meth c b0 b D G L H locs cells slots lsR (pc + 1) hy rfl hC0 hA0 (gpc_nx hnx))
set_option maxHeartbeats 1000000 in
theorem g_ladd {M : gT} {N : gN} {nM : Nat} (hO : gOK M N nM) : gGoal M N nM (.ladd) := by
  intro y l p e R s m args below meth c b0 b D G L H locs cells slots lsR pc d mc ms i ls st σ Q hq hy hc hC hA hpc
  obtain ⟨len, re, pl, hdg, hcor⟩ := hO.at hy hc hpc
  have hC0 := hC
  have hA0 := hA
  obtain ⟨hx, hb, hml, hown, hts, hEx, hr, hlk, hin, hK, hb0, hbs, hdf, hdl⟩ := hC
  obtain ⟨hRel, hS, hLV, hcl, hsl⟩ := hA
  simp only [gcor, Bool.and_eq_true, Bool.or_eq_true, decide_eq_true_eq, Bool.not_eq_true'] at hcor
  simp only [gstq, gi2, gl2] at hq
  obtain ⟨x, y1, r, rfl, hk⟩ := hq
  obtain ⟨⟨hnx, rfl⟩, rfl⟩ := hcor
  exact lv_ladd hx hb hdg (hk y l p e R s m args below meth c b0 b D G L H locs cells slots lsR (pc + 1) hy rfl hC0 hA0 (gpc_nx hnx))
set_option maxHeartbeats 1000000 in
theorem g_lmul {M : gT} {N : gN} {nM : Nat} (hO : gOK M N nM) : gGoal M N nM (.lmul) := by
  intro y l p e R s m args below meth c b0 b D G L H locs cells slots lsR pc d mc ms i ls st σ Q hq hy hc hC hA hpc
  obtain ⟨len, re, pl, hdg, hcor⟩ := hO.at hy hc hpc
  have hC0 := hC
  have hA0 := hA
  obtain ⟨hx, hb, hml, hown, hts, hEx, hr, hlk, hin, hK, hb0, hbs, hdf, hdl⟩ := hC
  obtain ⟨hRel, hS, hLV, hcl, hsl⟩ := hA
  simp only [gcor, Bool.and_eq_true, Bool.or_eq_true, decide_eq_true_eq, Bool.not_eq_true'] at hcor
  simp only [gstq, gi2, gl2] at hq
  obtain ⟨x, y1, r, rfl, hk⟩ := hq
  obtain ⟨⟨hnx, rfl⟩, rfl⟩ := hcor
  exact lv_lmul hx hb hdg (hk y l p e R s m args below meth c b0 b D G L H locs cells slots lsR (pc + 1) hy rfl hC0 hA0 (gpc_nx hnx))
set_option maxHeartbeats 1000000 in
theorem g_land {M : gT} {N : gN} {nM : Nat} (hO : gOK M N nM) : gGoal M N nM (.land) := by
  intro y l p e R s m args below meth c b0 b D G L H locs cells slots lsR pc d mc ms i ls st σ Q hq hy hc hC hA hpc
  obtain ⟨len, re, pl, hdg, hcor⟩ := hO.at hy hc hpc
  have hC0 := hC
  have hA0 := hA
  obtain ⟨hx, hb, hml, hown, hts, hEx, hr, hlk, hin, hK, hb0, hbs, hdf, hdl⟩ := hC
  obtain ⟨hRel, hS, hLV, hcl, hsl⟩ := hA
  simp only [gcor, Bool.and_eq_true, Bool.or_eq_true, decide_eq_true_eq, Bool.not_eq_true'] at hcor
  simp only [gstq, gi2, gl2] at hq
  obtain ⟨x, y1, r, rfl, hk⟩ := hq
  obtain ⟨⟨hnx, rfl⟩, rfl⟩ := hcor
  exact lv_land hx hb hdg (hk y l p e R s m args below meth c b0 b D G L H locs cells slots lsR (pc + 1) hy rfl hC0 hA0 (gpc_nx hnx))
set_option maxHeartbeats 1000000 in
theorem g_lor {M : gT} {N : gN} {nM : Nat} (hO : gOK M N nM) : gGoal M N nM (.lor) := by
  intro y l p e R s m args below meth c b0 b D G L H locs cells slots lsR pc d mc ms i ls st σ Q hq hy hc hC hA hpc
  obtain ⟨len, re, pl, hdg, hcor⟩ := hO.at hy hc hpc
  have hC0 := hC
  have hA0 := hA
  obtain ⟨hx, hb, hml, hown, hts, hEx, hr, hlk, hin, hK, hb0, hbs, hdf, hdl⟩ := hC
  obtain ⟨hRel, hS, hLV, hcl, hsl⟩ := hA
  simp only [gcor, Bool.and_eq_true, Bool.or_eq_true, decide_eq_true_eq, Bool.not_eq_true'] at hcor
  simp only [gstq, gi2, gl2] at hq
  obtain ⟨x, y1, r, rfl, hk⟩ := hq
  obtain ⟨⟨hnx, rfl⟩, rfl⟩ := hcor
  exact lv_lor hx hb hdg (hk y l p e R s m args below meth c b0 b D G L H locs cells slots lsR (pc + 1) hy rfl hC0 hA0 (gpc_nx hnx))
set_option maxHeartbeats 1000000 in
theorem g_idiv {M : gT} {N : gN} {nM : Nat} (hO : gOK M N nM) : gGoal M N nM (.idiv) := by
  intro y l p e R s m args below meth c b0 b D G L H locs cells slots lsR pc d mc ms i ls st σ Q hq hy hc hC hA hpc
  obtain ⟨len, re, pl, hdg, hcor⟩ := hO.at hy hc hpc
  have hC0 := hC
  have hA0 := hA
  obtain ⟨hx, hb, hml, hown, hts, hEx, hr, hlk, hin, hK, hb0, hbs, hdf, hdl⟩ := hC
  obtain ⟨hRel, hS, hLV, hcl, hsl⟩ := hA
  simp only [gcor, Bool.and_eq_true, Bool.or_eq_true, decide_eq_true_eq, Bool.not_eq_true'] at hcor
  simp only [gstq, gi2, gl2] at hq
  obtain ⟨x, y1, r, rfl, hne, hk⟩ := hq
  obtain ⟨⟨hnx, rfl⟩, rfl⟩ := hcor
  exact lv_idiv hx hb hdg hne (hk y l p e R s m args below meth c b0 b D G L H locs cells slots lsR (pc + 1) hy rfl hC0 hA0 (gpc_nx hnx))
set_option maxHeartbeats 1000000 in
theorem g_irem {M : gT} {N : gN} {nM : Nat} (hO : gOK M N nM) : gGoal M N nM (.irem) := by
  intro y l p e R s m args below meth c b0 b D G L H locs cells slots lsR pc d mc ms i ls st σ Q hq hy hc hC hA hpc
  obtain ⟨len, re, pl, hdg, hcor⟩ := hO.at hy hc hpc
  have hC0 := hC
  have hA0 := hA
  obtain ⟨hx, hb, hml, hown, hts, hEx, hr, hlk, hin, hK, hb0, hbs, hdf, hdl⟩ := hC
  obtain ⟨hRel, hS, hLV, hcl, hsl⟩ := hA
  simp only [gcor, Bool.and_eq_true, Bool.or_eq_true, decide_eq_true_eq, Bool.not_eq_true'] at hcor
  simp only [gstq, gi2, gl2] at hq
  obtain ⟨x, y1, r, rfl, hne, hk⟩ := hq
  obtain ⟨⟨hnx, rfl⟩, rfl⟩ := hcor
  exact lv_irem hx hb hdg hne (hk y l p e R s m args below meth c b0 b D G L H locs cells slots lsR (pc + 1) hy rfl hC0 hA0 (gpc_nx hnx))
set_option maxHeartbeats 1000000 in
theorem g_lrem {M : gT} {N : gN} {nM : Nat} (hO : gOK M N nM) : gGoal M N nM (.lrem) := by
  intro y l p e R s m args below meth c b0 b D G L H locs cells slots lsR pc d mc ms i ls st σ Q hq hy hc hC hA hpc
  obtain ⟨len, re, pl, hdg, hcor⟩ := hO.at hy hc hpc
  have hC0 := hC
  have hA0 := hA
  obtain ⟨hx, hb, hml, hown, hts, hEx, hr, hlk, hin, hK, hb0, hbs, hdf, hdl⟩ := hC
  obtain ⟨hRel, hS, hLV, hcl, hsl⟩ := hA
  simp only [gcor, Bool.and_eq_true, Bool.or_eq_true, decide_eq_true_eq, Bool.not_eq_true'] at hcor
  simp only [gstq, gi2, gl2] at hq
  obtain ⟨x, y1, r, rfl, hne, hk⟩ := hq
  obtain ⟨⟨hnx, rfl⟩, rfl⟩ := hcor
  exact lv_lrem hx hb hdg hne (hk y l p e R s m args below meth c b0 b D G L H locs cells slots lsR (pc + 1) hy rfl hC0 hA0 (gpc_nx hnx))
set_option maxHeartbeats 1000000 in
theorem g_ineg {M : gT} {N : gN} {nM : Nat} (hO : gOK M N nM) : gGoal M N nM (.ineg) := by
  intro y l p e R s m args below meth c b0 b D G L H locs cells slots lsR pc d mc ms i ls st σ Q hq hy hc hC hA hpc
  obtain ⟨len, re, pl, hdg, hcor⟩ := hO.at hy hc hpc
  have hC0 := hC
  have hA0 := hA
  obtain ⟨hx, hb, hml, hown, hts, hEx, hr, hlk, hin, hK, hb0, hbs, hdf, hdl⟩ := hC
  obtain ⟨hRel, hS, hLV, hcl, hsl⟩ := hA
  simp only [gcor, Bool.and_eq_true, Bool.or_eq_true, decide_eq_true_eq, Bool.not_eq_true'] at hcor
  simp only [gstq, gi2, gl2] at hq
  obtain ⟨x, r, rfl, hk⟩ := hq
  obtain ⟨⟨hnx, rfl⟩, rfl⟩ := hcor
  exact lv_ineg hx hb hdg (hk y l p e R s m args below meth c b0 b D G L H locs cells slots lsR (pc + 1) hy rfl hC0 hA0 (gpc_nx hnx))
set_option maxHeartbeats 1000000 in
theorem g_lushr {M : gT} {N : gN} {nM : Nat} (hO : gOK M N nM) : gGoal M N nM (.lushr) := by
  intro y l p e R s m args below meth c b0 b D G L H locs cells slots lsR pc d mc ms i ls st σ Q hq hy hc hC hA hpc
  obtain ⟨len, re, pl, hdg, hcor⟩ := hO.at hy hc hpc
  have hC0 := hC
  have hA0 := hA
  obtain ⟨hx, hb, hml, hown, hts, hEx, hr, hlk, hin, hK, hb0, hbs, hdf, hdl⟩ := hC
  obtain ⟨hRel, hS, hLV, hcl, hsl⟩ := hA
  simp only [gcor, Bool.and_eq_true, Bool.or_eq_true, decide_eq_true_eq, Bool.not_eq_true'] at hcor
  simp only [gstq, gi2, gl2] at hq
  obtain ⟨x, y1, r, rfl, hk⟩ := hq
  obtain ⟨⟨hnx, rfl⟩, rfl⟩ := hcor
  exact lv_lushr hx hb hdg rfl (hk y l p e R s m args below meth c b0 b D G L H locs cells slots lsR (pc + 1) hy rfl hC0 hA0 (gpc_nx hnx))
set_option maxHeartbeats 1000000 in
theorem g_lshl {M : gT} {N : gN} {nM : Nat} (hO : gOK M N nM) : gGoal M N nM (.lshl) := by
  intro y l p e R s m args below meth c b0 b D G L H locs cells slots lsR pc d mc ms i ls st σ Q hq hy hc hC hA hpc
  obtain ⟨len, re, pl, hdg, hcor⟩ := hO.at hy hc hpc
  have hC0 := hC
  have hA0 := hA
  obtain ⟨hx, hb, hml, hown, hts, hEx, hr, hlk, hin, hK, hb0, hbs, hdf, hdl⟩ := hC
  obtain ⟨hRel, hS, hLV, hcl, hsl⟩ := hA
  simp only [gcor, Bool.and_eq_true, Bool.or_eq_true, decide_eq_true_eq, Bool.not_eq_true'] at hcor
  simp only [gstq, gi2, gl2] at hq
  obtain ⟨x, y1, r, rfl, hk⟩ := hq
  obtain ⟨⟨hnx, rfl⟩, rfl⟩ := hcor
  exact lv_lshl hx hb hdg rfl (hk y l p e R s m args below meth c b0 b D G L H locs cells slots lsR (pc + 1) hy rfl hC0 hA0 (gpc_nx hnx))
set_option maxHeartbeats 1000000 in
theorem g_lcmp {M : gT} {N : gN} {nM : Nat} (hO : gOK M N nM) : gGoal M N nM (.lcmp) := by
  intro y l p e R s m args below meth c b0 b D G L H locs cells slots lsR pc d mc ms i ls st σ Q hq hy hc hC hA hpc
  obtain ⟨len, re, pl, hdg, hcor⟩ := hO.at hy hc hpc
  have hC0 := hC
  have hA0 := hA
  obtain ⟨hx, hb, hml, hown, hts, hEx, hr, hlk, hin, hK, hb0, hbs, hdf, hdl⟩ := hC
  obtain ⟨hRel, hS, hLV, hcl, hsl⟩ := hA
  simp only [gcor, Bool.and_eq_true, Bool.or_eq_true, decide_eq_true_eq, Bool.not_eq_true'] at hcor
  simp only [gstq, gi2, gl2] at hq
  obtain ⟨x, y1, r, rfl, hk⟩ := hq
  obtain ⟨⟨hnx, rfl⟩, rfl⟩ := hcor
  exact W.lcmp hx hb hdg (hk y l p e R s m args below meth c b0 b D G L H locs cells slots lsR (pc + 1) hy rfl hC0 hA0 (gpc_nx hnx))
set_option maxHeartbeats 1000000 in
theorem g_i2l {M : gT} {N : gN} {nM : Nat} (hO : gOK M N nM) : gGoal M N nM (.i2l) := by
  intro y l p e R s m args below meth c b0 b D G L H locs cells slots lsR pc d mc ms i ls st σ Q hq hy hc hC hA hpc
  obtain ⟨len, re, pl, hdg, hcor⟩ := hO.at hy hc hpc
  have hC0 := hC
  have hA0 := hA
  obtain ⟨hx, hb, hml, hown, hts, hEx, hr, hlk, hin, hK, hb0, hbs, hdf, hdl⟩ := hC
  obtain ⟨hRel, hS, hLV, hcl, hsl⟩ := hA
  simp only [gcor, Bool.and_eq_true, Bool.or_eq_true, decide_eq_true_eq, Bool.not_eq_true'] at hcor
  simp only [gstq, gi2, gl2] at hq
  obtain ⟨x, r, rfl, hk⟩ := hq
  obtain ⟨⟨hnx, rfl⟩, rfl⟩ := hcor
  exact lv_i2l hx hb hdg rfl (hk y l p e R s m args below meth c b0 b D G L H locs cells slots lsR (pc + 1) hy rfl hC0 hA0 (gpc_nx hnx))
set_option maxHeartbeats 1000000 in
theorem g_l2i {M : gT} {N : gN} {nM : Nat} (hO : gOK M N nM) : gGoal M N nM (.l2i) := by
  intro y l p e R s m args below meth c b0 b D G L H locs cells slots lsR pc d mc ms i ls st σ Q hq hy hc hC hA hpc
  obtain ⟨len, re, pl, hdg, hcor⟩ := hO.at hy hc hpc
  have hC0 := hC
  have hA0 := hA
  obtain ⟨hx, hb, hml, hown, hts, hEx, hr, hlk, hin, hK, hb0, hbs, hdf, hdl⟩ := hC
  obtain ⟨hRel, hS, hLV, hcl, hsl⟩ := hA
  simp only [gcor, Bool.and_eq_true, Bool.or_eq_true, decide_eq_true_eq, Bool.not_eq_true'] at hcor
  simp only [gstq, gi2, gl2] at hq
  obtain ⟨x, r, rfl, hk⟩ := hq
  obtain ⟨⟨hnx, rfl⟩, rfl⟩ := hcor
  exact lv_l2i hx hb hdg rfl (hk y l p e R s m args below meth c b0 b D G L H locs cells slots lsR (pc + 1) hy rfl hC0 hA0 (gpc_nx hnx))
set_option maxHeartbeats 1000000 in
theorem g_dup {M : gT} {N : gN} {nM : Nat} (hO : gOK M N nM) : gGoal M N nM (.dup) := by
  intro y l p e R s m args below meth c b0 b D G L H locs cells slots lsR pc d mc ms i ls st σ Q hq hy hc hC hA hpc
  obtain ⟨len, re, pl, hdg, hcor⟩ := hO.at hy hc hpc
  have hC0 := hC
  have hA0 := hA
  obtain ⟨hx, hb, hml, hown, hts, hEx, hr, hlk, hin, hK, hb0, hbs, hdf, hdl⟩ := hC
  obtain ⟨hRel, hS, hLV, hcl, hsl⟩ := hA
  simp only [gcor, Bool.and_eq_true, Bool.or_eq_true, decide_eq_true_eq, Bool.not_eq_true'] at hcor
  simp only [gstq, gi2, gl2] at hq
  obtain ⟨v, r, rfl, hv, hk⟩ := hq
  obtain ⟨⟨hnx, rfl⟩, rfl⟩ := hcor
  exact lv_dup hx hb hdg ((gv_catE b0 b v).trans hv) (hk y l p e R s m args below meth c b0 b D G L H locs cells slots lsR (pc + 1) hy rfl hC0 hA0 (gpc_nx hnx))
set_option maxHeartbeats 1000000 in
theorem g_pop {M : gT} {N : gN} {nM : Nat} (hO : gOK M N nM) : gGoal M N nM (.pop) := by
  intro y l p e R s m args below meth c b0 b D G L H locs cells slots lsR pc d mc ms i ls st σ Q hq hy hc hC hA hpc
  obtain ⟨len, re, pl, hdg, hcor⟩ := hO.at hy hc hpc
  have hC0 := hC
  have hA0 := hA
  obtain ⟨hx, hb, hml, hown, hts, hEx, hr, hlk, hin, hK, hb0, hbs, hdf, hdl⟩ := hC
  obtain ⟨hRel, hS, hLV, hcl, hsl⟩ := hA
  simp only [gcor, Bool.and_eq_true, Bool.or_eq_true, decide_eq_true_eq, Bool.not_eq_true'] at hcor
  simp only [gstq, gi2, gl2] at hq
  obtain ⟨v, r, rfl, hv, hk⟩ := hq
  obtain ⟨⟨hnx, rfl⟩, rfl⟩ := hcor
  exact lv_pop hx hb hdg ((gv_catE b0 b v).trans hv) (hk y l p e R s m args below meth c b0 b D G L H locs cells slots lsR (pc + 1) hy rfl hC0 hA0 (gpc_nx hnx))
set_option maxHeartbeats 1000000 in
theorem g_dup2 {M : gT} {N : gN} {nM : Nat} (hO : gOK M N nM) : gGoal M N nM (.dup2) := by
  intro y l p e R s m args below meth c b0 b D G L H locs cells slots lsR pc d mc ms i ls st σ Q hq hy hc hC hA hpc
  obtain ⟨len, re, pl, hdg, hcor⟩ := hO.at hy hc hpc
  have hC0 := hC
  have hA0 := hA
  obtain ⟨hx, hb, hml, hown, hts, hEx, hr, hlk, hin, hK, hb0, hbs, hdf, hdl⟩ := hC
  obtain ⟨hRel, hS, hLV, hcl, hsl⟩ := hA
  simp only [gcor, Bool.and_eq_true, Bool.or_eq_true, decide_eq_true_eq, Bool.not_eq_true'] at hcor
  simp only [gstq, gi2, gl2] at hq
  obtain ⟨v, w, r, rfl, hv, hw, hk⟩ := hq
  obtain ⟨⟨hnx, rfl⟩, rfl⟩ := hcor
  exact lv_dup2_11 hx hb hdg ((gv_catE b0 b v).trans hv) ((gv_catE b0 b w).trans hw) (hk y l p e R s m args below meth c b0 b D G L H locs cells slots lsR (pc + 1) hy rfl hC0 hA0 (gpc_nx hnx))
set_option maxHeartbeats 1000000 in
theorem g_iconst {M : gT} {N : gN} {nM : Nat} (hO : gOK M N nM) (n : Int) : gGoal M N nM (.iconst n) := by
  intro y l p e R s m args below meth c b0 b D G L H locs cells slots lsR pc d mc ms i ls st σ Q hq hy hc hC hA hpc
  obtain ⟨len, re, pl, hdg, hcor⟩ := hO.at hy hc hpc
  have hC0 := hC
  have hA0 := hA
  obtain ⟨hx, hb, hml, hown, hts, hEx, hr, hlk, hin, hK, hb0, hbs, hdf, hdl⟩ := hC
  obtain ⟨hRel, hS, hLV, hcl, hsl⟩ := hA
  simp only [gcor, Bool.and_eq_true, Bool.or_eq_true, decide_eq_true_eq, Bool.not_eq_true'] at hcor
  simp only [gstq, gi2, gl2] at hq
  obtain ⟨hnx, hcor⟩ := hcor
  cases re <;> first | (exact absurd hcor Bool.false_ne_true) | skip
  · simp only [Bool.and_eq_true, decide_eq_true_eq] at hcor
    obtain ⟨hv, rfl⟩ := hcor
    exact lv_bipush hx hb hdg hv (hq y l p e R s m args below meth c b0 b D G L H locs cells slots lsR (pc + 2) hy rfl hC0 hA0 (gpc_nx hnx))
  · simp only [Bool.and_eq_true, decide_eq_true_eq] at hcor
    obtain ⟨hv, rfl⟩ := hcor
    exact lv_iconst hx hb hdg hv (hq y l p e R s m args below meth c b0 b D G L H locs cells slots lsR (pc + 1) hy rfl hC0 hA0 (gpc_nx hnx))
  · simp only [Bool.and_eq_true, decide_eq_true_eq] at hcor
    obtain ⟨hv, rfl⟩ := hcor
    exact lv_ldcw hx hb hown (hts _ (gw_mem hv)) hdg (hq y l p e R s m args below meth c b0 b D G L H locs cells slots lsR (pc + 3) hy rfl hC0 hA0 (gpc_nx hnx))
  · simp only [Bool.and_eq_true, decide_eq_true_eq] at hcor
    obtain ⟨hv, rfl⟩ := hcor
    exact lv_sipush hx hb hdg hv (hq y l p e R s m args below meth c b0 b D G L H locs cells slots lsR (pc + 3) hy rfl hC0 hA0 (gpc_nx hnx))
set_option maxHeartbeats 1000000 in
theorem g_ldc2 {M : gT} {N : gN} {nM : Nat} (hO : gOK M N nM) (n : Nat) : gGoal M N nM (.ldc2_w n) := by
  intro y l p e R s m args below meth c b0 b D G L H locs cells slots lsR pc d mc ms i ls st σ Q hq hy hc hC hA hpc
  obtain ⟨len, re, pl, hdg, hcor⟩ := hO.at hy hc hpc
  have hC0 := hC
  have hA0 := hA
  obtain ⟨hx, hb, hml, hown, hts, hEx, hr, hlk, hin, hK, hb0, hbs, hdf, hdl⟩ := hC
  obtain ⟨hRel, hS, hLV, hcl, hsl⟩ := hA
  simp only [gcor, Bool.and_eq_true, Bool.or_eq_true, decide_eq_true_eq, Bool.not_eq_true'] at hcor
  simp only [gstq, gi2, gl2] at hq
  obtain ⟨hnx, hcor⟩ := hcor
  cases re <;> first | (exact absurd hcor Bool.false_ne_true) | skip
  · simp only [Bool.and_eq_true, decide_eq_true_eq] at hcor
    obtain ⟨hv, rfl⟩ := hcor
    exact lv_lconst hx hb hdg hv (hq y l p e R s m args below meth c b0 b D G L H locs cells slots lsR (pc + 1) hy rfl hC0 hA0 (gpc_nx hnx))
  · simp only [Bool.and_eq_true, decide_eq_true_eq] at hcor
    obtain ⟨hv, rfl⟩ := hcor
    exact lv_ldc2 hx hb hown (hts _ (gw_mem hv)) hdg (hq y l p e R s m args below meth c b0 b D G L H locs cells slots lsR (pc + 3) hy rfl hC0 hA0 (gpc_nx hnx))
set_option maxHeartbeats 1000000 in
theorem g_iload {M : gT} {N : gN} {nM : Nat} (hO : gOK M N nM) (k : Nat) : gGoal M N nM (.iload k) := by
  intro y l p e R s m args below meth c b0 b D G L H locs cells slots lsR pc d mc ms i ls st σ Q hq hy hc hC hA hpc
  obtain ⟨len, re, pl, hdg, hcor⟩ := hO.at hy hc hpc
  have hC0 := hC
  have hA0 := hA
  obtain ⟨hx, hb, hml, hown, hts, hEx, hr, hlk, hin, hK, hb0, hbs, hdf, hdl⟩ := hC
  obtain ⟨hRel, hS, hLV, hcl, hsl⟩ := hA
  simp only [gcor, Bool.and_eq_true, Bool.or_eq_true, decide_eq_true_eq, Bool.not_eq_true'] at hcor
  simp only [gstq, gi2, gl2] at hq
  obtain ⟨x, hl, hk⟩ := hq
  have hl := hLV.2.2 k _ hl (by simp)
  obtain ⟨hnx, hcor⟩ := hcor
  cases re <;> first | (exact absurd hcor Bool.false_ne_true) | skip
  · simp only [Bool.and_eq_true, decide_eq_true_eq] at hcor
    obtain ⟨rfl, rfl⟩ := hcor
    exact lv_iload hx hb hdg hl (hk y l p e R s m args below meth c b0 b D G L H locs cells slots lsR (pc + 2) hy rfl hC0 hA0 (gpc_nx hnx))
  · simp only [Bool.and_eq_true, decide_eq_true_eq] at hcor
    obtain ⟨rfl, rfl⟩ := hcor
    exact lv_iload_n hx hb hdg rfl hl (hk y l p e R s m args below meth c b0 b D G L H locs cells slots lsR (pc + 1) hy rfl hC0 hA0 (gpc_nx hnx))
set_option maxHeartbeats 1000000 in
theorem g_lload {M : gT} {N : gN} {nM : Nat} (hO : gOK M N nM) (k : Nat) : gGoal M N nM (.lload k) := by
  intro y l p e R s m args below meth c b0 b D G L H locs cells slots lsR pc d mc ms i ls st σ Q hq hy hc hC hA hpc
  obtain ⟨len, re, pl, hdg, hcor⟩ := hO.at hy hc hpc
  have hC0 := hC
  have hA0 := hA
  obtain ⟨hx, hb, hml, hown, hts, hEx, hr, hlk, hin, hK, hb0, hbs, hdf, hdl⟩ := hC
  obtain ⟨hRel, hS, hLV, hcl, hsl⟩ := hA
  simp only [gcor, Bool.and_eq_true, Bool.or_eq_true, decide_eq_true_eq, Bool.not_eq_true'] at hcor
  simp only [gstq, gi2, gl2] at hq
  obtain ⟨x, hl, hk⟩ := hq
  have hl := hLV.2.2 k _ hl (by simp)
  obtain ⟨hnx, hcor⟩ := hcor
  cases re <;> first | (exact absurd hcor Bool.false_ne_true) | skip
  · simp only [Bool.and_eq_true, decide_eq_true_eq] at hcor
    obtain ⟨rfl, rfl⟩ := hcor
    exact lv_lload hx hb hdg hl (hk y l p e R s m args below meth c b0 b D G L H locs cells slots lsR (pc + 2) hy rfl hC0 hA0 (gpc_nx hnx))
  · simp only [Bool.and_eq_true, decide_eq_true_eq] at hcor
    obtain ⟨rfl, rfl⟩ := hcor
    exact lv_lload_n hx hb hdg rfl hl (hk y l p e R s m args below meth c b0 b D G L H locs cells slots lsR (pc + 1) hy rfl hC0 hA0 (gpc_nx hnx))
set_option maxHeartbeats 1000000 in
theorem g_aload {M : gT} {N : gN} {nM : Nat} (hO : gOK M N nM) (k : Nat) : gGoal M N nM (.aload k) := by
  intro y l p e R s m args below meth c b0 b D G L H locs cells slots lsR pc d mc ms i ls st σ Q hq hy hc hC hA hpc
  obtain ⟨len, re, pl, hdg, hcor⟩ := hO.at hy hc hpc
  have hC0 := hC
  have hA0 := hA
  obtain ⟨hx, hb, hml, hown, hts, hEx, hr, hlk, hin, hK, hb0, hbs, hdf, hdl⟩ := hC
  obtain ⟨hRel, hS, hLV, hcl, hsl⟩ := hA
  simp only [gcor, Bool.and_eq_true, Bool.or_eq_true, decide_eq_true_eq, Bool.not_eq_true'] at hcor
  simp only [gstq, gi2, gl2] at hq
  obtain ⟨x, hl, hk⟩ := hq
  have hl := hLV.2.2 k _ hl (by simp)
  have hk : ∀ pc', gpc (N y).2.2.2.1 ((i + 1 : Nat) : Int) = some ((pc' : Nat) : Int) → W p l e R s m args below meth c H locs cells slots (MQ below (gQc b0 b D G L Q) args s R.cells R.slots (gA b)) (F0 m pc' lsR (gv b0 b (.ref x) :: st.map (gv b0 b))) := fun pc' h => hk y l p e R s m args below meth c b0 b D G L H locs cells slots lsR pc' hy rfl hC0 hA0 h
  obtain ⟨hnx, hcor⟩ := hcor
  have hg : gv b0 b (.ref x) = va_rf (gm b0 b x) := rfl
  rw [hg] at hl hk
  cases re <;> first | (exact absurd hcor Bool.false_ne_true) | skip
  · simp only [Bool.and_eq_true, decide_eq_true_eq] at hcor
    obtain ⟨rfl, rfl⟩ := hcor
    cases hz : gm b0 b x with
    | none => rw [hz] at hl hk; exact lv_aloadN hx hb hdg hl (hk _ (gpc_nx hnx))
    | some a => rw [hz] at hl hk; exact lv_aload hx hb hdg hl (hk _ (gpc_nx hnx))
  · simp only [Bool.and_eq_true, decide_eq_true_eq] at hcor
    obtain ⟨rfl, rfl⟩ := hcor
    cases hz : gm b0 b x with
    | none => rw [hz] at hl hk; exact lv_aload_nN hx hb hdg rfl hl (hk _ (gpc_nx hnx))
    | some a => rw [hz] at hl hk; exact lv_aload_n hx hb hdg rfl hl (hk _ (gpc_nx hnx))
set_option maxHeartbeats 1000000 in
theorem g_istore {M : gT} {N : gN} {nM : Nat} (hO : gOK M N nM) (k : Nat) : gGoal M N nM (.istore k) := by
  intro y l p e R s m args below meth c b0 b D G L H locs cells slots lsR pc d mc ms i ls st σ Q hq hy hc hC hA hpc
  obtain ⟨len, re, pl, hdg, hcor⟩ := hO.at hy hc hpc
  have hC0 := hC
  have hA0 := hA
  obtain ⟨hx, hb, hml, hown, hts, hEx, hr, hlk, hin, hK, hb0, hbs, hdf, hdl⟩ := hC
  obtain ⟨hRel, hS, hLV, hcl, hsl⟩ := hA
  simp only [gcor, Bool.and_eq_true, Bool.or_eq_true, decide_eq_true_eq, Bool.not_eq_true'] at hcor
  simp only [gstq, gi2, gl2] at hq
  obtain ⟨x, r, rfl, hok, hlt, hk⟩ := hq
  rw [hLV.2.1] at hlt
  obtain ⟨hnx, hcor⟩ := hcor
  cases re <;> first | (exact absurd hcor Bool.false_ne_true) | skip
  · simp only [Bool.and_eq_true, decide_eq_true_eq] at hcor
    obtain ⟨rfl, rfl⟩ := hcor
    exact lv_istore hx hb hdg hLV.has hlt rfl (fun ls1 h => hk y l p e R s m args below meth c b0 b D G L H locs cells slots ls1 (pc + 2) hy rfl hC0 ⟨hRel, hS, gLV.store1 (v := .int x) hLV.2.1 hok hlt h, hcl, hsl⟩ (gpc_nx hnx))
  · simp only [Bool.and_eq_true, decide_eq_true_eq] at hcor
    obtain ⟨rfl, rfl⟩ := hcor
    exact lv_istore_n hx hb hdg rfl hLV.has hlt rfl (fun ls1 h => hk y l p e R s m args below meth c b0 b D G L H locs cells slots ls1 (pc + 1) hy rfl hC0 ⟨hRel, hS, gLV.store1 (v := .int x) hLV.2.1 hok hlt h, hcl, hsl⟩ (gpc_nx hnx))
set_option maxHeartbeats 1000000 in
theorem g_lstore {M : gT} {N : gN} {nM : Nat} (hO : gOK M N nM) (k : Nat) : gGoal M N nM (.lstore k) := by
  intro y l p e R s m args below meth c b0 b D G L H locs cells slots lsR pc d mc ms i ls st σ Q hq hy hc hC hA hpc
  obtain ⟨len, re, pl, hdg, hcor⟩ := hO.at hy hc hpc
  have hC0 := hC
  have hA0 := hA
  obtain ⟨hx, hb, hml, hown, hts, hEx, hr, hlk, hin, hK, hb0, hbs, hdf, hdl⟩ := hC
  obtain ⟨hRel, hS, hLV, hcl, hsl⟩ := hA
  simp only [gcor, Bool.and_eq_true, Bool.or_eq_true, decide_eq_true_eq, Bool.not_eq_true'] at hcor
  simp only [gstq, gi2, gl2] at hq
  obtain ⟨x, r, rfl, hok, hlt, hk⟩ := hq
  rw [hLV.2.1] at hlt
  obtain ⟨hnx, hcor⟩ := hcor
  cases re <;> first | (exact absurd hcor Bool.false_ne_true) | skip
  · simp only [Bool.and_eq_true, decide_eq_true_eq] at hcor
    obtain ⟨rfl, rfl⟩ := hcor
    exact lv_lstore hx hb hdg hLV.has hlt rfl (fun ls1 h => hk y l p e R s m args below meth c b0 b D G L H locs cells slots ls1 (pc + 2) hy rfl hC0 ⟨hRel, hS, gLV.store2 (v := .long x) hLV.2.1 hok hlt h, hcl, hsl⟩ (gpc_nx hnx))
  · simp only [Bool.and_eq_true, decide_eq_true_eq] at hcor
    obtain ⟨rfl, rfl⟩ := hcor
    exact lv_lstore_n hx hb hdg rfl hLV.has hlt rfl (fun ls1 h => hk y l p e R s m args below meth c b0 b D G L H locs cells slots ls1 (pc + 1) hy rfl hC0 ⟨hRel, hS, gLV.store2 (v := .long x) hLV.2.1 hok hlt h, hcl, hsl⟩ (gpc_nx hnx))
set_option maxHeartbeats 1000000 in
theorem g_astore {M : gT} {N : gN} {nM : Nat} (hO : gOK M N nM) (k : Nat) : gGoal M N nM (.astore k) := by
  intro y l p e R s m args below meth c b0 b D G L H locs cells slots lsR pc d mc ms i ls st σ Q hq hy hc hC hA hpc
  obtain ⟨len, re, pl, hdg, hcor⟩ := hO.at hy hc hpc
  have hC0 := hC
  have hA0 := hA
  obtain ⟨hx, hb, hml, hown, hts, hEx, hr, hlk, hin, hK, hb0, hbs, hdf, hdl⟩ := hC
  obtain ⟨hRel, hS, hLV, hcl, hsl⟩ := hA
  simp only [gcor, Bool.and_eq_true, Bool.or_eq_true, decide_eq_true_eq, Bool.not_eq_true'] at hcor
  simp only [gstq, gi2, gl2] at hq
  obtain ⟨x, r, rfl, hok, hlt, hk⟩ := hq
  rw [hLV.2.1] at hlt
  obtain ⟨hnx, hcor⟩ := hcor
  have hk : ∀ pc' ls1, gpc (N y).2.2.2.1 ((i + 1 : Nat) : Int) = some ((pc' : Nat) : Int) → lv_has ls1 (M y).2.1 ((k, va_rf (gm b0 b x)) :: (gasc b0 b ls).filter (fun q => !(q.1 == k) && !(q.1 + 1 == k && q.2.category == 2))) → W p l e R s m args below meth c H locs cells slots (MQ below (gQc b0 b D G L Q) args s R.cells R.slots (gA b)) (F0 m pc' ls1 (r.map (gv b0 b))) := fun pc' ls1 h1 h => hk y l p e R s m args below meth c b0 b D G L H locs cells slots ls1 pc' hy rfl hC0 ⟨hRel, hS, gLV.store1 (v := .ref x) hLV.2.1 hok hlt h, hcl, hsl⟩ h1
  show W p l e R s m args below meth c H locs cells slots _ (F0 m pc lsR (va_rf (gm b0 b x) :: r.map (gv b0 b)))
  cases re <;> first | (exact absurd hcor Bool.false_ne_true) | skip
  · simp only [Bool.and_eq_true, decide_eq_true_eq] at hcor
    obtain ⟨rfl, rfl⟩ := hcor
    cases hz : gm b0 b x with
    | none => rw [hz] at hk; exact lv_astoreN hx hb hdg hLV.has hlt rfl (fun ls1 h => hk _ ls1 (gpc_nx hnx) h)
    | some a => rw [hz] at hk; exact lv_astore hx hb hdg hLV.has hlt rfl (fun ls1 h => hk _ ls1 (gpc_nx hnx) h)
  · simp only [Bool.and_eq_true, decide_eq_true_eq] at hcor
    obtain ⟨rfl, rfl⟩ := hcor
    cases hz : gm b0 b x with
    | none => rw [hz] at hk; exact lv_astore_nN hx hb hdg rfl hLV.has hlt rfl (fun ls1 h => hk _ ls1 (gpc_nx hnx) h)
    | some a => rw [hz] at hk; exact lv_astore_n hx hb hdg rfl hLV.has hlt rfl (fun ls1 h => hk _ ls1 (gpc_nx hnx) h)
set_option maxHeartbeats 1000000 in
theorem g_iinc {M : gT} {N : gN} {nM : Nat} (hO : gOK M N nM) (k : Nat) (n : Int) : gGoal M N nM (.iinc k n) := by
  intro y l p e R s m args below meth c b0 b D G L H locs cells slots lsR pc d mc ms i ls st σ Q hq hy hc hC hA hpc
  obtain ⟨len, re, pl, hdg, hcor⟩ := hO.at hy hc hpc
  have hC0 := hC
  have hA0 := hA
  obtain ⟨hx, hb, hml, hown, hts, hEx, hr, hlk, hin, hK, hb0, hbs, hdf, hdl⟩ := hC
  obtain ⟨hRel, hS, hLV, hcl, hsl⟩ := hA
  simp only [gcor, Bool.and_eq_true, Bool.or_eq_true, decide_eq_true_eq, Bool.not_eq_true'] at hcor
  simp only [gstq, gi2, gl2] at hq
  obtain ⟨x, hl, hok, hk⟩ := hq
  obtain ⟨⟨hnx, rfl⟩, rfl⟩ := hcor
  have hlt : k < (M y).2.1 := by rw [← hLV.2.1]; exact (List.getElem?_eq_some_iff.mp hl).1
  obtain ⟨kk, hkk⟩ := List.getElem?_of_mem (gasc_mem (b0 := b0) (b := b) (q := (k, .int x)) |>.mpr ⟨_, hl, by simp, rfl⟩)
  exact lv_iinc hx hb hdg hLV.has hkk rfl hlt rfl (fun ls1 h => hk y l p e R s m args below meth c b0 b D G L H locs cells slots ls1 (pc + 3) hy rfl hC0 ⟨hRel, hS, gLV.store1 (v := .int (x + Int32.ofInt n)) hLV.2.1 hok hlt h, hcl, hsl⟩ (gpc_nx hnx))
set_option maxHeartbeats 1000000 in
theorem g_goto {M : gT} {N : gN} {nM : Nat} (hO : gOK M N nM) (t : Int) : gGoal M N nM (.goto t) := by
  intro y l p e R s m args below meth c b0 b D G L H locs cells slots lsR pc d mc ms i ls st σ Q hq hy hc hC hA hpc
  obtain ⟨len, re, pl, hdg, hcor⟩ := hO.at hy hc hpc
  have hC0 := hC
  have hA0 := hA
  obtain ⟨hx, hb, hml, hown, hts, hEx, hr, hlk, hin, hK, hb0, hbs, hdf, hdl⟩ := hC
  obtain ⟨hRel, hS, hLV, hcl, hsl⟩ := hA
  simp only [gcor, Bool.and_eq_true, Bool.or_eq_true, decide_eq_true_eq, Bool.not_eq_true'] at hcor
  simp only [gstq, gi2, gl2] at hq
  cases re <;> first | (exact absurd hcor Bool.false_ne_true) | skip
  simp only [Bool.and_eq_true, decide_eq_true_eq] at hcor
  obtain ⟨rfl, hp⟩ := hcor
  obtain ⟨k, hk1, hk2⟩ := gpc_nat hp
  exact lv_goto hx hb hdg hk1 (hq y l p e R s m args below meth c b0 b D G L H locs cells slots lsR k hy rfl hC0 hA0 hk2)
set_option maxHeartbeats 1000000 in
theorem g_icmp {M : gT} {N : gN} {nM : Nat} (hO : gOK M N nM) (co : ClassFile.Cond) (t : Int) : gGoal M N nM (.if_icmp co t) := by
  intro y l p e R s m args below meth c b0 b D G L H locs cells slots lsR pc d mc ms i ls st σ Q hq hy hc hC hA hpc
  obtain ⟨len, re, pl, hdg, hcor⟩ := hO.at hy hc hpc
  have hC0 := hC
  have hA0 := hA
  obtain ⟨hx, hb, hml, hown, hts, hEx, hr, hlk, hin, hK, hb0, hbs, hdf, hdl⟩ := hC
  obtain ⟨hRel, hS, hLV, hcl, hsl⟩ := hA
  simp only [gcor, Bool.and_eq_true, Bool.or_eq_true, decide_eq_true_eq, Bool.not_eq_true'] at hcor
  simp only [gstq, gi2, gl2] at hq
  obtain ⟨x, y1, r, rfl, h1, h2⟩ := hq
  obtain ⟨hnx, hcor⟩ := hcor
  cases re <;> first | (exact absurd hcor Bool.false_ne_true) | skip
  simp only [Bool.and_eq_true, decide_eq_true_eq] at hcor
  obtain ⟨⟨hco, rfl⟩, hp⟩ := hcor
  rw [hco] at hdg
  obtain ⟨k, hk1, hk2⟩ := gpc_nat hp
  cases co
  · exact lv_icmp_eq hx hb hdg hk1 (fun z => h1 z y l p e R s m args below meth c b0 b D G L H locs cells slots lsR k hy rfl hC0 hA0 hk2) (fun z => h2 z y l p e R s m args below meth c b0 b D G L H locs cells slots lsR (pc + 3) hy rfl hC0 hA0 (gpc_nx hnx))
  · exact lv_icmp_ne hx hb hdg hk1 (fun z => h1 z y l p e R s m args below meth c b0 b D G L H locs cells slots lsR k hy rfl hC0 hA0 hk2) (fun z => h2 (fun q => q z) y l p e R s m args below meth c b0 b D G L H locs cells slots lsR (pc + 3) hy rfl hC0 hA0 (gpc_nx hnx))
  · exact lv_icmp_lt hx hb hdg hk1 (fun z => h1 z y l p e R s m args below meth c b0 b D G L H locs cells slots lsR k hy rfl hC0 hA0 hk2) (fun z => h2 z y l p e R s m args below meth c b0 b D G L H locs cells slots lsR (pc + 3) hy rfl hC0 hA0 (gpc_nx hnx))
  · exact lv_icmp_ge hx hb hdg hk1 (fun z => h1 z y l p e R s m args below meth c b0 b D G L H locs cells slots lsR k hy rfl hC0 hA0 hk2) (fun z => h2 z y l p e R s m args below meth c b0 b D G L H locs cells slots lsR (pc + 3) hy rfl hC0 hA0 (gpc_nx hnx))
  · exact lv_icmp_gt hx hb hdg hk1 (fun z => h1 z y l p e R s m args below meth c b0 b D G L H locs cells slots lsR k hy rfl hC0 hA0 hk2) (fun z => h2 z y l p e R s m args below meth c b0 b D G L H locs cells slots lsR (pc + 3) hy rfl hC0 hA0 (gpc_nx hnx))
  · exact lv_icmp_le hx hb hdg hk1 (fun z => h1 z y l p e R s m args below meth c b0 b D G L H locs cells slots lsR k hy rfl hC0 hA0 hk2) (fun z => h2 z y l p e R s m args below meth c b0 b D G L H locs cells slots lsR (pc + 3) hy rfl hC0 hA0 (gpc_nx hnx))
set_option maxHeartbeats 1000000 in
theorem g_ifc {M : gT} {N : gN} {nM : Nat} (hO : gOK M N nM) (co : ClassFile.Cond) (t : Int) : gGoal M N nM (.ifCond co t) := by
  intro y l p e R s m args below meth c b0 b D G L H locs cells slots lsR pc d mc ms i ls st σ Q hq hy hc hC hA hpc
  obtain ⟨len, re, pl, hdg, hcor⟩ := hO.at hy hc hpc
  have hC0 := hC
  have hA0 := hA
  obtain ⟨hx, hb, hml, hown, hts, hEx, hr, hlk, hin, hK, hb0, hbs, hdf, hdl⟩ := hC
  obtain ⟨hRel, hS, hLV, hcl, hsl⟩ := hA
  simp only [gcor, Bool.and_eq_true, Bool.or_eq_true, decide_eq_true_eq, Bool.not_eq_true'] at hcor
  simp only [gstq, gi2, gl2] at hq
  obtain ⟨x, r, rfl, h1, h2⟩ := hq
  obtain ⟨hnx, hcor⟩ := hcor
  cases re <;> first | (exact absurd hcor Bool.false_ne_true) | skip
  simp only [Bool.and_eq_true, decide_eq_true_eq] at hcor
  obtain ⟨⟨hco, rfl⟩, hp⟩ := hcor
  rw [hco] at hdg
  obtain ⟨k, hk1, hk2⟩ := gpc_nat hp
  cases co
  · exact lv_if_eq hx hb hdg hk1 (fun z => h1 z y l p e R s m args below meth c b0 b D G L H locs cells slots lsR k hy rfl hC0 hA0 hk2) (fun z => h2 z y l p e R s m args below meth c b0 b D G L H locs cells slots lsR (pc + 3) hy rfl hC0 hA0 (gpc_nx hnx))
  · exact lv_if_ne hx hb hdg hk1 (fun z => h1 z y l p e R s m args below meth c b0 b D G L H locs cells slots lsR k hy rfl hC0 hA0 hk2) (fun z => h2 (fun q => q z) y l p e R s m args below meth c b0 b D G L H locs cells slots lsR (pc + 3) hy rfl hC0 hA0 (gpc_nx hnx))
  · exact lv_if_lt hx hb hdg hk1 (fun z => h1 z y l p e R s m args below meth c b0 b D G L H locs cells slots lsR k hy rfl hC0 hA0 hk2) (fun z => h2 z y l p e R s m args below meth c b0 b D G L H locs cells slots lsR (pc + 3) hy rfl hC0 hA0 (gpc_nx hnx))
  · exact lv_if_ge hx hb hdg hk1 (fun z => h1 z y l p e R s m args below meth c b0 b D G L H locs cells slots lsR k hy rfl hC0 hA0 hk2) (fun z => h2 z y l p e R s m args below meth c b0 b D G L H locs cells slots lsR (pc + 3) hy rfl hC0 hA0 (gpc_nx hnx))
  · exact lv_if_gt hx hb hdg hk1 (fun z => h1 z y l p e R s m args below meth c b0 b D G L H locs cells slots lsR k hy rfl hC0 hA0 hk2) (fun z => h2 z y l p e R s m args below meth c b0 b D G L H locs cells slots lsR (pc + 3) hy rfl hC0 hA0 (gpc_nx hnx))
  · exact lv_if_le hx hb hdg hk1 (fun z => h1 z y l p e R s m args below meth c b0 b D G L H locs cells slots lsR k hy rfl hC0 hA0 hk2) (fun z => h2 z y l p e R s m args below meth c b0 b D G L H locs cells slots lsR (pc + 3) hy rfl hC0 hA0 (gpc_nx hnx))
set_option maxHeartbeats 1000000 in
theorem g_getI {M : gT} {N : gN} {nM : Nat} (hO : gOK M N nM) (e1 : Nat) : gGoal M N nM (.getfield e1) := by
  intro y l p e R s m args below meth c b0 b D G L H locs cells slots lsR pc d mc ms i ls st σ Q hq hy hc hC hA hpc
  obtain ⟨len, re, pl, hdg, hcor⟩ := hO.at hy hc hpc
  have hC0 := hC
  have hA0 := hA
  obtain ⟨hx, hb, hml, hown, hts, hEx, hr, hlk, hin, hK, hb0, hbs, hdf, hdl⟩ := hC
  obtain ⟨hRel, hS, hLV, hcl, hsl⟩ := hA
  simp only [gcor, Bool.and_eq_true, Bool.or_eq_true, decide_eq_true_eq, Bool.not_eq_true'] at hcor
  simp only [gstq, gi2, gl2] at hq
  obtain ⟨a, r, rfl, hsh, hk⟩ := hq
  obtain ⟨⟨hnx, hfl⟩, hty⟩ := hcor
  simp only [gfl, Bool.and_eq_true, decide_eq_true_eq] at hfl
  obtain ⟨⟨⟨h9, hkn⟩, rfl⟩, hfl⟩ := hfl
  cases re <;> first | (exact absurd hfl Bool.false_ne_true) | skip
  have hCl := hO.2.2.1 (e1 / 64) h9
  obtain ⟨hin9, hcl9, hty9, hnm9, hinst9, hini9, -⟩ := hCl
  obtain ⟨ha2, haz⟩ := hRel.2.2.1.obj hsh (by omega)
  have hat := gws_at (b0 := b0) (b := b) (G := G) ha2 haz
  rw [gcell_obj hsh (by omega)] at hat
  have hv := gfs_get (b0 := b0) (b := b) (σ := σ) (x := e1 / 64) (a := a) hkn
  have hfv : gfv b0 b σ (gty (e1 / 64) (e1 % 64)) a (e1 % 64) = gv b0 b (.int (git σ a (e1 % 64))) := by
    rw [hty]
    rfl
  rw [hfv] at hv
  have key := hk y l p e R s m args below meth c b0 b D G L H locs cells slots lsR (pc + 3) hy rfl hC0 hA0 (gpc_nx hnx)
  show W p l e R s m args below meth c H locs cells slots _ (F0 m pc lsR (gv b0 b (.ref a) :: r.map (gv b0 b)))
  rw [gv_2 ha2]
  exact va_get (D := D) (ci := e1 / 64) (C := gRX (e1 / 64)) (T := gTT (e1 / 64)) (N := gnf (e1 / 64)) hx hb hts hin9 hown hK hRel.1 (a - 2) hat hcl9 (e1 % 64) hkn (hts _ (gw_mem hfl)) (fun _ h9 => h9) hv hdg key
set_option maxHeartbeats 1000000 in
theorem g_getL {M : gT} {N : gN} {nM : Nat} (hO : gOK M N nM) (e1 : Nat) : gGoal M N nM (.dload e1) := by
  intro y l p e R s m args below meth c b0 b D G L H locs cells slots lsR pc d mc ms i ls st σ Q hq hy hc hC hA hpc
  obtain ⟨len, re, pl, hdg, hcor⟩ := hO.at hy hc hpc
  have hC0 := hC
  have hA0 := hA
  obtain ⟨hx, hb, hml, hown, hts, hEx, hr, hlk, hin, hK, hb0, hbs, hdf, hdl⟩ := hC
  obtain ⟨hRel, hS, hLV, hcl, hsl⟩ := hA
  simp only [gcor, Bool.and_eq_true, Bool.or_eq_true, decide_eq_true_eq, Bool.not_eq_true'] at hcor
  simp only [gstq, gi2, gl2] at hq
  obtain ⟨a, r, rfl, hsh, hk⟩ := hq
  obtain ⟨⟨hnx, hfl⟩, hty⟩ := hcor
  simp only [gfl, Bool.and_eq_true, decide_eq_true_eq] at hfl
  obtain ⟨⟨⟨h9, hkn⟩, rfl⟩, hfl⟩ := hfl
  cases re <;> first | (exact absurd hfl Bool.false_ne_true) | skip
  have hCl := hO.2.2.1 (e1 / 64) h9
  obtain ⟨hin9, hcl9, hty9, hnm9, hinst9, hini9, -⟩ := hCl
  obtain ⟨ha2, haz⟩ := hRel.2.2.1.obj hsh (by omega)
  have hat := gws_at (b0 := b0) (b := b) (G := G) ha2 haz
  rw [gcell_obj hsh (by omega)] at hat
  have hv := gfs_get (b0 := b0) (b := b) (σ := σ) (x := e1 / 64) (a := a) hkn
  have hfv : gfv b0 b σ (gty (e1 / 64) (e1 % 64)) a (e1 % 64) = gv b0 b (.long (glg σ a (e1 % 64))) := by
    rw [hty]
    rfl
  rw [hfv] at hv
  have key := hk y l p e R s m args below meth c b0 b D G L H locs cells slots lsR (pc + 3) hy rfl hC0 hA0 (gpc_nx hnx)
  show W p l e R s m args below meth c H locs cells slots _ (F0 m pc lsR (gv b0 b (.ref a) :: r.map (gv b0 b)))
  rw [gv_2 ha2]
  exact va_get (D := D) (ci := e1 / 64) (C := gRX (e1 / 64)) (T := gTT (e1 / 64)) (N := gnf (e1 / 64)) hx hb hts hin9 hown hK hRel.1 (a - 2) hat hcl9 (e1 % 64) hkn (hts _ (gw_mem hfl)) (fun _ h9 => h9) hv hdg key
set_option maxHeartbeats 1000000 in
theorem g_getR {M : gT} {N : gN} {nM : Nat} (hO : gOK M N nM) (e1 : Nat) : gGoal M N nM (.getstatic e1) := by
  intro y l p e R s m args below meth c b0 b D G L H locs cells slots lsR pc d mc ms i ls st σ Q hq hy hc hC hA hpc
  obtain ⟨len, re, pl, hdg, hcor⟩ := hO.at hy hc hpc
  have hC0 := hC
  have hA0 := hA
  obtain ⟨hx, hb, hml, hown, hts, hEx, hr, hlk, hin, hK, hb0, hbs, hdf, hdl⟩ := hC
  obtain ⟨hRel, hS, hLV, hcl, hsl⟩ := hA
  simp only [gcor, Bool.and_eq_true, Bool.or_eq_true, decide_eq_true_eq, Bool.not_eq_true'] at hcor
  simp only [gstq, gi2, gl2] at hq
  obtain ⟨a, r, rfl, hsh, hk⟩ := hq
  obtain ⟨⟨hnx, hfl⟩, hty⟩ := hcor
  simp only [gfl, Bool.and_eq_true, decide_eq_true_eq] at hfl
  obtain ⟨⟨⟨h9, hkn⟩, rfl⟩, hfl⟩ := hfl
  cases re <;> first | (exact absurd hfl Bool.false_ne_true) | skip
  have hCl := hO.2.2.1 (e1 / 64) h9
  obtain ⟨hin9, hcl9, hty9, hnm9, hinst9, hini9, -⟩ := hCl
  obtain ⟨ha2, haz⟩ := hRel.2.2.1.obj hsh (by omega)
  have hat := gws_at (b0 := b0) (b := b) (G := G) ha2 haz
  rw [gcell_obj hsh (by omega)] at hat
  have hv := gfs_get (b0 := b0) (b := b) (σ := σ) (x := e1 / 64) (a := a) hkn
  have hfv : gfv b0 b σ (gty (e1 / 64) (e1 % 64)) a (e1 % 64) = gv b0 b (.ref (grf σ a (e1 % 64))) := by
    show _ = va_rf (gm b0 b (grf σ a (e1 % 64)))
    cases hq2 : gty (e1 / 64) (e1 % 64) <;> rw [hq2] at hty <;> first | rfl | (exact absurd hty Bool.false_ne_true)
  rw [hfv] at hv
  have key := hk y l p e R s m args below meth c b0 b D G L H locs cells slots lsR (pc + 3) hy rfl hC0 hA0 (gpc_nx hnx)
  show W p l e R s m args below meth c H locs cells slots _ (F0 m pc lsR (gv b0 b (.ref a) :: r.map (gv b0 b)))
  rw [gv_2 ha2]
  exact va_get (D := D) (ci := e1 / 64) (C := gRX (e1 / 64)) (T := gTT (e1 / 64)) (N := gnf (e1 / 64)) hx hb hts hin9 hown hK hRel.1 (a - 2) hat hcl9 (e1 % 64) hkn (hts _ (gw_mem hfl)) (fun _ h9 => h9) hv hdg key
set_option maxHeartbeats 1000000 in
theorem g_putI {M : gT} {N : gN} {nM : Nat} (hO : gOK M N nM) (e1 : Nat) : gGoal M N nM (.putfield e1) := by
  intro y l p e R s m args below meth c b0 b D G L H locs cells slots lsR pc d mc ms i ls st σ Q hq hy hc hC hA hpc
  obtain ⟨len, re, pl, hdg, hcor⟩ := hO.at hy hc hpc
  have hC0 := hC
  have hA0 := hA
  obtain ⟨hx, hb, hml, hown, hts, hEx, hr, hlk, hin, hK, hb0, hbs, hdf, hdl⟩ := hC
  obtain ⟨hRel, hS, hLV, hcl, hsl⟩ := hA
  simp only [gcor, Bool.and_eq_true, Bool.or_eq_true, decide_eq_true_eq, Bool.not_eq_true'] at hcor
  simp only [gstq, gi2, gl2] at hq
  obtain ⟨x, a, r, rfl, hsh, hk⟩ := hq
  obtain ⟨⟨hnx, hfl⟩, hty⟩ := hcor
  simp only [gfl, Bool.and_eq_true, Bool.or_eq_true, decide_eq_true_eq] at hfl
  obtain ⟨⟨⟨h9, hkn⟩, rfl⟩, hfl⟩ := hfl
  cases re <;> first | (exact absurd hfl Bool.false_ne_true) | skip
  simp only [Bool.and_eq_true, Bool.or_eq_true, decide_eq_true_eq] at hfl
  obtain ⟨hfl, hfin⟩ := hfl
  have hCl := hO.2.2.1 (e1 / 64) h9
  obtain ⟨hin9, hcl9, hty9, hnm9, hinst9, hini9, -⟩ := hCl
  obtain ⟨ha2, haz⟩ := hRel.2.2.1.obj hsh (by omega)
  have hat := gws_at (b0 := b0) (b := b) (G := G) ha2 haz
  rw [gcell_obj hsh (by omega)] at hat
  have hws := gws_I (b0 := b0) (b := b) (G := G) (σ := σ) (a := a) (x := e1 / 64) (k := e1 % 64) (v := x) ha2 hsh (by omega) hkn hty
  have a1 : a ≠ 1 := fun q => by rw [q] at ha2; exact absurd ha2 (by decide)
  have kk : ∀ (H1 : Heap) (locs1 : List Loc), va_P D vwCl ((gws b0 b G σ).set (a - 2) (b + (a - 2), .inr (e1 / 64, (gfs b0 b σ (e1 / 64) a).set (e1 % 64) (gv b0 b (.int x))))) H1 → va_S (gA b) s.heap H1 locs1 → H1.size = H.size → W p l e R s m args below meth c H1 locs1 cells slots (MQ below (gQc b0 b D G L Q) args s R.cells R.slots (gA b)) (F0 m (pc + 3) lsR (r.map (gv b0 b))) := by
    intro H1 locs1 hP1 hS1 hz1
    refine hk y l p e R s m args below meth c b0 b D G L H1 locs1 cells slots lsR (pc + 3) hy rfl hC0 ⟨⟨?_, by rw [hz1]; exact hRel.2.1, hRel.2.2.1, ?_⟩, hS1, hLV, hcl, hsl⟩ (gpc_nx hnx)
    · rw [hws]
      exact hP1
    · have hX := hRel.2.2.2
      have e2 : git (gsI σ a (e1 % 64) x) 1 = git σ 1 := by
        first | exact git_I (fun q => a1 q.symm) | rfl
      rw [e2]
      exact gX_kept hb0 hbs hS hS1 hX
  show W p l e R s m args below meth c H locs cells slots _ (F0 m pc lsR (gv b0 b (.int x) :: gv b0 b (.ref a) :: r.map (gv b0 b)))
  rw [gv_2 ha2]
  have hnar : narrow (gty (e1 / 64) (e1 % 64)) (.int x) = .int x := by rw [hty]; rfl
  have hfit : fits (gty (e1 / 64) (e1 % 64)) (.int x) = true := by rw [hty]; rfl
  have hd9 := hty9 (e1 % 64) hkn
  rcases hfin with hfin | ⟨hini, hdecl⟩
  · exact gput hx hb hts hin9 (gty (e1 / 64)) hty9 hnm9 hown hK hRel.1 gD hS (a - 2) hat hcl9 (e1 % 64) hkn (hts _ (gw_mem hfl)) (Or.inl hfin) hd9 hnar hfit (by rw [gfs_len]; exact hkn) hdg (fun H1 locs1 hP1 hS1 hz => kk H1 locs1 hP1 hS1 hz)
  · exact gput hx hb hts hin9 (gty (e1 / 64)) hty9 hnm9 hown hK hRel.1 gD hS (a - 2) hat hcl9 (e1 % 64) hkn (hts _ (gw_mem hfl)) (Or.inr ⟨hin hini, hdecl⟩) hd9 hnar hfit (by rw [gfs_len]; exact hkn) hdg (fun H1 locs1 hP1 hS1 hz => kk H1 locs1 hP1 hS1 hz)
set_option maxHeartbeats 1000000 in
theorem g_putL {M : gT} {N : gN} {nM : Nat} (hO : gOK M N nM) (e1 : Nat) : gGoal M N nM (.dstore e1) := by
  intro y l p e R s m args below meth c b0 b D G L H locs cells slots lsR pc d mc ms i ls st σ Q hq hy hc hC hA hpc
  obtain ⟨len, re, pl, hdg, hcor⟩ := hO.at hy hc hpc
  have hC0 := hC
  have hA0 := hA
  obtain ⟨hx, hb, hml, hown, hts, hEx, hr, hlk, hin, hK, hb0, hbs, hdf, hdl⟩ := hC
  obtain ⟨hRel, hS, hLV, hcl, hsl⟩ := hA
  simp only [gcor, Bool.and_eq_true, Bool.or_eq_true, decide_eq_true_eq, Bool.not_eq_true'] at hcor
  simp only [gstq, gi2, gl2] at hq
  obtain ⟨x, a, r, rfl, hsh, hk⟩ := hq
  obtain ⟨⟨hnx, hfl⟩, hty⟩ := hcor
  simp only [gfl, Bool.and_eq_true, Bool.or_eq_true, decide_eq_true_eq] at hfl
  obtain ⟨⟨⟨h9, hkn⟩, rfl⟩, hfl⟩ := hfl
  cases re <;> first | (exact absurd hfl Bool.false_ne_true) | skip
  simp only [Bool.and_eq_true, Bool.or_eq_true, decide_eq_true_eq] at hfl
  obtain ⟨hfl, hfin⟩ := hfl
  have hCl := hO.2.2.1 (e1 / 64) h9
  obtain ⟨hin9, hcl9, hty9, hnm9, hinst9, hini9, -⟩ := hCl
  obtain ⟨ha2, haz⟩ := hRel.2.2.1.obj hsh (by omega)
  have hat := gws_at (b0 := b0) (b := b) (G := G) ha2 haz
  rw [gcell_obj hsh (by omega)] at hat
  have hws := gws_L (b0 := b0) (b := b) (G := G) (σ := σ) (a := a) (x := e1 / 64) (k := e1 % 64) (v := x) ha2 hsh (by omega) hkn hty
  have a1 : a ≠ 1 := fun q => by rw [q] at ha2; exact absurd ha2 (by decide)
  have kk : ∀ (H1 : Heap) (locs1 : List Loc), va_P D vwCl ((gws b0 b G σ).set (a - 2) (b + (a - 2), .inr (e1 / 64, (gfs b0 b σ (e1 / 64) a).set (e1 % 64) (gv b0 b (.long x))))) H1 → va_S (gA b) s.heap H1 locs1 → H1.size = H.size → W p l e R s m args below meth c H1 locs1 cells slots (MQ below (gQc b0 b D G L Q) args s R.cells R.slots (gA b)) (F0 m (pc + 3) lsR (r.map (gv b0 b))) := by
    intro H1 locs1 hP1 hS1 hz1
    refine hk y l p e R s m args below meth c b0 b D G L H1 locs1 cells slots lsR (pc + 3) hy rfl hC0 ⟨⟨?_, by rw [hz1]; exact hRel.2.1, hRel.2.2.1, ?_⟩, hS1, hLV, hcl, hsl⟩ (gpc_nx hnx)
    · rw [hws]
      exact hP1
    · have hX := hRel.2.2.2
      have e2 : git (gsL σ a (e1 % 64) x) 1 = git σ 1 := by
        first | exact git_I (fun q => a1 q.symm) | rfl
      rw [e2]
      exact gX_kept hb0 hbs hS hS1 hX
  show W p l e R s m args below meth c H locs cells slots _ (F0 m pc lsR (gv b0 b (.long x) :: gv b0 b (.ref a) :: r.map (gv b0 b)))
  rw [gv_2 ha2]
  have hnar : narrow (gty (e1 / 64) (e1 % 64)) (.long x) = .long x := by rw [hty]; rfl
  have hfit : fits (gty (e1 / 64) (e1 % 64)) (.long x) = true := by rw [hty]; rfl
  have hd9 := hty9 (e1 % 64) hkn
  rcases hfin with hfin | ⟨hini, hdecl⟩
  · exact gput hx hb hts hin9 (gty (e1 / 64)) hty9 hnm9 hown hK hRel.1 gD hS (a - 2) hat hcl9 (e1 % 64) hkn (hts _ (gw_mem hfl)) (Or.inl hfin) hd9 hnar hfit (by rw [gfs_len]; exact hkn) hdg (fun H1 locs1 hP1 hS1 hz => kk H1 locs1 hP1 hS1 hz)
  · exact gput hx hb hts hin9 (gty (e1 / 64)) hty9 hnm9 hown hK hRel.1 gD hS (a - 2) hat hcl9 (e1 % 64) hkn (hts _ (gw_mem hfl)) (Or.inr ⟨hin hini, hdecl⟩) hd9 hnar hfit (by rw [gfs_len]; exact hkn) hdg (fun H1 locs1 hP1 hS1 hz => kk H1 locs1 hP1 hS1 hz)
set_option maxHeartbeats 1000000 in
theorem g_putR {M : gT} {N : gN} {nM : Nat} (hO : gOK M N nM) (e1 : Nat) : gGoal M N nM (.putstatic e1) := by
  intro y l p e R s m args below meth c b0 b D G L H locs cells slots lsR pc d mc ms i ls st σ Q hq hy hc hC hA hpc
  obtain ⟨len, re, pl, hdg, hcor⟩ := hO.at hy hc hpc
  have hC0 := hC
  have hA0 := hA
  obtain ⟨hx, hb, hml, hown, hts, hEx, hr, hlk, hin, hK, hb0, hbs, hdf, hdl⟩ := hC
  obtain ⟨hRel, hS, hLV, hcl, hsl⟩ := hA
  simp only [gcor, Bool.and_eq_true, Bool.or_eq_true, decide_eq_true_eq, Bool.not_eq_true'] at hcor
  simp only [gstq, gi2, gl2] at hq
  obtain ⟨x, a, r, rfl, hsh, hk⟩ := hq
  obtain ⟨⟨hnx, hfl⟩, hty⟩ := hcor
  simp only [gfl, Bool.and_eq_true, Bool.or_eq_true, decide_eq_true_eq] at hfl
  obtain ⟨⟨⟨h9, hkn⟩, rfl⟩, hfl⟩ := hfl
  cases re <;> first | (exact absurd hfl Bool.false_ne_true) | skip
  simp only [Bool.and_eq_true, Bool.or_eq_true, decide_eq_true_eq] at hfl
  obtain ⟨hfl, hfin⟩ := hfl
  have hCl := hO.2.2.1 (e1 / 64) h9
  obtain ⟨hin9, hcl9, hty9, hnm9, hinst9, hini9, -⟩ := hCl
  obtain ⟨ha2, haz⟩ := hRel.2.2.1.obj hsh (by omega)
  have hat := gws_at (b0 := b0) (b := b) (G := G) ha2 haz
  rw [gcell_obj hsh (by omega)] at hat
  have hws := gws_R (b0 := b0) (b := b) (G := G) (σ := σ) (a := a) (x := e1 / 64) (k := e1 % 64) (v := x) ha2 hsh (by omega) hkn hty
  have a1 : a ≠ 1 := fun q => by rw [q] at ha2; exact absurd ha2 (by decide)
  have kk : ∀ (H1 : Heap) (locs1 : List Loc), va_P D vwCl ((gws b0 b G σ).set (a - 2) (b + (a - 2), .inr (e1 / 64, (gfs b0 b σ (e1 / 64) a).set (e1 % 64) (gv b0 b (.ref x))))) H1 → va_S (gA b) s.heap H1 locs1 → H1.size = H.size → W p l e R s m args below meth c H1 locs1 cells slots (MQ below (gQc b0 b D G L Q) args s R.cells R.slots (gA b)) (F0 m (pc + 3) lsR (r.map (gv b0 b))) := by
    intro H1 locs1 hP1 hS1 hz1
    refine hk y l p e R s m args below meth c b0 b D G L H1 locs1 cells slots lsR (pc + 3) hy rfl hC0 ⟨⟨?_, by rw [hz1]; exact hRel.2.1, hRel.2.2.1, ?_⟩, hS1, hLV, hcl, hsl⟩ (gpc_nx hnx)
    · rw [hws]
      exact hP1
    · have hX := hRel.2.2.2
      have e2 : git (gsR σ a (e1 % 64) x) 1 = git σ 1 := by
        first | exact git_I (fun q => a1 q.symm) | rfl
      rw [e2]
      exact gX_kept hb0 hbs hS hS1 hX
  show W p l e R s m args below meth c H locs cells slots _ (F0 m pc lsR (gv b0 b (.ref x) :: gv b0 b (.ref a) :: r.map (gv b0 b)))
  rw [gv_2 ha2]
  have hnar : narrow (gty (e1 / 64) (e1 % 64)) (gv b0 b (.ref x)) = gv b0 b (.ref x) := by
    cases hq2 : gty (e1 / 64) (e1 % 64) <;> rw [hq2] at hty <;> first | (exact absurd hty Bool.false_ne_true) | (show narrow _ (va_rf (gm b0 b x)) = va_rf (gm b0 b x); cases gm b0 b x <;> rfl)
  have hfit : fits (gty (e1 / 64) (e1 % 64)) (gv b0 b (.ref x)) = true := by
    cases hq2 : gty (e1 / 64) (e1 % 64) <;> rw [hq2] at hty <;> first | (exact absurd hty Bool.false_ne_true) | (show fits _ (va_rf (gm b0 b x)) = true; cases gm b0 b x <;> rfl)
  have hd9 := hty9 (e1 % 64) hkn
  rcases hfin with hfin | ⟨hini, hdecl⟩
  · exact gput hx hb hts hin9 (gty (e1 / 64)) hty9 hnm9 hown hK hRel.1 gD hS (a - 2) hat hcl9 (e1 % 64) hkn (hts _ (gw_mem hfl)) (Or.inl hfin) hd9 hnar hfit (by rw [gfs_len]; exact hkn) hdg (fun H1 locs1 hP1 hS1 hz => kk H1 locs1 hP1 hS1 hz)
  · exact gput hx hb hts hin9 (gty (e1 / 64)) hty9 hnm9 hown hK hRel.1 gD hS (a - 2) hat hcl9 (e1 % 64) hkn (hts _ (gw_mem hfl)) (Or.inr ⟨hin hini, hdecl⟩) hd9 hnar hfit (by rw [gfs_len]; exact hkn) hdg (fun H1 locs1 hP1 hS1 hz => kk H1 locs1 hP1 hS1 hz)
set_option maxHeartbeats 1000000 in
theorem g_iaload {M : gT} {N : gN} {nM : Nat} (hO : gOK M N nM) : gGoal M N nM (.iaload) := by
  intro y l p e R s m args below meth c b0 b D G L H locs cells slots lsR pc d mc ms i ls st σ Q hq hy hc hC hA hpc
  obtain ⟨len, re, pl, hdg, hcor⟩ := hO.at hy hc hpc
  have hC0 := hC
  have hA0 := hA
  obtain ⟨hx, hb, hml, hown, hts, hEx, hr, hlk, hin, hK, hb0, hbs, hdf, hdl⟩ := hC
  obtain ⟨hRel, hS, hLV, hcl, hsl⟩ := hA
  simp only [gcor, Bool.and_eq_true, Bool.or_eq_true, decide_eq_true_eq, Bool.not_eq_true'] at hcor
  simp only [gstq, gi2, gl2] at hq
  obtain ⟨j, a, r, n, rfl, hsh, hvi, hk⟩ := hq
  obtain ⟨⟨hnx, rfl⟩, rfl⟩ := hcor
  obtain ⟨hne0, haz⟩ := hRel.2.2.1.lo hsh (by omega)
  have key := hk y l p e R s m args below meth c b0 b D G L H locs cells slots lsR (pc + 1) hy rfl hC0 hA0 (gpc_nx hnx)
  by_cases ha1 : a = 1
  · subst ha1
    obtain ⟨scr, x1, x2, x3, x4, x5⟩ := hRel.2.2.2
    have hn : n = L := by
      have := hRel.2.2.1.2
      omega
    subst hn
    have hlt : j.toNatClampNeg < n := Nat.not_le.mp fun q => hvi (Or.inr q)
    exact W.iald hx hb x1 x2 x3 (by rw [x4]; exact hvi) (x5 _ hlt) rfl rfl hdg key
  · have ha2 : 2 ≤ a := g2le hne0 ha1
    have hat := gws_at (b0 := b0) (b := b) (G := G) ha2 haz
    rw [gcell_arr (k := 0) (n := n) hsh (by omega)] at hat
    show W p l e R s m args below meth c H locs cells slots _ (F0 m pc lsR (.int j :: gv b0 b (.ref a) :: r.map (gv b0 b)))
    rw [gv_2 ha2]
    exact va_iald hx hb hK hRel.1 (a - 2) 0 hat rfl hvi hdg key
set_option maxHeartbeats 1000000 in
theorem g_baload {M : gT} {N : gN} {nM : Nat} (hO : gOK M N nM) : gGoal M N nM (.baload) := by
  intro y l p e R s m args below meth c b0 b D G L H locs cells slots lsR pc d mc ms i ls st σ Q hq hy hc hC hA hpc
  obtain ⟨len, re, pl, hdg, hcor⟩ := hO.at hy hc hpc
  have hC0 := hC
  have hA0 := hA
  obtain ⟨hx, hb, hml, hown, hts, hEx, hr, hlk, hin, hK, hb0, hbs, hdf, hdl⟩ := hC
  obtain ⟨hRel, hS, hLV, hcl, hsl⟩ := hA
  simp only [gcor, Bool.and_eq_true, Bool.or_eq_true, decide_eq_true_eq, Bool.not_eq_true'] at hcor
  simp only [gstq, gi2, gl2] at hq
  obtain ⟨j, a, r, n, rfl, hsh, hvi, hk⟩ := hq
  obtain ⟨⟨hnx, rfl⟩, rfl⟩ := hcor
  obtain ⟨hne0, haz⟩ := hRel.2.2.1.lo hsh (by omega)
  have key := hk y l p e R s m args below meth c b0 b D G L H locs cells slots lsR (pc + 1) hy rfl hC0 hA0 (gpc_nx hnx)
  have ha2 : 2 ≤ a := g2le hne0 (gnle (k := 1) hRel.2.2.1 (by decide) hsh)
  have hat := gws_at (b0 := b0) (b := b) (G := G) ha2 haz
  rw [gcell_arr (k := 1) (n := n) hsh (by omega)] at hat
  show W p l e R s m args below meth c H locs cells slots _ (F0 m pc lsR (.int j :: gv b0 b (.ref a) :: r.map (gv b0 b)))
  rw [gv_2 ha2]
  exact va_zald hx hb hK hRel.1 (a - 2) 1 hat rfl hvi hdg key
set_option maxHeartbeats 1000000 in
theorem g_aaload {M : gT} {N : gN} {nM : Nat} (hO : gOK M N nM) : gGoal M N nM (.aaload) := by
  intro y l p e R s m args below meth c b0 b D G L H locs cells slots lsR pc d mc ms i ls st σ Q hq hy hc hC hA hpc
  obtain ⟨len, re, pl, hdg, hcor⟩ := hO.at hy hc hpc
  have hC0 := hC
  have hA0 := hA
  obtain ⟨hx, hb, hml, hown, hts, hEx, hr, hlk, hin, hK, hb0, hbs, hdf, hdl⟩ := hC
  obtain ⟨hRel, hS, hLV, hcl, hsl⟩ := hA
  simp only [gcor, Bool.and_eq_true, Bool.or_eq_true, decide_eq_true_eq, Bool.not_eq_true'] at hcor
  simp only [gstq, gi2, gl2] at hq
  obtain ⟨j, a, r, n, rfl, hsh, hvi, hk⟩ := hq
  obtain ⟨⟨hnx, rfl⟩, rfl⟩ := hcor
  obtain ⟨hne0, haz⟩ := hRel.2.2.1.lo hsh (by omega)
  have key := hk y l p e R s m args below meth c b0 b D G L H locs cells slots lsR (pc + 1) hy rfl hC0 hA0 (gpc_nx hnx)
  have ha2 : 2 ≤ a := g2le hne0 (gnle (k := 2) hRel.2.2.1 (by decide) hsh)
  have hat := gws_at (b0 := b0) (b := b) (G := G) ha2 haz
  rw [gcell_arr (k := 2) (n := n) hsh (by omega)] at hat
  show W p l e R s m args below meth c H locs cells slots _ (F0 m pc lsR (.int j :: gv b0 b (.ref a) :: r.map (gv b0 b)))
  rw [gv_2 ha2]
  exact va_aldq hx hb hK hRel.1 (a - 2) 2 hat rfl hvi hdg key
set_option maxHeartbeats 1000000 in
theorem g_iastore {M : gT} {N : gN} {nM : Nat} (hO : gOK M N nM) : gGoal M N nM (.iastore) := by
  intro y l p e R s m args below meth c b0 b D G L H locs cells slots lsR pc d mc ms i ls st σ Q hq hy hc hC hA hpc
  obtain ⟨len, re, pl, hdg, hcor⟩ := hO.at hy hc hpc
  have hC0 := hC
  have hA0 := hA
  obtain ⟨hx, hb, hml, hown, hts, hEx, hr, hlk, hin, hK, hb0, hbs, hdf, hdl⟩ := hC
  obtain ⟨hRel, hS, hLV, hcl, hsl⟩ := hA
  simp only [gcor, Bool.and_eq_true, Bool.or_eq_true, decide_eq_true_eq, Bool.not_eq_true'] at hcor
  simp only [gstq, gi2, gl2] at hq
  obtain ⟨x, j, a, r, n, rfl, hsh, hne1, hvi, hk⟩ := hq
  obtain ⟨⟨hnx, rfl⟩, rfl⟩ := hcor
  obtain ⟨hne0, haz⟩ := hRel.2.2.1.lo hsh (by omega)
  have a1 : a ≠ 1 := hne1
  have ha2 : 2 ≤ a := g2le hne0 a1
  have hat := gws_at (b0 := b0) (b := b) (G := G) ha2 haz
  rw [gcell_arr (k := 0) (n := n) hsh (by omega)] at hat
  have hws := gws_A0 (b0 := b0) (b := b) (G := G) (σ := σ) (a := a) (n := n) (j := j.toNatClampNeg) (v := x) ha2 hsh
  show W p l e R s m args below meth c H locs cells slots _ (F0 m pc lsR (gv b0 b (.int x) :: .int j :: gv b0 b (.ref a) :: r.map (gv b0 b)))
  rw [gv_2 ha2]
  refine giast hx hb hK hRel.1 gD hS (a - 2) 0 hat rfl hvi hdg (fun H1 locs1 hP1 hS1 hz1 => ?_)
  refine hk y l p e R s m args below meth c b0 b D G L H1 locs1 cells slots lsR (pc + 1) hy rfl hC0 ⟨⟨?_, by rw [hz1]; exact hRel.2.1, hRel.2.2.1, ?_⟩, hS1, hLV, hcl, hsl⟩ (gpc_nx hnx)
  · rw [hws]
    exact hP1
  · have hX := hRel.2.2.2
    have e2 : git (gsI σ a j.toNatClampNeg x) 1 = git σ 1 := by
      first | exact git_I (fun q => a1 q.symm) | rfl
    rw [e2]
    exact gX_kept hb0 hbs hS hS1 hX
set_option maxHeartbeats 1000000 in
theorem g_bastore {M : gT} {N : gN} {nM : Nat} (hO : gOK M N nM) : gGoal M N nM (.bastore) := by
  intro y l p e R s m args below meth c b0 b D G L H locs cells slots lsR pc d mc ms i ls st σ Q hq hy hc hC hA hpc
  obtain ⟨len, re, pl, hdg, hcor⟩ := hO.at hy hc hpc
  have hC0 := hC
  have hA0 := hA
  obtain ⟨hx, hb, hml, hown, hts, hEx, hr, hlk, hin, hK, hb0, hbs, hdf, hdl⟩ := hC
  obtain ⟨hRel, hS, hLV, hcl, hsl⟩ := hA
  simp only [gcor, Bool.and_eq_true, Bool.or_eq_true, decide_eq_true_eq, Bool.not_eq_true'] at hcor
  simp only [gstq, gi2, gl2] at hq
  obtain ⟨x, j, a, r, n, rfl, hsh, hx01, hvi, hk⟩ := hq
  obtain ⟨⟨hnx, rfl⟩, rfl⟩ := hcor
  obtain ⟨hne0, haz⟩ := hRel.2.2.1.lo hsh (by omega)
  have a1 : a ≠ 1 := gnle (k := 1) hRel.2.2.1 (by decide) hsh
  have ha2 : 2 ≤ a := g2le hne0 a1
  have hat := gws_at (b0 := b0) (b := b) (G := G) ha2 haz
  rw [gcell_arr (k := 1) (n := n) hsh (by omega)] at hat
  have hws := gws_A1 (b0 := b0) (b := b) (G := G) (σ := σ) (a := a) (n := n) (j := j.toNatClampNeg) (v := x) ha2 hsh
  show W p l e R s m args below meth c H locs cells slots _ (F0 m pc lsR (gv b0 b (.int x) :: .int j :: gv b0 b (.ref a) :: r.map (gv b0 b)))
  rw [gv_2 ha2]
  refine gzast hx hb hK hRel.1 gD hS (a - 2) 1 hat rfl hx01 hvi hdg (fun H1 locs1 hP1 hS1 hz1 => ?_)
  refine hk y l p e R s m args below meth c b0 b D G L H1 locs1 cells slots lsR (pc + 1) hy rfl hC0 ⟨⟨?_, by rw [hz1]; exact hRel.2.1, hRel.2.2.1, ?_⟩, hS1, hLV, hcl, hsl⟩ (gpc_nx hnx)
  · rw [hws]
    exact hP1
  · have hX := hRel.2.2.2
    have e2 : git (gsI σ a j.toNatClampNeg x) 1 = git σ 1 := by
      first | exact git_I (fun q => a1 q.symm) | rfl
    rw [e2]
    exact gX_kept hb0 hbs hS hS1 hX
set_option maxHeartbeats 1000000 in
theorem g_aastore {M : gT} {N : gN} {nM : Nat} (hO : gOK M N nM) : gGoal M N nM (.aastore) := by
  intro y l p e R s m args below meth c b0 b D G L H locs cells slots lsR pc d mc ms i ls st σ Q hq hy hc hC hA hpc
  obtain ⟨len, re, pl, hdg, hcor⟩ := hO.at hy hc hpc
  have hC0 := hC
  have hA0 := hA
  obtain ⟨hx, hb, hml, hown, hts, hEx, hr, hlk, hin, hK, hb0, hbs, hdf, hdl⟩ := hC
  obtain ⟨hRel, hS, hLV, hcl, hsl⟩ := hA
  simp only [gcor, Bool.and_eq_true, Bool.or_eq_true, decide_eq_true_eq, Bool.not_eq_true'] at hcor
  simp only [gstq, gi2, gl2] at hq
  obtain ⟨x, j, a, r, n, rfl, hsh, hshx, hvi, hk⟩ := hq
  obtain ⟨⟨hnx, rfl⟩, rfl⟩ := hcor
  obtain ⟨hne0, haz⟩ := hRel.2.2.1.lo hsh (by omega)
  have a1 : a ≠ 1 := gnle (k := 2) hRel.2.2.1 (by decide) hsh
  have ha2 : 2 ≤ a := g2le hne0 a1
  have hat := gws_at (b0 := b0) (b := b) (G := G) ha2 haz
  rw [gcell_arr (k := 2) (n := n) hsh (by omega)] at hat
  have hws := gws_A2 (b0 := b0) (b := b) (G := G) (σ := σ) (a := a) (n := n) (j := j.toNatClampNeg) (v := x) ha2 hsh
  show W p l e R s m args below meth c H locs cells slots _ (F0 m pc lsR (gv b0 b (.ref x) :: .int j :: gv b0 b (.ref a) :: r.map (gv b0 b)))
  rw [gv_2 ha2]
  obtain ⟨hx2, hxz⟩ := hRel.2.2.1.obj hshx (by omega)
  have hatx := gws_at (b0 := b0) (b := b) (G := G) hx2 hxz
  rw [gcell_obj hshx (by omega)] at hatx
  rw [gm_2 hx2] at hws
  rw [gv_2 hx2]
  refine gaast hx hb hK hRel.1 gD hS (a - 2) 2 (x - 2) 4 (r := (RX4, TX4, 8)) hat rfl hatx rfl hvi hdg (fun H1 locs1 hP1 hS1 hz1 => ?_)
  refine hk y l p e R s m args below meth c b0 b D G L H1 locs1 cells slots lsR (pc + 1) hy rfl hC0 ⟨⟨?_, by rw [hz1]; exact hRel.2.1, hRel.2.2.1, ?_⟩, hS1, hLV, hcl, hsl⟩ (gpc_nx hnx)
  · rw [hws]
    exact hP1
  · have hX := hRel.2.2.2
    have e2 : git (gsR σ a j.toNatClampNeg x) 1 = git σ 1 := by
      first | exact git_I (fun q => a1 q.symm) | rfl
    rw [e2]
    exact gX_kept hb0 hbs hS hS1 hX
set_option maxHeartbeats 1000000 in
theorem g_alen {M : gT} {N : gN} {nM : Nat} (hO : gOK M N nM) : gGoal M N nM (.arraylength) := by
  intro y l p e R s m args below meth c b0 b D G L H locs cells slots lsR pc d mc ms i ls st σ Q hq hy hc hC hA hpc
  obtain ⟨len, re, pl, hdg, hcor⟩ := hO.at hy hc hpc
  have hC0 := hC
  have hA0 := hA
  obtain ⟨hx, hb, hml, hown, hts, hEx, hr, hlk, hin, hK, hb0, hbs, hdf, hdl⟩ := hC
  obtain ⟨hRel, hS, hLV, hcl, hsl⟩ := hA
  simp only [gcor, Bool.and_eq_true, Bool.or_eq_true, decide_eq_true_eq, Bool.not_eq_true'] at hcor
  simp only [gstq, gi2, gl2] at hq
  obtain ⟨a, r, n, k, rfl, hsh, hk3, hk⟩ := hq
  obtain ⟨⟨hnx, rfl⟩, rfl⟩ := hcor
  obtain ⟨hne0, haz⟩ := hRel.2.2.1.lo hsh (by omega)
  have key := hk y l p e R s m args below meth c b0 b D G L H locs cells slots lsR (pc + 1) hy rfl hC0 hA0 (gpc_nx hnx)
  by_cases ha1 : a = 1
  · subst ha1
    obtain ⟨scr, x1, x2, x3, x4, x5⟩ := hRel.2.2.2
    have hn : n = L := by
      have := hRel.2.2.1.2
      omega
    subst hn
    exact W.alen hx hb x1 x2 (by rw [x4]) rfl rfl hdg key
  · have ha2 : 2 ≤ a := g2le hne0 ha1
    have hat := gws_at (b0 := b0) (b := b) (G := G) ha2 haz
    rw [gcell_arr (k := k) (n := n) hsh hk3] at hat
    show W p l e R s m args below meth c H locs cells slots _ (F0 m pc lsR (gv b0 b (.ref a) :: r.map (gv b0 b)))
    rw [gv_2 ha2]
    match k, hk3, hat with
    | 0, _, hat => exact va_alen hx hb hK hRel.1 (a - 2) 0 hat rfl rfl hdg key
    | 1, _, hat => exact va_alen hx hb hK hRel.1 (a - 2) 1 hat rfl rfl hdg key
    | 2, _, hat => exact va_alen hx hb hK hRel.1 (a - 2) 2 hat rfl rfl hdg key
set_option maxHeartbeats 1000000 in
theorem g_iret {M : gT} {N : gN} {nM : Nat} (hO : gOK M N nM) : gGoal M N nM (.ireturn) := by
  intro y l p e R s m args below meth c b0 b D G L H locs cells slots lsR pc d mc ms i ls st σ Q hq hy hc hC hA hpc
  obtain ⟨len, re, pl, hdg, hcor⟩ := hO.at hy hc hpc
  have hC0 := hC
  have hA0 := hA
  obtain ⟨hx, hb, hml, hown, hts, hEx, hr, hlk, hin, hK, hb0, hbs, hdf, hdl⟩ := hC
  obtain ⟨hRel, hS, hLV, hcl, hsl⟩ := hA
  simp only [gcor, Bool.and_eq_true, Bool.or_eq_true, decide_eq_true_eq, Bool.not_eq_true'] at hcor
  simp only [gstq, gi2, gl2] at hq
  obtain ⟨x, rfl, hQ⟩ := hq
  obtain ⟨⟨rfl, rfl⟩, hret⟩ := hcor
  rw [hret] at hr
  refine W.widen (k := R.cells) (n := R.slots) (by omega) (by omega) ?_
  exact W.iret (v := x) hx hb hr (fun t ht hW => ⟨some (.int x), σ, hQ, rfl, by rw [ht]; exact hRel.moved hW.alike, hS.F ht⟩) hS.2.2 hdg hlk
set_option maxHeartbeats 1000000 in
theorem g_zret {M : gT} {N : gN} {nM : Nat} (hO : gOK M N nM) : gGoal M N nM (.freturn) := by
  intro y l p e R s m args below meth c b0 b D G L H locs cells slots lsR pc d mc ms i ls st σ Q hq hy hc hC hA hpc
  obtain ⟨len, re, pl, hdg, hcor⟩ := hO.at hy hc hpc
  have hC0 := hC
  have hA0 := hA
  obtain ⟨hx, hb, hml, hown, hts, hEx, hr, hlk, hin, hK, hb0, hbs, hdf, hdl⟩ := hC
  obtain ⟨hRel, hS, hLV, hcl, hsl⟩ := hA
  simp only [gcor, Bool.and_eq_true, Bool.or_eq_true, decide_eq_true_eq, Bool.not_eq_true'] at hcor
  simp only [gstq, gi2, gl2] at hq
  obtain ⟨x, rfl, h01, hQ⟩ := hq
  obtain ⟨⟨rfl, rfl⟩, hret⟩ := hcor
  rw [hret] at hr
  refine W.widen (k := R.cells) (n := R.slots) (by omega) (by omega) ?_
  exact W.zret (v := x) hx hb hr (by rcases h01 with rfl | rfl <;> decide +kernel) (fun t ht hW => ⟨some (.int x), σ, hQ, rfl, by rw [ht]; exact hRel.moved hW.alike, hS.F ht⟩) hS.2.2 hdg hlk
set_option maxHeartbeats 1000000 in
theorem g_lret {M : gT} {N : gN} {nM : Nat} (hO : gOK M N nM) : gGoal M N nM (.lreturn) := by
  intro y l p e R s m args below meth c b0 b D G L H locs cells slots lsR pc d mc ms i ls st σ Q hq hy hc hC hA hpc
  obtain ⟨len, re, pl, hdg, hcor⟩ := hO.at hy hc hpc
  have hC0 := hC
  have hA0 := hA
  obtain ⟨hx, hb, hml, hown, hts, hEx, hr, hlk, hin, hK, hb0, hbs, hdf, hdl⟩ := hC
  obtain ⟨hRel, hS, hLV, hcl, hsl⟩ := hA
  simp only [gcor, Bool.and_eq_true, Bool.or_eq_true, decide_eq_true_eq, Bool.not_eq_true'] at hcor
  simp only [gstq, gi2, gl2] at hq
  obtain ⟨x, rfl, hQ⟩ := hq
  obtain ⟨⟨rfl, rfl⟩, hret⟩ := hcor
  rw [hret] at hr
  refine W.widen (k := R.cells) (n := R.slots) (by omega) (by omega) ?_
  exact W.lret (v := x) hx hb hr (fun t ht hW => ⟨some (.long x), σ, hQ, rfl, by rw [ht]; exact hRel.moved hW.alike, hS.F ht⟩) hS.2.2 hdg hlk
set_option maxHeartbeats 1000000 in
theorem g_vret {M : gT} {N : gN} {nM : Nat} (hO : gOK M N nM) : gGoal M N nM (.return_) := by
  intro y l p e R s m args below meth c b0 b D G L H locs cells slots lsR pc d mc ms i ls st σ Q hq hy hc hC hA hpc
  obtain ⟨len, re, pl, hdg, hcor⟩ := hO.at hy hc hpc
  have hC0 := hC
  have hA0 := hA
  obtain ⟨hx, hb, hml, hown, hts, hEx, hr, hlk, hin, hK, hb0, hbs, hdf, hdl⟩ := hC
  obtain ⟨hRel, hS, hLV, hcl, hsl⟩ := hA
  simp only [gcor, Bool.and_eq_true, Bool.or_eq_true, decide_eq_true_eq, Bool.not_eq_true'] at hcor
  simp only [gstq, gi2, gl2] at hq
  obtain ⟨rfl, hQ⟩ := hq
  obtain ⟨⟨rfl, rfl⟩, hret⟩ := hcor
  rw [hret] at hr
  refine W.widen (k := R.cells) (n := R.slots) (by omega) (by omega) ?_
  exact W.vret hx hb hr (fun t ht hW => ⟨none, σ, hQ, rfl, by rw [ht]; exact hRel.moved hW.alike, hS.F ht⟩) hS.2.2 hdg hlk
