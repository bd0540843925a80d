/-! THE CALLS' STEPS; all steps; what a run of the abstract machine says of the machine -/
set_option maxHeartbeats 1000000 in
theorem g_invs {M : gT} {N : gN} {nM : Nat} (hO : gOK M N nM) (y2 : Nat) : gGoal M N nM (.invokestatic y2) := by
  intro y l p e R s m args below meth c b0 b D G L H locs cells slots lsR pc d mc ms i ls st σ Q hq hy hc hC hA hpc
  obtain ⟨len, re, pl, hdg, hcor⟩ := hO.at hy hc hpc
  have hC0 := hC
  have hA0 := hA
  obtain ⟨hx, hb, hml, hown, hts, hEx, hr, hlk, hin, hK, hb0, hbs, hdf, hdl⟩ := hC
  obtain ⟨hRel, hS, hLV, hcl, hsl⟩ := hA
  simp only [gcor, Bool.and_eq_true, Bool.or_eq_true, decide_eq_true_eq, Bool.not_eq_true'] at hcor
  simp only [gstq, gi2, gl2] at hq
  obtain ⟨as, r, rfl, ⟨hlen, hzz⟩, hcat, hmc, hms, d', Q1, rfl, hKc, hkk⟩ := hq
  obtain ⟨⟨⟨⟨⟨hnx, rfl⟩, hy0⟩, hy2⟩, hst⟩, hcor⟩ := hcor
  cases re <;> first | (exact absurd hcor Bool.false_ne_true) | skip
  rename_i kx
  have hcor : gml (N y).1.cls kx (N y2).1 pl = true := hcor
  obtain ⟨f1, f2, f3, f4, f5, f6, -⟩ := ghd_facts hO hy0 hy2
  obtain ⟨f6, f8⟩ := f6 hst
  have cont : ∀ (r1 : Option Value) (σ' : gS) (H1 : Heap) (locs1 : List Loc), Q1 r1 σ' → gRel b0 b D G L σ' s H1 → va_S (gA b) s.heap H1 locs1 → W p l e R s m args below meth c H1 locs1 (cells + (M y2).2.2.2.2.1) (slots + (M y2).2.2.2.2.2) (MQ below (gQc b0 b D G L Q) args s R.cells R.slots (gA b)) (F0 m (pc + 3) lsR ((r1.map (gv b0 b)).toList ++ r.map (gv b0 b))) := by
    intro r1 σ' H1 locs1 hq1 hrel1 hS1
    have key := hkk r1 σ' hq1 y l p e R s m args below meth c b0 b D G L H1 locs1 (cells + (M y2).2.2.2.2.1) (slots + (M y2).2.2.2.2.2) lsR (pc + 3) hy rfl hC0 ⟨hrel1, hS1, hLV, by omega, by omega⟩ (gpc_nx hnx)
    have e3 : (r1.toList ++ r).map (gv b0 b) = (r1.map (gv b0 b)).toList ++ r.map (gv b0 b) := by
      cases r1 <;> rfl
    rw [e3] at key
    exact key
  have hroom : (grm d' (M y2).2.2.2.2.1 (M y2).2.2.2.2.2).frames + 1 ≤ R.frames ∧ 8 + ((M y2).2.1 + 11) + (grm d' (M y2).2.2.2.2.1 (M y2).2.2.2.2.2).locals ≤ R.locals := by
    show d' + 1 ≤ R.frames ∧ 8 + ((M y2).2.1 + 11) + 64 * d' ≤ R.locals
    omega
  have hcat2 : ((r.map (gv b0 b)).map fun v => v.category).sum ≤ 8 := by
    have hc2 : ((r.map (gv b0 b)).map fun v => v.category).sum = gcat r := by
      rw [List.map_map, gcat]
      congr 1
      apply List.map_congr_left
      intro v _
      exact gv_catE b0 b v
    rw [hc2]
    exact hcat
  have hG : GoodIn gGw (gwy M N y2) := fun w hw => (List.mem_cons.mp hw).elim (fun h => h ▸ gGw_good _ f1) (gGw_good w)
  have hM := gMet (l := l) (b0 := b0) (b := b) (D := D) (G := G) (L := L) hO hy0 hy2 hzz hb0 hKc
  have hstk : (as.reverse ++ r).map (gv b0 b) = (as.map (gv b0 b)).reverse ++ r.map (gv b0 b) := by simp
  rw [hstk]
  have hfit : cells + (M y2).2.2.2.2.1 ≤ R.cells ∧ slots + (M y2).2.2.2.2.2 ≤ R.slots := by omega
  by_cases hpl : pl < 10000
  · rw [gml, if_pos hpl] at hcor
    exact gcallW (va_runS (As := as.map (gv b0 b)) ⟨hx, hb, hml, hown, hts⟩ hM ⟨callB_of (M y2).2.2.1 hts hG rfl rfl rfl (hts _ f2) (hts _ (gw_mem hcor)) ⟨f3.1, f3.2, f8⟩ hroom, hts _ f6⟩ ⟨gPc_blind, fun U hU hW => ⟨rfl, by rw [hU]; exact hRel.moved hW.alike, va_K.moved hW.alike hK, gEx.warm hW hEx, by rw [hU]; exact Nat.le_trans hbs hS.1⟩⟩ rfl (by rw [List.length_map]; exact hlen) hLV.1.1 rfl (lv_room hcat2) hdg hfit) hS cont
  · rw [gml, if_neg hpl] at hcor
    cases hz : gnest[pl - 10000]? with
    | none => rw [hz] at hcor; cases hcor
    | some z =>
      obtain ⟨za, zj, zm, zh⟩ := z
      rw [hz] at hcor
      simp only [Bool.and_eq_true, decide_eq_true_eq] at hcor
      obtain ⟨⟨rfl, rfl⟩, rfl⟩ := hcor
      have hnw := hEx.1 _ (List.mem_of_getElem? hz)
      exact gcallW (va_runSN (As := as.map (gv b0 b)) ⟨hx, hb, hml, hown, hts⟩ hM ⟨va_cnB (M y2).2.2.1 hts hG rfl rfl rfl hnw (hts _ f2) ⟨f3.1, f3.2, f8⟩ hroom, hts _ f6, trivial⟩ ⟨gPc_blind, fun U hU hW => ⟨rfl, by rw [hU]; exact hRel.moved hW.alike, va_K.moved hW.alike hK, gEx.warm hW hEx, by rw [hU]; exact Nat.le_trans hbs hS.1⟩⟩ rfl (by rw [List.length_map]; exact hlen) hLV.1.1 rfl (lv_room hcat2) hdg hfit) hS cont
set_option maxHeartbeats 1000000 in
theorem g_invv {M : gT} {N : gN} {nM : Nat} (hO : gOK M N nM) (y2 : Nat) : gGoal M N nM (.invokevirtual y2) := by
  intro y l p e R s m args below meth c b0 b D G L H locs cells slots lsR pc d mc ms i ls st σ Q hq hy hc hC hA hpc
  obtain ⟨len, re, pl, hdg, hcor⟩ := hO.at hy hc hpc
  have hC0 := hC
  have hA0 := hA
  obtain ⟨hx, hb, hml, hown, hts, hEx, hr, hlk, hin, hK, hb0, hbs, hdf, hdl⟩ := hC
  obtain ⟨hRel, hS, hLV, hcl, hsl⟩ := hA
  simp only [gcor, Bool.and_eq_true, Bool.or_eq_true, decide_eq_true_eq, Bool.not_eq_true'] at hcor
  simp only [gstq, gi2, gl2] at hq
  obtain ⟨a, as, r, rfl, hsh, ⟨hlen, hzz⟩, hcat, hmc, hms, d', Q1, rfl, hKc, hkk⟩ := hq
  obtain ⟨⟨⟨⟨⟨⟨hnx, rfl⟩, hy0⟩, hy2⟩, hst⟩, hni⟩, hcor⟩ := hcor
  cases re <;> first | (exact absurd hcor Bool.false_ne_true) | skip
  obtain ⟨f1, f2, f3, f4, f5, -, f7⟩ := ghd_facts hO hy0 hy2
  obtain ⟨g1, g2, g3, g4, g5, g6⟩ := f7 hst
  have cont : ∀ (r1 : Option Value) (σ' : gS) (H1 : Heap) (locs1 : List Loc), Q1 r1 σ' → gRel b0 b D G L σ' s H1 → va_S (gA b) s.heap H1 locs1 → W p l e R s m args below meth c H1 locs1 (cells + (M y2).2.2.2.2.1) (slots + (M y2).2.2.2.2.2) (MQ below (gQc b0 b D G L Q) args s R.cells R.slots (gA b)) (F0 m (pc + 3) lsR ((r1.map (gv b0 b)).toList ++ r.map (gv b0 b))) := by
    intro r1 σ' H1 locs1 hq1 hrel1 hS1
    have key := hkk r1 σ' hq1 y l p e R s m args below meth c b0 b D G L H1 locs1 (cells + (M y2).2.2.2.2.1) (slots + (M y2).2.2.2.2.2) lsR (pc + 3) hy rfl hC0 ⟨hrel1, hS1, hLV, by omega, by omega⟩ (gpc_nx hnx)
    have e3 : (r1.toList ++ r).map (gv b0 b) = (r1.map (gv b0 b)).toList ++ r.map (gv b0 b) := by
      cases r1 <;> rfl
    rw [e3] at key
    exact key
  have hroom : (grm d' (M y2).2.2.2.2.1 (M y2).2.2.2.2.2).frames + 1 ≤ R.frames ∧ 8 + ((M y2).2.1 + 11) + (grm d' (M y2).2.2.2.2.1 (M y2).2.2.2.2.2).locals ≤ R.locals := by
    show d' + 1 ≤ R.frames ∧ 8 + ((M y2).2.1 + 11) + 64 * d' ≤ R.locals
    omega
  have hcat2 : ((r.map (gv b0 b)).map fun v => v.category).sum ≤ 8 := by
    have hc2 : ((r.map (gv b0 b)).map fun v => v.category).sum = gcat r := by
      rw [List.map_map, gcat]
      congr 1
      apply List.map_congr_left
      intro v _
      exact gv_catE b0 b v
    rw [hc2]
    exact hcat
  have hG : GoodIn gGw (gwy M N y2) := fun w hw => (List.mem_cons.mp hw).elim (fun h => h ▸ gGw_good _ f1) (gGw_good w)
  have hM := gMet (l := l) (b0 := b0) (b := b) (D := D) (G := G) (L := L) hO hy0 hy2 hzz hb0 hKc
  obtain ⟨ha2, haz⟩ := hRel.2.2.1.obj hsh (by omega)
  have hat := gws_at (b0 := b0) (b := b) (G := G) ha2 haz
  rw [gcell_obj hsh (by omega)] at hat
  have hn : (M y2).2.2.1 = as.length + 1 := by rw [← hlen]; rfl
  have f8 := g2 _ hn
  have hfit : cells + (M y2).2.2.2.2.1 ≤ R.cells ∧ slots + (M y2).2.2.2.2.2 ≤ R.slots := by omega
  have hstk : (as.reverse ++ .ref a :: r).map (gv b0 b) = (as.map (gv b0 b)).reverse ++ .ref (b + (a - 2)) :: r.map (gv b0 b) := by
    simp only [List.map_append, List.map_reverse, List.map_cons, gv_2 ha2]
  have hav : (Value.ref a :: as).map (gv b0 b) = .ref (b + (a - 2)) :: as.map (gv b0 b) := by
    rw [List.map_cons, gv_2 ha2]
  rw [hstk]
  have hcl9 := (hO.2.2.1 _ g3).2.1
  have hrecv : ∃ cell : Cell, H[b + (a - 2)]? = some cell ∧ cell.vm.isStatics = false ∧ s.vm.findClass (N y2).1.cls = some cell.cls := by
    have := va_recv hK hRel.1 hcl9 hat
    rw [← g4]
    exact this
  exact gcallW (va_runV (As := as.map (gv b0 b)) (C := (N y2).1.cls) ⟨hx, hb, hml, hown, hts⟩ hM ⟨callB_of as.length hts hG rfl rfl rfl (hts _ f2) (hts _ (gw_mem hcor)) ⟨f3.1, f3.2, f8⟩ hroom, hts _ g1, hts _ (g6 hni)⟩ ⟨gPc_blind, hrecv, fun U hU hW => ⟨by rw [hav], by rw [hU]; exact hRel.moved hW.alike, va_K.moved hW.alike hK, gEx.warm hW hEx, by rw [hU]; exact Nat.le_trans hbs hS.1⟩⟩ rfl (by rw [List.length_map]) hLV.1.1 rfl (lv_room hcat2) hdg hfit) hS cont
set_option maxHeartbeats 1000000 in
theorem g_invi {M : gT} {N : gN} {nM : Nat} (hO : gOK M N nM) (y2 : Nat) : gGoal M N nM (.invokespecial y2) := by
  intro y l p e R s m args below meth c b0 b D G L H locs cells slots lsR pc d mc ms i ls st σ Q hq hy hc hC hA hpc
  obtain ⟨len, re, pl, hdg, hcor⟩ := hO.at hy hc hpc
  have hC0 := hC
  have hA0 := hA
  obtain ⟨hx, hb, hml, hown, hts, hEx, hr, hlk, hin, hK, hb0, hbs, hdf, hdl⟩ := hC
  obtain ⟨hRel, hS, hLV, hcl, hsl⟩ := hA
  simp only [gcor, Bool.and_eq_true, Bool.or_eq_true, decide_eq_true_eq, Bool.not_eq_true'] at hcor
  simp only [gstq, gi2, gl2] at hq
  obtain ⟨a, as, r, rfl, hsh, ⟨hlen, hzz⟩, hcat, hmc, hms, d', Q1, rfl, hKc, hkk⟩ := hq
  obtain ⟨⟨⟨⟨⟨⟨hnx, rfl⟩, hy0⟩, hy2⟩, hst⟩, hini⟩, hcor⟩ := hcor
  cases re <;> first | (exact absurd hcor Bool.false_ne_true) | skip
  rename_i kx
  have hcor : gml (N y).1.cls kx (N y2).1 pl = true := hcor
  obtain ⟨f1, f2, f3, f4, f5, -, f7⟩ := ghd_facts hO hy0 hy2
  obtain ⟨g1, g2, g3, g4, g5, g6⟩ := f7 hst
  have cont : ∀ (r1 : Option Value) (σ' : gS) (H1 : Heap) (locs1 : List Loc), Q1 r1 σ' → gRel b0 b D G L σ' s H1 → va_S (gA b) s.heap H1 locs1 → W p l e R s m args below meth c H1 locs1 (cells + (M y2).2.2.2.2.1) (slots + (M y2).2.2.2.2.2) (MQ below (gQc b0 b D G L Q) args s R.cells R.slots (gA b)) (F0 m (pc + 3) lsR ((r1.map (gv b0 b)).toList ++ r.map (gv b0 b))) := by
    intro r1 σ' H1 locs1 hq1 hrel1 hS1
    have key := hkk r1 σ' hq1 y l p e R s m args below meth c b0 b D G L H1 locs1 (cells + (M y2).2.2.2.2.1) (slots + (M y2).2.2.2.2.2) lsR (pc + 3) hy rfl hC0 ⟨hrel1, hS1, hLV, by omega, by omega⟩ (gpc_nx hnx)
    have e3 : (r1.toList ++ r).map (gv b0 b) = (r1.map (gv b0 b)).toList ++ r.map (gv b0 b) := by
      cases r1 <;> rfl
    rw [e3] at key
    exact key
  have hroom : (grm d' (M y2).2.2.2.2.1 (M y2).2.2.2.2.2).frames + 1 ≤ R.frames ∧ 8 + ((M y2).2.1 + 11) + (grm d' (M y2).2.2.2.2.1 (M y2).2.2.2.2.2).locals ≤ R.locals := by
    show d' + 1 ≤ R.frames ∧ 8 + ((M y2).2.1 + 11) + 64 * d' ≤ R.locals
    omega
  have hcat2 : ((r.map (gv b0 b)).map fun v => v.category).sum ≤ 8 := by
    have hc2 : ((r.map (gv b0 b)).map fun v => v.category).sum = gcat r := by
      rw [List.map_map, gcat]
      congr 1
      apply List.map_congr_left
      intro v _
      exact gv_catE b0 b v
    rw [hc2]
    exact hcat
  have hG : GoodIn gGw (gwy M N y2) := fun w hw => (List.mem_cons.mp hw).elim (fun h => h ▸ gGw_good _ f1) (gGw_good w)
  have hM := gMet (l := l) (b0 := b0) (b := b) (D := D) (G := G) (L := L) hO hy0 hy2 hzz hb0 hKc
  obtain ⟨ha2, haz⟩ := hRel.2.2.1.obj hsh (by omega)
  have hat := gws_at (b0 := b0) (b := b) (G := G) ha2 haz
  rw [gcell_obj hsh (by omega)] at hat
  have hn : (M y2).2.2.1 = as.length + 1 := by rw [← hlen]; rfl
  have f8 := g2 _ hn
  have hfit : cells + (M y2).2.2.2.2.1 ≤ R.cells ∧ slots + (M y2).2.2.2.2.2 ≤ R.slots := by omega
  have hstk : (as.reverse ++ .ref a :: r).map (gv b0 b) = (as.map (gv b0 b)).reverse ++ .ref (b + (a - 2)) :: r.map (gv b0 b) := by
    simp only [List.map_append, List.map_reverse, List.map_cons, gv_2 ha2]
  have hav : (Value.ref a :: as).map (gv b0 b) = .ref (b + (a - 2)) :: as.map (gv b0 b) := by
    rw [List.map_cons, gv_2 ha2]
  rw [hstk]
  have hret := g5 hini
  have hw : gwy M N y2 = Cond.code (N y2).1 (N y2).2.1 (M y2).2.1 none :: gGw := by rw [gwy, hret]
  by_cases hpl : pl < 10000
  · rw [gml, if_pos hpl] at hcor
    exact gcallW (va_runI (As := as.map (gv b0 b)) ⟨hx, hb, hml, hown, hts⟩ hM ⟨callB_of as.length hts hG hw rfl rfl (hts _ f2) (hts _ (gw_mem hcor)) ⟨f3.1, f3.2, f8⟩ hroom, hini, hts _ g1⟩ ⟨gPc_blind, fun U hU hW => ⟨by rw [hav], by rw [hU]; exact hRel.moved hW.alike, va_K.moved hW.alike hK, gEx.warm hW hEx, by rw [hU]; exact Nat.le_trans hbs hS.1⟩⟩ rfl (by rw [List.length_map]) hLV.1.1 rfl (lv_room hcat2) hdg hfit) hS cont
  · rw [gml, if_neg hpl] at hcor
    cases hz : gnest[pl - 10000]? with
    | none => rw [hz] at hcor; cases hcor
    | some z =>
      obtain ⟨za, zj, zm, zh⟩ := z
      rw [hz] at hcor
      simp only [Bool.and_eq_true, decide_eq_true_eq] at hcor
      obtain ⟨⟨rfl, rfl⟩, rfl⟩ := hcor
      have hnw := hEx.1 _ (List.mem_of_getElem? hz)
      exact gcallW (va_runIN (As := as.map (gv b0 b)) ⟨hx, hb, hml, hown, hts⟩ hM ⟨va_cnB as.length hts hG hw rfl rfl hnw (hts _ f2) ⟨f3.1, f3.2, f8⟩ hroom, hini, hts _ g1⟩ ⟨gPc_blind, fun U hU hW => ⟨by rw [hav], by rw [hU]; exact hRel.moved hW.alike, va_K.moved hW.alike hK, gEx.warm hW hEx, by rw [hU]; exact Nat.le_trans hbs hS.1⟩⟩ rfl (by rw [List.length_map]) hLV.1.1 rfl (lv_room hcat2) hdg hfit) hS cont
theorem g_all {M : gT} {N : gN} {nM : Nat} (hO : gOK M N nM) (ins : Instr) : gGoal M N nM ins := by
  match ins with
  | .iconst n => exact g_iconst hO n
  | .ldc2_w n => exact g_ldc2 hO n
  | .iload k => exact g_iload hO k
  | .lload k => exact g_lload hO k
  | .aload k => exact g_aload hO k
  | .istore k => exact g_istore hO k
  | .astore k => exact g_astore hO k
  | .lstore k => exact g_lstore hO k
  | .iinc k n => exact g_iinc hO k n
  | .getfield e => exact g_getI hO e
  | .getstatic e => exact g_getR hO e
  | .dload e => exact g_getL hO e
  | .putfield e => exact g_putI hO e
  | .putstatic e => exact g_putR hO e
  | .dstore e => exact g_putL hO e
  | .iaload => exact g_iaload hO
  | .baload => exact g_baload hO
  | .aaload => exact g_aaload hO
  | .iastore => exact g_iastore hO
  | .bastore => exact g_bastore hO
  | .aastore => exact g_aastore hO
  | .arraylength => exact g_alen hO
  | .new e => exact g_new hO e
  | .newarray t => exact g_newarray hO t
  | .anewarray k => exact g_anew hO k
  | .monitorexit => exact g_objInit hO
  | .iadd => exact g_iadd hO
  | .isub => exact g_isub hO
  | .imul => exact g_imul hO
  | .iand => exact g_iand hO
  | .ior => exact g_ior hO
  | .ixor => exact g_ixor hO
  | .ishl => exact g_ishl hO
  | .ishr => exact g_ishr hO
  | .iushr => exact g_iushr hO
  | .idiv => exact g_idiv hO
  | .irem => exact g_irem hO
  | .ineg => exact g_ineg hO
  | .ladd => exact g_ladd hO
  | .lmul => exact g_lmul hO
  | .land => exact g_land hO
  | .lor => exact g_lor hO
  | .lrem => exact g_lrem hO
  | .lushr => exact g_lushr hO
  | .lshl => exact g_lshl hO
  | .lcmp => exact g_lcmp hO
  | .i2l => exact g_i2l hO
  | .l2i => exact g_l2i hO
  | .dup => exact g_dup hO
  | .dup2 => exact g_dup2 hO
  | .pop => exact g_pop hO
  | .ireturn => exact g_iret hO
  | .freturn => exact g_zret hO
  | .lreturn => exact g_lret hO
  | .return_ => exact g_vret hO
  | .if_icmp c t => exact g_icmp hO c t
  | .ifCond c t => exact g_ifc hO c t
  | .goto t => exact g_goto hO t
  | .tableswitch df lo hi os => exact g_tsw hO df lo hi os
  | .lookupswitch df ps => exact g_lsw hO df ps
  | .invokestatic y => exact g_invs hO y
  | .invokevirtual y => exact g_invv hO y
  | .invokespecial y => exact g_invi hO y
  | .aconst_null => exact fun y l p e R s m args below meth c b0 b D G L H locs cells slots lsR pc d mc ms i ls st σ Q hq => hq.elim
  | .aload_n _ => exact fun y l p e R s m args below meth c b0 b D G L H locs cells slots lsR pc d mc ms i ls st σ Q hq => hq.elim
  | .areturn => exact fun y l p e R s m args below meth c b0 b D G L H locs cells slots lsR pc d mc ms i ls st σ Q hq => hq.elim
  | .astore_n _ => exact fun y l p e R s m args below meth c b0 b D G L H locs cells slots lsR pc d mc ms i ls st σ Q hq => hq.elim
  | .athrow => exact fun y l p e R s m args below meth c b0 b D G L H locs cells slots lsR pc d mc ms i ls st σ Q hq => hq.elim
  | .bipush _ => exact fun y l p e R s m args below meth c b0 b D G L H locs cells slots lsR pc d mc ms i ls st σ Q hq => hq.elim
  | .caload => exact fun y l p e R s m args below meth c b0 b D G L H locs cells slots lsR pc d mc ms i ls st σ Q hq => hq.elim
  | .castore => exact fun y l p e R s m args below meth c b0 b D G L H locs cells slots lsR pc d mc ms i ls st σ Q hq => hq.elim
  | .checkcast _ => exact fun y l p e R s m args below meth c b0 b D G L H locs cells slots lsR pc d mc ms i ls st σ Q hq => hq.elim
  | .d2f => exact fun y l p e R s m args below meth c b0 b D G L H locs cells slots lsR pc d mc ms i ls st σ Q hq => hq.elim
  | .d2i => exact fun y l p e R s m args below meth c b0 b D G L H locs cells slots lsR pc d mc ms i ls st σ Q hq => hq.elim
  | .d2l => exact fun y l p e R s m args below meth c b0 b D G L H locs cells slots lsR pc d mc ms i ls st σ Q hq => hq.elim
  | .dadd => exact fun y l p e R s m args below meth c b0 b D G L H locs cells slots lsR pc d mc ms i ls st σ Q hq => hq.elim
  | .daload => exact fun y l p e R s m args below meth c b0 b D G L H locs cells slots lsR pc d mc ms i ls st σ Q hq => hq.elim
  | .dastore => exact fun y l p e R s m args below meth c b0 b D G L H locs cells slots lsR pc d mc ms i ls st σ Q hq => hq.elim
  | .dcmp _ => exact fun y l p e R s m args below meth c b0 b D G L H locs cells slots lsR pc d mc ms i ls st σ Q hq => hq.elim
  | .dconst _ => exact fun y l p e R s m args below meth c b0 b D G L H locs cells slots lsR pc d mc ms i ls st σ Q hq => hq.elim
  | .ddiv => exact fun y l p e R s m args below meth c b0 b D G L H locs cells slots lsR pc d mc ms i ls st σ Q hq => hq.elim
  | .dload_n _ => exact fun y l p e R s m args below meth c b0 b D G L H locs cells slots lsR pc d mc ms i ls st σ Q hq => hq.elim
  | .dmul => exact fun y l p e R s m args below meth c b0 b D G L H locs cells slots lsR pc d mc ms i ls st σ Q hq => hq.elim
  | .dneg => exact fun y l p e R s m args below meth c b0 b D G L H locs cells slots lsR pc d mc ms i ls st σ Q hq => hq.elim
  | .drem => exact fun y l p e R s m args below meth c b0 b D G L H locs cells slots lsR pc d mc ms i ls st σ Q hq => hq.elim
  | .dreturn => exact fun y l p e R s m args below meth c b0 b D G L H locs cells slots lsR pc d mc ms i ls st σ Q hq => hq.elim
  | .dstore_n _ => exact fun y l p e R s m args below meth c b0 b D G L H locs cells slots lsR pc d mc ms i ls st σ Q hq => hq.elim
  | .dsub => exact fun y l p e R s m args below meth c b0 b D G L H locs cells slots lsR pc d mc ms i ls st σ Q hq => hq.elim
  | .dup_x1 => exact fun y l p e R s m args below meth c b0 b D G L H locs cells slots lsR pc d mc ms i ls st σ Q hq => hq.elim
  | .dup_x2 => exact fun y l p e R s m args below meth c b0 b D G L H locs cells slots lsR pc d mc ms i ls st σ Q hq => hq.elim
  | .dup2_x1 => exact fun y l p e R s m args below meth c b0 b D G L H locs cells slots lsR pc d mc ms i ls st σ Q hq => hq.elim
  | .dup2_x2 => exact fun y l p e R s m args below meth c b0 b D G L H locs cells slots lsR pc d mc ms i ls st σ Q hq => hq.elim
  | .f2d => exact fun y l p e R s m args below meth c b0 b D G L H locs cells slots lsR pc d mc ms i ls st σ Q hq => hq.elim
  | .f2i => exact fun y l p e R s m args below meth c b0 b D G L H locs cells slots lsR pc d mc ms i ls st σ Q hq => hq.elim
  | .f2l => exact fun y l p e R s m args below meth c b0 b D G L H locs cells slots lsR pc d mc ms i ls st σ Q hq => hq.elim
  | .fadd => exact fun y l p e R s m args below meth c b0 b D G L H locs cells slots lsR pc d mc ms i ls st σ Q hq => hq.elim
  | .faload => exact fun y l p e R s m args below meth c b0 b D G L H locs cells slots lsR pc d mc ms i ls st σ Q hq => hq.elim
  | .fastore => exact fun y l p e R s m args below meth c b0 b D G L H locs cells slots lsR pc d mc ms i ls st σ Q hq => hq.elim
  | .fcmp _ => exact fun y l p e R s m args below meth c b0 b D G L H locs cells slots lsR pc d mc ms i ls st σ Q hq => hq.elim
  | .fconst _ => exact fun y l p e R s m args below meth c b0 b D G L H locs cells slots lsR pc d mc ms i ls st σ Q hq => hq.elim
  | .fdiv => exact fun y l p e R s m args below meth c b0 b D G L H locs cells slots lsR pc d mc ms i ls st σ Q hq => hq.elim
  | .fload _ => exact fun y l p e R s m args below meth c b0 b D G L H locs cells slots lsR pc d mc ms i ls st σ Q hq => hq.elim
  | .fload_n _ => exact fun y l p e R s m args below meth c b0 b D G L H locs cells slots lsR pc d mc ms i ls st σ Q hq => hq.elim
  | .fmul => exact fun y l p e R s m args below meth c b0 b D G L H locs cells slots lsR pc d mc ms i ls st σ Q hq => hq.elim
  | .fneg => exact fun y l p e R s m args below meth c b0 b D G L H locs cells slots lsR pc d mc ms i ls st σ Q hq => hq.elim
  | .frem => exact fun y l p e R s m args below meth c b0 b D G L H locs cells slots lsR pc d mc ms i ls st σ Q hq => hq.elim
  | .fstore _ => exact fun y l p e R s m args below meth c b0 b D G L H locs cells slots lsR pc d mc ms i ls st σ Q hq => hq.elim
  | .fstore_n _ => exact fun y l p e R s m args below meth c b0 b D G L H locs cells slots lsR pc d mc ms i ls st σ Q hq => hq.elim
  | .fsub => exact fun y l p e R s m args below meth c b0 b D G L H locs cells slots lsR pc d mc ms i ls st σ Q hq => hq.elim
  | .goto_w _ => exact fun y l p e R s m args below meth c b0 b D G L H locs cells slots lsR pc d mc ms i ls st σ Q hq => hq.elim
  | .i2b => exact fun y l p e R s m args below meth c b0 b D G L H locs cells slots lsR pc d mc ms i ls st σ Q hq => hq.elim
  | .i2c => exact fun y l p e R s m args below meth c b0 b D G L H locs cells slots lsR pc d mc ms i ls st σ Q hq => hq.elim
  | .i2d => exact fun y l p e R s m args below meth c b0 b D G L H locs cells slots lsR pc d mc ms i ls st σ Q hq => hq.elim
  | .i2f => exact fun y l p e R s m args below meth c b0 b D G L H locs cells slots lsR pc d mc ms i ls st σ Q hq => hq.elim
  | .i2s => exact fun y l p e R s m args below meth c b0 b D G L H locs cells slots lsR pc d mc ms i ls st σ Q hq => hq.elim
  | .if_acmp _ _ => exact fun y l p e R s m args below meth c b0 b D G L H locs cells slots lsR pc d mc ms i ls st σ Q hq => hq.elim
  | .ifnonnull _ => exact fun y l p e R s m args below meth c b0 b D G L H locs cells slots lsR pc d mc ms i ls st σ Q hq => hq.elim
  | .ifnull _ => exact fun y l p e R s m args below meth c b0 b D G L H locs cells slots lsR pc d mc ms i ls st σ Q hq => hq.elim
  | .iload_n _ => exact fun y l p e R s m args below meth c b0 b D G L H locs cells slots lsR pc d mc ms i ls st σ Q hq => hq.elim
  | .instanceof _ => exact fun y l p e R s m args below meth c b0 b D G L H locs cells slots lsR pc d mc ms i ls st σ Q hq => hq.elim
  | .invokedynamic _ => exact fun y l p e R s m args below meth c b0 b D G L H locs cells slots lsR pc d mc ms i ls st σ Q hq => hq.elim
  | .invokeinterface _ _ => exact fun y l p e R s m args below meth c b0 b D G L H locs cells slots lsR pc d mc ms i ls st σ Q hq => hq.elim
  | .istore_n _ => exact fun y l p e R s m args below meth c b0 b D G L H locs cells slots lsR pc d mc ms i ls st σ Q hq => hq.elim
  | .jsr _ => exact fun y l p e R s m args below meth c b0 b D G L H locs cells slots lsR pc d mc ms i ls st σ Q hq => hq.elim
  | .jsr_w _ => exact fun y l p e R s m args below meth c b0 b D G L H locs cells slots lsR pc d mc ms i ls st σ Q hq => hq.elim
  | .l2d => exact fun y l p e R s m args below meth c b0 b D G L H locs cells slots lsR pc d mc ms i ls st σ Q hq => hq.elim
  | .l2f => exact fun y l p e R s m args below meth c b0 b D G L H locs cells slots lsR pc d mc ms i ls st σ Q hq => hq.elim
  | .laload => exact fun y l p e R s m args below meth c b0 b D G L H locs cells slots lsR pc d mc ms i ls st σ Q hq => hq.elim
  | .lastore => exact fun y l p e R s m args below meth c b0 b D G L H locs cells slots lsR pc d mc ms i ls st σ Q hq => hq.elim
  | .lconst _ => exact fun y l p e R s m args below meth c b0 b D G L H locs cells slots lsR pc d mc ms i ls st σ Q hq => hq.elim
  | .ldc _ => exact fun y l p e R s m args below meth c b0 b D G L H locs cells slots lsR pc d mc ms i ls st σ Q hq => hq.elim
  | .ldc_w _ => exact fun y l p e R s m args below meth c b0 b D G L H locs cells slots lsR pc d mc ms i ls st σ Q hq => hq.elim
  | .ldiv => exact fun y l p e R s m args below meth c b0 b D G L H locs cells slots lsR pc d mc ms i ls st σ Q hq => hq.elim
  | .lload_n _ => exact fun y l p e R s m args below meth c b0 b D G L H locs cells slots lsR pc d mc ms i ls st σ Q hq => hq.elim
  | .lneg => exact fun y l p e R s m args below meth c b0 b D G L H locs cells slots lsR pc d mc ms i ls st σ Q hq => hq.elim
  | .lshr => exact fun y l p e R s m args below meth c b0 b D G L H locs cells slots lsR pc d mc ms i ls st σ Q hq => hq.elim
  | .lstore_n _ => exact fun y l p e R s m args below meth c b0 b D G L H locs cells slots lsR pc d mc ms i ls st σ Q hq => hq.elim
  | .lsub => exact fun y l p e R s m args below meth c b0 b D G L H locs cells slots lsR pc d mc ms i ls st σ Q hq => hq.elim
  | .lxor => exact fun y l p e R s m args below meth c b0 b D G L H locs cells slots lsR pc d mc ms i ls st σ Q hq => hq.elim
  | .monitorenter => exact fun y l p e R s m args below meth c b0 b D G L H locs cells slots lsR pc d mc ms i ls st σ Q hq => hq.elim
  | .multianewarray _ _ => exact fun y l p e R s m args below meth c b0 b D G L H locs cells slots lsR pc d mc ms i ls st σ Q hq => hq.elim
  | .nop => exact fun y l p e R s m args below meth c b0 b D G L H locs cells slots lsR pc d mc ms i ls st σ Q hq => hq.elim
  | .pop2 => exact fun y l p e R s m args below meth c b0 b D G L H locs cells slots lsR pc d mc ms i ls st σ Q hq => hq.elim
  | .ret _ => exact fun y l p e R s m args below meth c b0 b D G L H locs cells slots lsR pc d mc ms i ls st σ Q hq => hq.elim
  | .saload => exact fun y l p e R s m args below meth c b0 b D G L H locs cells slots lsR pc d mc ms i ls st σ Q hq => hq.elim
  | .sastore => exact fun y l p e R s m args below meth c b0 b D G L H locs cells slots lsR pc d mc ms i ls st σ Q hq => hq.elim
  | .sipush _ => exact fun y l p e R s m args below meth c b0 b D G L H locs cells slots lsR pc d mc ms i ls st σ Q hq => hq.elim
  | .swap => exact fun y l p e R s m args below meth c b0 b D G L H locs cells slots lsR pc d mc ms i ls st σ Q hq => hq.elim
/-- what a run of the abstract machine says of the machine -/
theorem g_sound {M : gT} {N : gN} {nM : Nat} (hO : gOK M N nM) {d mc ms : Nat} {C : List Instr} {i : Nat} {ls st : List Value} {σ : gS} {Q : gP} (h : gW M d mc ms C i ls st σ Q) : gSnd M N nM d mc ms C i ls st σ Q := by
  refine h _ ?_
  intro d mc ms C i ls st σ Q ⟨ins, hc, hq⟩ y l p e R s m args below meth c b0 b D G L H locs cells slots lsR pc hy hC hCx hA hpc
  subst hC
  exact g_all hO ins y l p e R s m args below meth c b0 b D G L H locs cells slots lsR pc d mc ms i ls st σ Q hq hy hc hCx hA hpc
