/-! MAKING, SWITCHES, CALLS; the whole -/
theorem gRel.new {b0 b : Nat} {D : va_G} {G : gG3} {L : Nat} {σ : gS} {s : State} {H H1 : Heap} {x : Nat} {e : va_E} (hb0 : b0 < b) (hRel : gRel b0 b D G L σ s H) (z1 : H1.size = H.size + 1) (o1 : ∀ q, q < H.size → H1[q]? = H[q]?) (he : gcell b0 b G (gnw σ x) (gsz σ + 2) = e) (hat : va_at D vwCl (H.size, e) H1) : gRel b0 b D G L (gnw σ x) s H1 := by
  refine ⟨?_, ?_, hRel.2.2.1.new, ?_⟩
  · rw [gws_new]
    refine va_P.app (hRel.1.kept (fun k q hq => o1 q.1 ((hRel.1 k q hq).lt))) (fun k q hq => ?_)
    have hz : k < 1 := (List.getElem?_eq_some_iff.mp hq).1
    rw [show k = 0 by omega] at hq
    cases hq
    rw [he, ← hRel.2.1]
    exact hat
  · rw [z1, hRel.2.1]
    rfl
  · have e2 : git (gnw σ x) 1 = git σ 1 := by
      funext j
      show (if 1 = σ.1.1 + 2 then (0 : Int32) else σ.2.2.1 1 j) = _
      rw [if_neg (by omega)]
      rfl
    rw [e2]
    exact hRel.2.2.2.kept (o1 b0 (by have := hRel.2.1; omega))
theorem gS_new {b : Nat} {s : State} {H H1 : Heap} {locs : List Loc} (hS : va_S (gA b) s.heap H locs) (z1 : H1.size = H.size + 1) (o1 : ∀ q, q < H.size → H1[q]? = H[q]?) : va_S (gA b) s.heap H1 locs :=
  ⟨Nat.le_trans hS.1 (by omega), fun x h1 h2 => (o1 x (Nat.lt_of_lt_of_le h1 hS.1)).trans (hS.2.1 x h1 h2), hS.2.2⟩
theorem gsh_new {σ : gS} {x : Nat} : gsh (gnw σ x) (gsz σ + 2) = x := by
  show (if gsz σ + 2 = σ.1.1 + 2 then x else _) = x
  exact if_pos rfl
theorem git_new {σ : gS} {x : Nat} : git (gnw σ x) (gsz σ + 2) = fun _ => 0 := by
  funext j
  show (if gsz σ + 2 = σ.1.1 + 2 then (0 : Int32) else _) = 0
  exact if_pos rfl
theorem glg_new {σ : gS} {x : Nat} : glg (gnw σ x) (gsz σ + 2) = fun _ => 0 := by
  funext j
  show (if gsz σ + 2 = σ.1.1 + 2 then (0 : Int64) else _) = 0
  exact if_pos rfl
theorem grf_new {σ : gS} {x : Nat} : grf (gnw σ x) (gsz σ + 2) = fun _ => 0 := by
  funext j
  show (if gsz σ + 2 = σ.1.1 + 2 then 0 else _) = 0
  exact if_pos rfl
set_option maxHeartbeats 1000000 in
theorem g_new {M : gT} {N : gN} {nM : Nat} (hO : gOK M N nM) (e1 : Nat) : gGoal M N nM (.new e1) := by
  intro y l p e R s m args below meth c b0 b D G L H locs cells slots lsR pc d mc ms i ls st σ Q hq hy hc hC hA hpc
  obtain ⟨len, re, pl, hdg, hcor⟩ := hO.at hy hc hpc
  have hC0 := hC
  have hA0 := hA
  obtain ⟨hx, hb, hml, hown, hts, hEx, hr, hlk, hin, hK, hb0, hbs, hdf, hdl⟩ := hC
  obtain ⟨hRel, hS, hLV, hcl, hsl⟩ := hA
  simp only [gcor, Bool.and_eq_true, Bool.or_eq_true, decide_eq_true_eq, Bool.not_eq_true'] at hcor
  simp only [gstq, gi2, gl2] at hq
  obtain ⟨hm1, hm2, hk⟩ := hq
  obtain ⟨⟨⟨⟨hnx, h9⟩, hnf⟩, rfl⟩, hcor⟩ := hcor
  cases re <;> first | (exact absurd hcor Bool.false_ne_true) | skip
  obtain ⟨hin9, hcl9, hty9, hnm9, hinst9, hini9, htys9⟩ := hO.2.2.1 (e1 / 64) h9
  rw [hnf] at hk hm2
  have hKn := hK.1 (e1 / 64) _ hcl9
  refine W.newcK hx hb hown (hts _ (gw_mem hcor)) (hts _ hinst9) (hts _ hini9) rfl hdg (by omega) (by omega) hKn.2.1 rfl fun H1 kC hkC e1' z1 o1 => ?_
  have hsz : H.size = b + gsz σ := hRel.2.1
  have key := hk y l p e R s m args below meth c b0 b D G L H1 locs (cells + 1) (slots + gnf (e1 / 64)) lsR (pc + 3) hy rfl hC0 ⟨gRel.new hb0 hRel z1 o1 (gcell_obj gsh_new (by omega)) ⟨_, hcl9, (u_born (gty (e1 / 64)) hts hin9 hKn hkC e1' hty9).to ?_⟩, gS_new hS z1 o1, hLV, by omega, by omega⟩ (gpc_nx hnx)
  · have hgv : gv b0 b (.ref (gsz σ + 2)) = .ref H.size := by
      rw [gv_2 (by omega), hsz]
      rfl
    have key : W p l e R s m args below meth c H1 locs (cells + 1) (slots + gnf (e1 / 64)) _ (F0 m (pc + 3) lsR (gv b0 b (.ref (gsz σ + 2)) :: st.map (gv b0 b))) := key
    rw [hgv] at key
    exact key
  · intro j hj
    have hj : j < gnf (e1 / 64) := hj
    show _ = ((gfs b0 b (gnw σ (e1 / 64)) (e1 / 64) (gsz σ + 2)).getD j .null)
    rw [List.getD_eq_getElem?_getD, gfs_get hj]
    show _ = gfv b0 b (gnw σ (e1 / 64)) (gty (e1 / 64) j) (gsz σ + 2) j
    rcases htys9 j hj with h | h | h
    · rw [h]
      show _ = Value.int (git _ _ _)
      rw [git_new]
      rfl
    · rw [h]
      show _ = Value.long (glg _ _ _)
      rw [glg_new]
      rfl
    · have hz : va_rf (gm b0 b (grf (gnw σ (e1 / 64)) (gsz σ + 2) j)) = .null := by
        rw [grf_new]
        rfl
      cases hq2 : gty (e1 / 64) j <;> rw [hq2] at h <;> first | (exact absurd h Bool.false_ne_true) | exact hz.symm
set_option maxHeartbeats 1000000 in
theorem g_newarray {M : gT} {N : gN} {nM : Nat} (hO : gOK M N nM) (t : ArrayType) : gGoal M N nM (.newarray t) := by
  intro y l p e R s m args below meth c b0 b D G L H locs cells slots lsR pc d mc ms i ls st σ Q hq hy hc hC hA hpc
  obtain ⟨len, re, pl, hdg, hcor⟩ := hO.at hy hc hpc
  have hC0 := hC
  have hA0 := hA
  obtain ⟨hx, hb, hml, hown, hts, hEx, hr, hlk, hin, hK, hb0, hbs, hdf, hdl⟩ := hC
  obtain ⟨hRel, hS, hLV, hcl, hsl⟩ := hA
  simp only [gcor, Bool.and_eq_true, Bool.or_eq_true, decide_eq_true_eq, Bool.not_eq_true'] at hcor
  simp only [gstq, gi2, gl2] at hq
  obtain ⟨n, r, K, rfl, rfl, hK1, hkd, hm1, hm2, hk⟩ := hq
  obtain ⟨⟨⟨hnx, rfl⟩, rfl⟩, ht⟩ := hcor
  have hN : (Int32.ofNat K).toNatClampNeg = K := nI_clamp (n := K) (by omega)
  have hn0 : ¬ Int32.ofNat K < 0 := nI_pos (n := K) (by omega)
  have hsz : H.size = b + gsz σ := hRel.2.1
  have hgv : gv b0 b (.ref (gsz σ + 2)) = .ref H.size := by
    rw [gv_2 (by omega), hsz]
    rfl
  obtain ⟨-, -, hai, haz⟩ := hO.2.2.2
  rcases ht with rfl | rfl
  · refine va_newaK (atype := .int) hx hb (hts _ hai) rfl hdg rfl hn0 hN (by show K * 4 ≤ _; omega) (by omega) (by omega) rfl fun H1 cA e1 z1 o1 hAr hNm => ?_
    have hcI : cA = G.1 := Option.some.inj (hNm.symm.trans (hK.2 0 _ rfl).2)
    subst hcI
    have key := hk y l p e R s m args below meth c b0 b D G L H1 locs (cells + 1) (slots + K) lsR (pc + 2) hy rfl hC0 ⟨gRel.new hb0 hRel z1 o1 (gcell_arr (k := 0) (n := K) gsh_new (by omega)) ?_, gS_new hS z1 o1, hLV, by omega, by omega⟩ (gpc_nx hnx)
    · have key : W p l e R s m args below meth c H1 locs (cells + 1) (slots + K) _ (F0 m (pc + 2) lsR (gv b0 b (.ref (gsz σ + 2)) :: r.map (gv b0 b))) := key
      rw [hgv] at key
      exact key
    · show H1[H.size]? = some (vp_cell G.1 (K, .inl (git _ _)))
      rw [git_new, e1]
      rfl
  · refine va_newaK (atype := .boolean) hx hb (hts _ haz) rfl hdg rfl hn0 hN (by show K * 1 ≤ _; omega) (by omega) (by omega) rfl fun H1 cA e1 z1 o1 hAr hNm => ?_
    have hcI : cA = G.2.1 := Option.some.inj (hNm.symm.trans (hK.2 1 _ rfl).2)
    subst hcI
    have key := hk y l p e R s m args below meth c b0 b D G L H1 locs (cells + 1) (slots + K) lsR (pc + 2) hy rfl hC0 ⟨gRel.new hb0 hRel z1 o1 (gcell_arr (k := 1) (n := K) gsh_new (by omega)) ?_, gS_new hS z1 o1, hLV, by omega, by omega⟩ (gpc_nx hnx)
    · have key : W p l e R s m args below meth c H1 locs (cells + 1) (slots + K) _ (F0 m (pc + 2) lsR (gv b0 b (.ref (gsz σ + 2)) :: r.map (gv b0 b))) := key
      rw [hgv] at key
      exact key
    · show H1[H.size]? = some (vp_cell G.2.1 (K, .inl (git _ _)))
      rw [git_new, e1]
      rfl
set_option maxHeartbeats 1000000 in
theorem g_anew {M : gT} {N : gN} {nM : Nat} (hO : gOK M N nM) (k1 : Nat) : gGoal M N nM (.anewarray k1) := by
  intro y l p e R s m args below meth c b0 b D G L H locs cells slots lsR pc d mc ms i ls st σ Q hq hy hc hC hA hpc
  obtain ⟨len, re, pl, hdg, hcor⟩ := hO.at hy hc hpc
  have hC0 := hC
  have hA0 := hA
  obtain ⟨hx, hb, hml, hown, hts, hEx, hr, hlk, hin, hK, hb0, hbs, hdf, hdl⟩ := hC
  obtain ⟨hRel, hS, hLV, hcl, hsl⟩ := hA
  simp only [gcor, Bool.and_eq_true, Bool.or_eq_true, decide_eq_true_eq, Bool.not_eq_true'] at hcor
  simp only [gstq, gi2, gl2] at hq
  obtain ⟨n, r, K, rfl, rfl, hK1, hm1, hm2, hk⟩ := hq
  obtain ⟨⟨hnx, rfl⟩, hcor⟩ := hcor
  cases re <;> first | (exact absurd hcor Bool.false_ne_true) | skip
  have hN : (Int32.ofNat K).toNatClampNeg = K := nI_clamp (n := K) (by omega)
  have hn0 : ¬ Int32.ofNat K < 0 := nI_pos (n := K) (by omega)
  have hsz : H.size = b + gsz σ := hRel.2.1
  have hgv : gv b0 b (.ref (gsz σ + 2)) = .ref H.size := by
    rw [gv_2 (by omega), hsz]
    rfl
  refine W.anew hx hb hown (hts _ (gw_mem hcor)) (va_AO.use hEx.2) rfl hdg rfl hn0 (by rw [hN]; omega) (by omega) (by rw [hN]; omega) fun cA kA comp f1 f2 f3 f4 => ?_
  rw [hN]
  obtain ⟨kA', comp', -, -, -, f1'⟩ := (hK.2 2 _ rfl).2
  have hcM : cA = G.2.2 := Option.some.inj (f1.symm.trans f1')
  subst hcM
  generalize hH1 : H.push ({ cls := G.2.2, slots := Array.replicate K .null, vm := .none } : Cell) = H1
  have z1 : H1.size = H.size + 1 := by rw [← hH1, Array.size_push]
  have e1 : H1[H.size]? = some (arrV G.2.2 K (fun _ => .null)) := by rw [← hH1, Array.getElem?_push_size, ← arrV_new]
  have o1 : ∀ q : Nat, q < H.size → H1[q]? = H[q]? := fun q hq => by rw [← hH1, Array.getElem?_push, if_neg (Nat.ne_of_lt hq)]
  have key := hk y l p e R s m args below meth c b0 b D G L H1 locs (cells + 1) (slots + K) lsR (pc + 3) hy rfl hC0 ⟨gRel.new hb0 hRel z1 o1 (gcell_arr (k := 2) (n := K) gsh_new (by omega)) ?_, gS_new hS z1 o1, hLV, by omega, by omega⟩ (gpc_nx hnx)
  · have key : W p l e R s m args below meth c H1 locs (cells + 1) (slots + K) _ (F0 m (pc + 3) lsR (gv b0 b (.ref (gsz σ + 2)) :: r.map (gv b0 b))) := key
    rw [hgv] at key
    exact key
  · show H1[H.size]? = some (vp_cell G.2.2 (K, .inr (.inr (.inr (.inr (fun j => gm b0 b (grf _ _ j)))))))
    rw [grf_new, e1]
    rfl
set_option maxHeartbeats 1000000 in
theorem g_objInit {M : gT} {N : gN} {nM : Nat} (hO : gOK M N nM) : gGoal M N nM (.monitorexit) := by
  intro y l p e R s m args below meth c b0 b D G L H locs cells slots lsR pc d mc ms i ls st σ Q hq hy hc hC hA hpc
  obtain ⟨len, re, pl, hdg, hcor⟩ := hO.at hy hc hpc
  have hC0 := hC
  have hA0 := hA
  obtain ⟨hx, hb, hml, hown, hts, hEx, hr, hlk, hin, hK, hb0, hbs, hdf, hdl⟩ := hC
  obtain ⟨hRel, hS, hLV, hcl, hsl⟩ := hA
  simp only [gcor, Bool.and_eq_true, Bool.or_eq_true, decide_eq_true_eq, Bool.not_eq_true'] at hcor
  simp only [gstq, gi2, gl2] at hq
  obtain ⟨a, r, rfl, hsh, hd1, hcat, hk⟩ := hq
  obtain ⟨⟨hnx, rfl⟩, hcor⟩ := hcor
  cases re <;> first | (exact absurd hcor Bool.false_ne_true) | skip
  obtain ⟨ha2, haz⟩ := hRel.2.2.1.obj rfl hsh
  have key := hk y l p e R s m args below meth c b0 b D G L H locs cells slots lsR (pc + 3) hy rfl hC0 hA0 (gpc_nx hnx)
  show W p l e R s m args below meth c H locs cells slots _ (F0 m pc lsR (gv b0 b (.ref a) :: r.map (gv b0 b)))
  rw [gv_2 ha2]
  refine W.objInit hx hb hown (hts _ (gw_mem hcor)) (hts _ hO.2.2.2.1) (hts _ hO.2.2.2.2.1) rfl (by rw [hml]; exact hLV.1.1) rfl hdg (by omega) ?_ key
  have hc2 : ((r.map (gv b0 b)).map fun v => v.category).sum = gcat r := by
    rw [List.map_map]
    rw [gcat]
    congr 1
    apply List.map_congr_left
    intro v _
    exact gv_catE b0 b v
  show 2 * 0 + ((r.map (gv b0 b)).map fun v => v.category).sum + 12 ≤ R.locals
  rw [hc2]
  omega
set_option maxHeartbeats 1000000 in
theorem g_tsw {M : gT} {N : gN} {nM : Nat} (hO : gOK M N nM) (df lo hi : Int) (os : Array Int) : gGoal M N nM (.tableswitch df lo hi os) := by
  intro y l p e R s m args below meth c b0 b D G L H locs cells slots lsR pc d mc ms i ls st σ Q hq hy hc hC hA hpc
  obtain ⟨len, re, pl, hdg, hcor⟩ := hO.at hy hc hpc
  have hC0 := hC
  have hA0 := hA
  obtain ⟨hx, hb, hml, hown, hts, hEx, hr, hlk, hin, hK, hb0, hbs, hdf, hdl⟩ := hC
  obtain ⟨hRel, hS, hLV, hcl, hsl⟩ := hA
  simp only [gcor, Bool.and_eq_true, Bool.or_eq_true, decide_eq_true_eq, Bool.not_eq_true'] at hcor
  simp only [gstq, gi2, gl2] at hq
  obtain ⟨x, r, rfl, hk⟩ := hq
  cases re <;> first | (exact absurd hcor Bool.false_ne_true) | skip
  simp only [Bool.and_eq_true, decide_eq_true_eq, List.all_eq_true, List.mem_range] at hcor
  obtain ⟨⟨⟨⟨⟨rfl, rfl⟩, hdf2⟩, hsz1⟩, hsz2⟩, hall⟩ := hcor
  rename_i df2 lo hi os2
  by_cases hout : x.toInt < lo ∨ hi < x.toInt
  · obtain ⟨k, hk1, hk2⟩ := gpc_nat hdf2
    have e9 : gtab df lo hi os x = df.toNat := if_pos hout
    rw [e9] at hk
    exact lv_tableOut hx hb hdg hout hk1 (hk y l p e R s m args below meth c b0 b D G L H locs cells slots lsR k hy rfl hC0 hA0 hk2)
  · have h1 : ¬ x.toInt < lo := fun q => hout (Or.inl q)
    have h2 : ¬ hi < x.toInt := fun q => hout (Or.inr q)
    have hlt : (x.toInt - lo).toNat < os.size := by omega
    obtain ⟨k, hk1, hk2⟩ := gpc_nat (hall _ hlt)
    have e9 : gtab df lo hi os x = (os.getD (x.toInt - lo).toNat df).toNat := if_neg hout
    rw [e9] at hk
    exact lv_tableIn hx hb hdg h1 h2 (off := os2.getD (x.toInt - lo).toNat df2) (by
      have : (x.toInt - lo).toNat < os2.size := by omega
      simp [Array.getD, this]) hk1 (hk y l p e R s m args below meth c b0 b D G L H locs cells slots lsR k hy rfl hC0 hA0 hk2)
theorem glook_off {q : gQ} {pc : Int} {df df2 : Int} (hd : gpc q df = some (pc + df2)) (x : Int) : ∀ (l1 l2 : List (Int × Int)), l1.map (fun z => (z.1, gpc q z.2)) = l2.map (fun z => (z.1, some (pc + z.2))) → gpc q (Op.lookupswitch.offset l1 df x) = some (pc + Op.lookupswitch.offset l2 df2 x)
  | [], [], _ => hd
  | [], _ :: _, h => by simp at h
  | _ :: _, [], h => by simp at h
  | (a, o) :: r1, (a2, o2) :: r2, h => by
    simp only [List.map_cons, List.cons.injEq, Prod.mk.injEq] at h
    obtain ⟨⟨rfl, h2⟩, h3⟩ := h
    have ih := glook_off hd x r1 r2 h3
    unfold Op.lookupswitch.offset
    by_cases hx : x = a
    · simp [hx]
      exact h2
    · by_cases hx2 : a = x
      · exact absurd hx2.symm hx
      · simp [hx, hx2]
        exact ih
set_option maxHeartbeats 1000000 in
theorem g_lsw {M : gT} {N : gN} {nM : Nat} (hO : gOK M N nM) (df : Int) (ps : Array (Int × Int)) : gGoal M N nM (.lookupswitch df ps) := by
  intro y l p e R s m args below meth c b0 b D G L H locs cells slots lsR pc d mc ms i ls st σ Q hq hy hc hC hA hpc
  obtain ⟨len, re, pl, hdg, hcor⟩ := hO.at hy hc hpc
  have hC0 := hC
  have hA0 := hA
  obtain ⟨hx, hb, hml, hown, hts, hEx, hr, hlk, hin, hK, hb0, hbs, hdf, hdl⟩ := hC
  obtain ⟨hRel, hS, hLV, hcl, hsl⟩ := hA
  simp only [gcor, Bool.and_eq_true, Bool.or_eq_true, decide_eq_true_eq, Bool.not_eq_true'] at hcor
  simp only [gstq, gi2, gl2] at hq
  obtain ⟨x, r, rfl, hk⟩ := hq
  cases re <;> first | (exact absurd hcor Bool.false_ne_true) | skip
  simp only [Bool.and_eq_true, decide_eq_true_eq] at hcor
  obtain ⟨⟨hdf2, hsrt⟩, hps⟩ := hcor
  obtain ⟨k, hk1, hk2⟩ := gpc_nat (glook_off hdf2 x.toInt _ _ hps)
  exact lv_lookup hx hb hdg hsrt rfl hk1 (hk y l p e R s m args below meth c b0 b D G L H locs cells slots lsR k hy rfl hC0 hA0 hk2)
