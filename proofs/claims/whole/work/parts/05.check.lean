/-! LOCALS, AND THE CHECK THAT AN ABSTRACT CODE IS A METHOD'S BYTECODE -/
def gLV (b0 b nL : Nat) (ls : List Value) (lsR : Array Slot) : Prop := lv_has lsR nL [] ∧ ls.length = nL ∧ ∀ (j : Nat) (v : Value), ls[j]? = some v → v ≠ .null → lsR[j]? = some (.val (gv b0 b v))
def gasc (b0 b : Nat) (ls : List Value) : List (Nat × Value) := (List.range ls.length).filterMap (fun (j : Nat) => match ls[j]? with
  | some (Value.null) => none
  | some v => some (j, gv b0 b v)
  | none => none)
theorem gasc_mem {b0 b : Nat} {ls : List Value} {q : Nat × Value} : q ∈ gasc b0 b ls ↔ ∃ v, ls[q.1]? = some v ∧ v ≠ .null ∧ q.2 = gv b0 b v := by
  simp only [gasc, List.mem_filterMap, List.mem_range]
  constructor
  · rintro ⟨j, hj, h⟩
    cases hv : ls[j]? with
    | none => rw [hv] at h; cases h
    | some v =>
      rw [hv] at h
      cases v <;> first | (cases h; done) | (cases h; exact ⟨_, hv, by simp, rfl⟩)
  · rintro ⟨v, h1, h2, h3⟩
    refine ⟨q.1, (List.getElem?_eq_some_iff.mp h1).1, ?_⟩
    rw [h1]
    obtain ⟨q1, q2⟩ := q
    cases v <;> first | (exact absurd rfl h2) | (simp only at h3; rw [h3])
theorem gLV.has {b0 b nL : Nat} {ls : List Value} {lsR : Array Slot} (h : gLV b0 b nL ls lsR) : lv_has lsR nL (gasc b0 b ls) := by
  refine ⟨h.1.1, h.1.2.1, fun q hq => ?_⟩
  obtain ⟨v, h1, h2, h3⟩ := gasc_mem.mp hq
  rw [h3]
  exact h.2.2 q.1 v h1 h2
theorem gv_cat {b0 b : Nat} {v : Value} (h : (gv b0 b v).category = 2) : (∃ x, v = .long x) ∨ ∃ x, v = .double x := by
  cases v with
  | ref a =>
    exfalso
    revert h
    show ¬ (va_rf (gm b0 b a)).category = 2
    cases gm b0 b a <;> simp [va_rf, Value.category]
  | long x => exact Or.inl ⟨x, rfl⟩
  | double x => exact Or.inr ⟨x, rfl⟩
  | _ => simp [gv, Value.category] at h
theorem gok_ne {ls : List Value} {k j : Nat} {v : Value} (h : gok ls k = true) (hj : j + 1 = k) (hv : ls[j]? = some v) (b0 b : Nat) : ¬ (gv b0 b v).category = 2 := by
  intro hc
  subst hj
  rcases gv_cat hc with ⟨x, rfl⟩ | ⟨x, rfl⟩ <;> simp [gok, hv] at h
theorem gLV.store1 {b0 b nL k : Nat} {ls : List Value} {ls' : Array Slot} {v : Value} (hlen : ls.length = nL) (hok : gok ls k = true) (hk : k < nL)
    (h : lv_has ls' nL ((k, gv b0 b v) :: (gasc b0 b ls).filter (fun q => !(q.1 == k) && !(q.1 + 1 == k && q.2.category == 2)))) : gLV b0 b nL (ls.set k v) ls' := by
  refine ⟨⟨h.1, h.2.1, fun q hq => by cases hq⟩, by rw [List.length_set]; exact hlen, fun j w hw hn => ?_⟩
  by_cases hj : j = k
  · subst hj
    rw [List.getElem?_set_self (by omega)] at hw
    cases hw
    exact h.2.2 (j, gv b0 b v) List.mem_cons_self
  · rw [List.getElem?_set_ne (fun q => hj q.symm)] at hw
    refine h.2.2 (j, gv b0 b w) (List.mem_cons_of_mem _ (List.mem_filter.mpr ⟨gasc_mem.mpr ⟨w, hw, hn, rfl⟩, ?_⟩))
    simp only [Bool.and_eq_true, Bool.not_eq_true', beq_eq_false_iff_ne, ne_eq, Bool.and_eq_false_iff]
    refine ⟨hj, ?_⟩
    by_cases h1 : j + 1 = k
    · exact Or.inr (gok_ne hok h1 hw b0 b)
    · exact Or.inl h1
theorem gLV.store2 {b0 b nL k : Nat} {ls : List Value} {ls' : Array Slot} {v : Value} (hlen : ls.length = nL) (hok : gok ls k = true) (hk : k + 1 < nL)
    (h : lv_has ls' nL ((k, gv b0 b v) :: (gasc b0 b ls).filter (fun q => !(q.1 == k) && (!(q.1 == k + 1) && !(q.1 + 1 == k && q.2.category == 2))))) : gLV b0 b nL ((ls.set k v).set (k + 1) .null) ls' := by
  refine ⟨⟨h.1, h.2.1, fun q hq => by cases hq⟩, by rw [List.length_set, List.length_set]; exact hlen, fun j w hw hn => ?_⟩
  by_cases hj1 : j = k + 1
  · subst hj1
    rw [List.getElem?_set_self (by rw [List.length_set]; omega)] at hw
    cases hw
    exact absurd rfl hn
  · rw [List.getElem?_set_ne (fun q => hj1 q.symm)] at hw
    by_cases hj : j = k
    · subst hj
      rw [List.getElem?_set_self (by omega)] at hw
      cases hw
      exact h.2.2 (j, gv b0 b v) List.mem_cons_self
    · rw [List.getElem?_set_ne (fun q => hj q.symm)] at hw
      refine h.2.2 (j, gv b0 b w) (List.mem_cons_of_mem _ (List.mem_filter.mpr ⟨gasc_mem.mpr ⟨w, hw, hn, rfl⟩, ?_⟩))
      simp only [Bool.and_eq_true, Bool.not_eq_true', beq_eq_false_iff_ne, ne_eq, Bool.and_eq_false_iff]
      refine ⟨hj, hj1, ?_⟩
      by_cases h1 : j + 1 = k
      · exact Or.inr (gok_ne hok h1 hw b0 b)
      · exact Or.inl h1
theorem gv_catE (b0 b : Nat) (v : Value) : (gv b0 b v).category = v.category := by
  cases v with
  | ref a =>
    show (va_rf (gm b0 b a)).category = _
    cases gm b0 b a <;> simp [va_rf, Value.category]
  | _ => rfl
/-- at a method's entry -/
theorem glay_args {b0 b : Nat} : ∀ (as : List Value) (i : Nat) (j : Nat) (v : Value), (∀ x, .double x ∉ as) → (glay as)[j]? = some v → v ≠ .null → (i + j, gv b0 b v) ∈ lv_args i (as.map (gv b0 b))
  | [], i, j, v, _, h, _ => by simp [glay] at h
  | w :: r, i, j, v, hd, h, hn => by
    have hd' : ∀ x, Value.double x ∉ r := fun x q => hd x (List.mem_cons_of_mem _ q)
    show (i + j, gv b0 b v) ∈ (i, gv b0 b w) :: lv_args (if (gv b0 b w).category = 2 then i + 2 else i + 1) (r.map (gv b0 b))
    rw [gv_catE]
    by_cases hl : ∃ x, w = .long x
    · obtain ⟨x, rfl⟩ := hl
      rw [if_pos (show (Value.long x).category = 2 from rfl)]
      match j, h with
      | 0, h =>
        cases h
        exact List.mem_cons_self
      | 1, h =>
        cases h
        exact absurd rfl hn
      | j + 2, h =>
        have := glay_args (b0 := b0) (b := b) r (i + 2) j v hd' h hn
        rw [show i + (j + 2) = i + 2 + j by omega]
        exact List.mem_cons_of_mem _ this
    · have e : glay (w :: r) = w :: glay r := by
        cases w <;> first | rfl | (exact absurd ⟨_, rfl⟩ hl)
      have c1 : ¬ w.category = 2 := by
        cases w <;> first | (exact absurd ⟨_, rfl⟩ hl) | (exact absurd List.mem_cons_self (hd _)) | simp [Value.category]
      rw [e] at h
      rw [if_neg c1]
      match j, h with
      | 0, h =>
        cases h
        exact List.mem_cons_self
      | j + 1, h =>
        have := glay_args (b0 := b0) (b := b) r (i + 1) j v hd' h hn
        rw [show i + (j + 1) = i + 1 + j by omega]
        exact List.mem_cons_of_mem _ this
theorem glay_len {b0 b : Nat} : ∀ (as : List Value), (∀ x, .double x ∉ as) → (lg_sl (as.map (gv b0 b))).length = (glay as).length
  | [], _ => rfl
  | w :: r, hd => by
    have ih := glay_len (b0 := b0) (b := b) r (fun x q => hd x (List.mem_cons_of_mem _ q))
    have e : lg_sl ((w :: r).map (gv b0 b)) = (if (gv b0 b w).category = 2 then [.val (gv b0 b w), .second] else [.val (gv b0 b w)]) ++ lg_sl (r.map (gv b0 b)) := rfl
    rw [e, gv_catE, List.length_append, ih]
    cases w with
    | long x => simp [glay, Value.category]; omega
    | double x => exact absurd List.mem_cons_self (hd x)
    | _ => simp [glay, Value.category]; omega
theorem gLV.entry {b0 b n : Nat} {as : List Value} (hd : ∀ x, .double x ∉ as) (h : (glay as).length ≤ n) : gLV b0 b n (gent n as) ((lg_sl (as.map (gv b0 b)) ++ List.replicate (n - (lg_sl (as.map (gv b0 b))).length) Slot.unset).toArray) := by
  have e := lv_entry (as.map (gv b0 b)) (n := n) (by rw [glay_len as hd]; exact h)
  refine ⟨⟨e.1, e.2.1, fun q hq => by cases hq⟩, ?_, fun j v hj hn => ?_⟩
  · rw [gent, List.length_append, List.length_replicate]
    omega
  · rw [gent] at hj
    by_cases hl : j < (glay as).length
    · rw [List.getElem?_append_left hl] at hj
      have := glay_args (b0 := b0) (b := b) as 0 j v hd hj hn
      rw [Nat.zero_add] at this
      exact e.2.2 _ this
    · rw [List.getElem?_append_right (by omega)] at hj
      have := List.mem_of_getElem? hj
      exact absurd (List.eq_of_mem_replicate this) hn
/-! the words -/
def gGw : List Cond := lw_tbl.filter goodWord
def gw (pl : Nat) (w : Cond) : Bool := decide (lw_tbl[pl]? = some w) && goodWord w
theorem gw_mem {pl : Nat} {w : Cond} (h : gw pl w = true) : w ∈ gGw := by
  simp only [gw, Bool.and_eq_true, decide_eq_true_eq] at h
  exact List.mem_filter.mpr ⟨List.mem_of_getElem? h.1, h.2⟩
theorem gGw_good : GoodIn gGw gGw := fun w hw => ⟨hw, good_of_word (List.mem_filter.mp hw).2⟩
/-- pc, length, instruction, place of its word -/
abbrev gQ : Type := List (Nat × Nat × Instr × Nat)
/-- a method's name, bytes, what it returns, its instructions, whether it is static, places of its words: code, initialized, static or instanceMethod, selects -/
abbrev gN : Type := Nat → MethodName × ByteArray × Option FieldType × gQ × Bool × Nat × Nat × Nat × Nat
def gpc (q : gQ) (t : Int) : Option Int := (q[t.toNat]?).map (fun z => (z.1 : Int))
def gTT (x k : Nat) : String × String × String × Bool := ((vwCl[x]?).map (fun r => r.2.1 k)).getD ("", "", "", false)
def gRX (x : Nat) : String := ((vwCl[x]?).map (fun r => r.1)).getD ""
/-- links between nest mates -/
def gnest : List (String × Nat × MethodName × String) := [(RX7, 15, yX1_init, RX7), (RX7, 25, yX4_init, RX7), (RX7, 50, yX2_init, RX7), (RX7, 64, yX3_init, RX7), (RX7, 71, yX6_init, RX7), (RX0, 17, yX4_init, RX7), (RX1, 78, yX7_isKind, RX7), (RX5, 19, yX6_init, RX7), (RX5, 24, yX4_init, RX7)]
def gfl (own : String) (e pl : Nat) (re : Instr) (isPut : Bool) (ini : Bool) (len : Nat) : Bool :=
  decide (e / 64 < 9) && decide (e % 64 < gnf (e / 64)) && decide (len = 3) &&
  match isPut, re with
  | false, .getfield k => gw pl (.fieldLink own k (gTT (e / 64) (e % 64)).1 (gTT (e / 64) (e % 64)).2.1 (gTT (e / 64) (e % 64)).2.2.1)
  | true, .putfield k => gw pl (.fieldLink own k (gTT (e / 64) (e % 64)).1 (gTT (e / 64) (e % 64)).2.1 (gTT (e / 64) (e % 64)).2.2.1) && (decide ((gTT (e / 64) (e % 64)).2.2.2 = false) || (ini && decide ((gTT (e / 64) (e % 64)).1 = own)))
  | _, _ => false
/-- a link to a method: plain, or between nest mates (places from 10000 on) -/
def gml (own : String) (k : Nat) (y : MethodName) (pl : Nat) : Bool :=
  if pl < 10000 then gw pl (.methodLink own k y) else match gnest[pl - 10000]? with
    | some (a, j, z, _) => decide (a = own) && decide (j = k) && decide (z = y)
    | none => false
/-- the abstract instruction ins stands for the instruction re of that length at pc -/
def gcor (N : gN) (nM : Nat) (own : String) (ret : Option FieldType) (ini : Bool) (q : gQ) (i : Nat) (ins : Instr) (pc len : Nat) (re : Instr) (pl : Nat) : Bool :=
  let nx : Bool := decide (gpc q ((i + 1 : Nat) : Int) = some ((pc : Int) + (len : Int)))
  match ins with
  | .iconst n => nx && match re with
    | .iconst k => decide (Int32.ofInt k = Int32.ofInt n) && decide (len = 1)
    | .bipush k => decide ((Int8.ofInt k).toInt32 = Int32.ofInt n) && decide (len = 2)
    | .sipush k => decide ((Int16.ofInt k).toInt32 = Int32.ofInt n) && decide (len = 3)
    | .ldc_w k => gw pl (.constant own k (Int32.ofInt n)) && decide (len = 3)
    | _ => false
  | .ldc2_w n => nx && match re with
    | .lconst k => decide (Int64.ofNat (k : Nat) = Int64.ofNat n) && decide (len = 1)
    | .ldc2_w k => gw pl (.constantLong own k (Int64.ofNat n)) && decide (len = 3)
    | _ => false
  | .iload k => nx && match re with
    | .iload j => decide (j = k) && decide (len = 2)
    | .iload_n j => decide ((j : Nat) = k) && decide (len = 1)
    | _ => false
  | .lload k => nx && match re with
    | .lload j => decide (j = k) && decide (len = 2)
    | .lload_n j => decide ((j : Nat) = k) && decide (len = 1)
    | _ => false
  | .aload k => nx && match re with
    | .aload j => decide (j = k) && decide (len = 2)
    | .aload_n j => decide ((j : Nat) = k) && decide (len = 1)
    | _ => false
  | .istore k => nx && match re with
    | .istore j => decide (j = k) && decide (len = 2)
    | .istore_n j => decide ((j : Nat) = k) && decide (len = 1)
    | _ => false
  | .lstore k => nx && match re with
    | .lstore j => decide (j = k) && decide (len = 2)
    | .lstore_n j => decide ((j : Nat) = k) && decide (len = 1)
    | _ => false
  | .astore k => nx && match re with
    | .astore j => decide (j = k) && decide (len = 2)
    | .astore_n j => decide ((j : Nat) = k) && decide (len = 1)
    | _ => false
  | .iinc k n => nx && decide (re = .iinc k n) && decide (len = 3)
  | .getfield e => nx && gfl own e pl re false ini len && decide (gty (e / 64) (e % 64) = .int)
  | .getstatic e => nx && gfl own e pl re false ini len && gisr (gty (e / 64) (e % 64))
  | .dload e => nx && gfl own e pl re false ini len && decide (gty (e / 64) (e % 64) = .long)
  | .putfield e => nx && gfl own e pl re true ini len && decide (gty (e / 64) (e % 64) = .int)
  | .putstatic e => nx && gfl own e pl re true ini len && gisr (gty (e / 64) (e % 64))
  | .dstore e => nx && gfl own e pl re true ini len && decide (gty (e / 64) (e % 64) = .long)
  | .new e => nx && decide (e / 64 < 9) && decide (e % 64 = gnf (e / 64)) && decide (len = 3) && match re with
    | .new k => gw pl (.classLink own k (gRX (e / 64)))
    | _ => false
  | .newarray t => nx && decide (re = .newarray t) && decide (len = 2) && decide (t = .int ∨ t = .boolean)
  | .anewarray _ => nx && decide (len = 3) && match re with
    | .anewarray k => gw pl (.classLink own k RX4)
    | _ => false
  | .monitorexit => nx && decide (len = 3) && match re with
    | .invokespecial k => gw pl (.methodLink own k objectInit)
    | _ => false
  | .ireturn => decide (re = .ireturn) && decide (len = 1) && decide (ret = some .int)
  | .freturn => decide (re = .ireturn) && decide (len = 1) && decide (ret = some .boolean)
  | .lreturn => decide (re = .lreturn) && decide (len = 1) && decide (ret = some .long)
  | .return_ => decide (re = .return_) && decide (len = 1) && decide (ret = none)
  | .if_icmp c t => nx && match re with
    | .if_icmp c2 o => decide (c2 = c) && decide (len = 3) && decide (gpc q t = some ((pc : Int) + o))
    | _ => false
  | .ifCond c t => nx && match re with
    | .ifCond c2 o => decide (c2 = c) && decide (len = 3) && decide (gpc q t = some ((pc : Int) + o))
    | _ => false
  | .goto t => match re with
    | .goto o => decide (len = 3) && decide (gpc q t = some ((pc : Int) + o))
    | _ => false
  | .tableswitch df lo hi os => match re with
    | .tableswitch df2 lo2 hi2 os2 => decide (lo2 = lo) && decide (hi2 = hi) && decide (gpc q df = some ((pc : Int) + df2)) && decide ((hi - lo + 1).toNat = os.size) && decide (os2.size = os.size) && (List.range os.size).all (fun j => decide (gpc q (os.getD j df) = some ((pc : Int) + os2.getD j df2)))
    | _ => false
  | .lookupswitch df ps => match re with
    | .lookupswitch df2 ps2 => decide (gpc q df = some ((pc : Int) + df2)) && (ps2.toList.zip (ps2.toList.drop 1)).all (fun (a, next) => a.1 < next.1) && decide (ps.toList.map (fun z => (z.1, gpc q z.2)) = ps2.toList.map (fun z => (z.1, some ((pc : Int) + z.2))))
    | _ => false
  | .invokestatic y => nx && decide (len = 3) && decide (0 < y) && decide (y < nM) && (N y).2.2.2.2.1 && match re with
    | .invokestatic k => gml own k (N y).1 pl
    | _ => false
  | .invokevirtual y => nx && decide (len = 3) && decide (0 < y) && decide (y < nM) && !(N y).2.2.2.2.1 && decide (¬ (N y).1.name = "<init>") && match re with
    | .invokevirtual k => gw pl (.methodLink own k (N y).1)
    | _ => false
  | .invokespecial y => nx && decide (len = 3) && decide (0 < y) && decide (y < nM) && !(N y).2.2.2.2.1 && decide ((N y).1.name = "<init>") && match re with
    | .invokespecial k => gml own k (N y).1 pl
    | _ => false
  | .iadd => nx && decide (re = .iadd) && decide (len = 1)
  | .isub => nx && decide (re = .isub) && decide (len = 1)
  | .imul => nx && decide (re = .imul) && decide (len = 1)
  | .iand => nx && decide (re = .iand) && decide (len = 1)
  | .ior => nx && decide (re = .ior) && decide (len = 1)
  | .ixor => nx && decide (re = .ixor) && decide (len = 1)
  | .ishl => nx && decide (re = .ishl) && decide (len = 1)
  | .ishr => nx && decide (re = .ishr) && decide (len = 1)
  | .iushr => nx && decide (re = .iushr) && decide (len = 1)
  | .idiv => nx && decide (re = .idiv) && decide (len = 1)
  | .irem => nx && decide (re = .irem) && decide (len = 1)
  | .ineg => nx && decide (re = .ineg) && decide (len = 1)
  | .ladd => nx && decide (re = .ladd) && decide (len = 1)
  | .lmul => nx && decide (re = .lmul) && decide (len = 1)
  | .land => nx && decide (re = .land) && decide (len = 1)
  | .lor => nx && decide (re = .lor) && decide (len = 1)
  | .lrem => nx && decide (re = .lrem) && decide (len = 1)
  | .lushr => nx && decide (re = .lushr) && decide (len = 1)
  | .lshl => nx && decide (re = .lshl) && decide (len = 1)
  | .lcmp => nx && decide (re = .lcmp) && decide (len = 1)
  | .i2l => nx && decide (re = .i2l) && decide (len = 1)
  | .l2i => nx && decide (re = .l2i) && decide (len = 1)
  | .dup => nx && decide (re = .dup) && decide (len = 1)
  | .dup2 => nx && decide (re = .dup2) && decide (len = 1)
  | .pop => nx && decide (re = .pop) && decide (len = 1)
  | .iaload => nx && decide (re = .iaload) && decide (len = 1)
  | .iastore => nx && decide (re = .iastore) && decide (len = 1)
  | .baload => nx && decide (re = .baload) && decide (len = 1)
  | .bastore => nx && decide (re = .bastore) && decide (len = 1)
  | .aaload => nx && decide (re = .aaload) && decide (len = 1)
  | .aastore => nx && decide (re = .aastore) && decide (len = 1)
  | .arraylength => nx && decide (re = .arraylength) && decide (len = 1)
  | _ => false
/-- of an instruction: it is as it is decoded, and as it stands for -/
def gitem (N : gN) (nM : Nat) (C : List Instr) (y i : Nat) : Bool := match C[i]?, (N y).2.2.2.1[i]? with
  | some ins, some z => decide (decode (N y).2.1 z.1 = .ok (z.2.2.1, z.2.1)) && gcor N nM (N y).1.cls (N y).2.2.1 (decide ((N y).1.name = "<init>")) (N y).2.2.2.1 i ins z.1 z.2.1 z.2.2.1 z.2.2.2
  | _, _ => false
/-- some instructions -/
def gpiece (N : gN) (nM : Nat) (C : List Instr) (y lo n : Nat) : Bool := (List.range n).all (fun i => gitem N nM C y (lo + i))
theorem gpiece_add {N : gN} {nM : Nat} {C : List Instr} {y lo n m : Nat} (h1 : gpiece N nM C y lo n = true) (h2 : gpiece N nM C y (lo + n) m = true) : gpiece N nM C y lo (n + m) = true := by
  simp only [gpiece, List.all_eq_true, List.mem_range] at *
  intro i hi
  by_cases h : i < n
  · exact h1 i h
  · have := h2 (i - n) (by omega)
    rwa [show lo + n + (i - n) = lo + i by omega] at this
/-- of a whole code -/
def gchk (N : gN) (nM : Nat) (C : List Instr) (y : Nat) : Bool := decide (gpc (N y).2.2.2.1 0 = some 0) && gpiece N nM C y 0 C.length
/-- of a method that is called: its words -/
def ghd (M : gT) (N : gN) (y : Nat) : Bool :=
  gw (N y).2.2.2.2.2.1 (.code (N y).1 (N y).2.1 (M y).2.1 (N y).2.2.1) && gw (N y).2.2.2.2.2.2.1 (.initialized (N y).1.cls) &&
  (if (N y).2.2.2.2.1 then gw (N y).2.2.2.2.2.2.2.1 (.static (N y).1) && decide ((parseMethodDescriptor (N y).1.desc).map (fun d => d.parameters.length) = some (M y).2.2.1)
   else gw (N y).2.2.2.2.2.2.2.1 (.instanceMethod (N y).1) && decide ((parseMethodDescriptor (N y).1.desc).map (fun d => d.parameters.length + 1) = some (M y).2.2.1) && decide ((M y).2.2.2.1 < 9) && decide (gRX (M y).2.2.2.1 = (N y).1.cls) &&
     (if (N y).1.name = "<init>" then decide ((N y).2.2.1 = none) else gw (N y).2.2.2.2.2.2.2.2 (.selects (N y).1.cls (N y).1 (N y).1))) &&
  decide ((N y).1.cls ≠ "java/lang/invoke/MethodHandle" ∧ (N y).1.cls ≠ "java/lang/invoke/VarHandle") && plainFor (N y).1 && decide ((M y).2.1 ≤ 40)
