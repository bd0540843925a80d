/-! AN ABSTRACT MACHINE: cells by number (0: null, 1: the script, 2 and on: what was made), a shape each, and three maps of what they hold. 'gW' is the least predicate that is closed under its steps; part 05 shows that it is sound for the machine itself. -/
abbrev gS : Type := (Nat × (Nat → Nat)) × (Nat → Nat → Nat) × (Nat → Nat → Int32) × (Nat → Nat → Int64)
def gsz (σ : gS) : Nat := σ.1.1
def gsh (σ : gS) : Nat → Nat := σ.1.2
def grf (σ : gS) : Nat → Nat → Nat := σ.2.1
def git (σ : gS) : Nat → Nat → Int32 := σ.2.2.1
def glg (σ : gS) : Nat → Nat → Int64 := σ.2.2.2
def gu2 {α : Type} (f : Nat → Nat → α) (a j : Nat) (v : α) : Nat → Nat → α := fun a' j' => if a' = a ∧ j' = j then v else f a' j'
def gsI (σ : gS) (a j : Nat) (v : Int32) : gS := (σ.1, σ.2.1, gu2 σ.2.2.1 a j v, σ.2.2.2)
def gsL (σ : gS) (a j : Nat) (v : Int64) : gS := (σ.1, σ.2.1, σ.2.2.1, gu2 σ.2.2.2 a j v)
def gsR (σ : gS) (a j : Nat) (v : Nat) : gS := (σ.1, gu2 σ.2.1 a j v, σ.2.2.1, σ.2.2.2)
def gz1 {α : Type} (f : Nat → Nat → α) (a : Nat) (z : α) : Nat → Nat → α := fun a' j' => if a' = a then z else f a' j'
/-- a new cell of shape x: its number is gsz σ + 2, all that it holds is 0 -/
def gnw (σ : gS) (x : Nat) : gS := ((σ.1.1 + 1, fun a => if a = σ.1.1 + 2 then x else σ.1.2 a), gz1 σ.2.1 (σ.1.1 + 2) 0, gz1 σ.2.2.1 (σ.1.1 + 2) 0, gz1 σ.2.2.2 (σ.1.1 + 2) 0)
abbrev gP : Type := Option Value → gS → Prop
/-- a method: code, locals, arguments, class of its receiver, cells and slots that it makes at most -/
abbrev gI : Type := List Instr × Nat × Nat × Nat × Nat × Nat
abbrev gT : Type := Nat → gI
abbrev gK : Type := Nat → Nat → Nat → List Instr → Nat → List Value → List Value → gS → gP → Prop
def glay : List Value → List Value
  | [] => []
  | .long x :: r => .long x :: .null :: glay r
  | v :: r => v :: glay r
def gent (n : Nat) (as : List Value) : List Value := glay as ++ List.replicate (n - (glay as).length) .null
def gok (ls : List Value) (k : Nat) : Bool := match k with
  | 0 => true
  | k + 1 => match ls[k]? with
    | some (.long _) => false
    | some (.double _) => false
    | _ => true
def gcn (c : ClassFile.Cond) (x y : Int32) : Prop := match c with
  | .eq => x = y
  | .ne => ¬ x = y
  | .lt => x < y
  | .ge => y ≤ x
  | .gt => y < x
  | .le => x ≤ y
def gcat (r : List Value) : Nat := (r.map fun v => v.category).sum
def gtab (df lo hi : Int) (os : Array Int) (x : Int32) : Nat := if x.toInt < lo ∨ hi < x.toInt then df.toNat else (os.getD (x.toInt - lo).toNat df).toNat
def glook (df : Int) (ps : Array (Int × Int)) (x : Int32) : Nat := (Op.lookupswitch.offset ps.toList df x.toInt).toNat
def gkd (t : ArrayType) : Nat := match t with
  | .int => 0
  | .boolean => 1
  | _ => 3
def gi2 (K : gK) (f : Int32 → Int32 → Int32) (d mc ms : Nat) (C : List Instr) (i : Nat) (ls st : List Value) (σ : gS) (Q : gP) : Prop :=
  ∃ x y r, st = .int y :: .int x :: r ∧ K d mc ms C (i + 1) ls (.int (f x y) :: r) σ Q
def gl2 (K : gK) (f : Int64 → Int64 → Int64) (d mc ms : Nat) (C : List Instr) (i : Nat) (ls st : List Value) (σ : gS) (Q : gP) : Prop :=
  ∃ x y r, st = .long y :: .long x :: r ∧ K d mc ms C (i + 1) ls (.long (f x y) :: r) σ Q
def glaz (n : Nat) (as : List Value) : Bool := decide ((glay as).length ≤ n) && as.all (fun v => match v with
  | .double _ => false
  | _ => true)
/-- a call of method y with the arguments as, r below them -/
def gcal (M : gT) (K : gK) (y : Nat) (as r : List Value) (d mc ms : Nat) (C : List Instr) (i : Nat) (ls : List Value) (σ : gS) (Q : gP) : Prop :=
  (as.length = (M y).2.2.1 ∧ glaz (M y).2.1 as = true) ∧ gcat r ≤ 8 ∧ (M y).2.2.2.2.1 ≤ mc ∧ (M y).2.2.2.2.2 ≤ ms ∧ ∃ d' Q1, d = d' + 1 ∧
    K d' (M y).2.2.2.2.1 (M y).2.2.2.2.2 (M y).1 0 (gent (M y).2.1 as) [] σ Q1 ∧ ∀ v σ', Q1 v σ' → K d (mc - (M y).2.2.2.2.1) (ms - (M y).2.2.2.2.2) C (i + 1) ls (v.toList ++ r) σ' Q
def gstq (M : gT) (K : gK) (ins : Instr) (d mc ms : Nat) (C : List Instr) (i : Nat) (ls st : List Value) (σ : gS) (Q : gP) : Prop := match ins with
  | .iconst n => K d mc ms C (i + 1) ls (.int (Int32.ofInt n) :: st) σ Q
  | .ldc2_w n => K d mc ms C (i + 1) ls (.long (Int64.ofNat n) :: st) σ Q
  | .iload k => ∃ x, ls[k]? = some (.int x) ∧ K d mc ms C (i + 1) ls (.int x :: st) σ Q
  | .lload k => ∃ x, ls[k]? = some (.long x) ∧ K d mc ms C (i + 1) ls (.long x :: st) σ Q
  | .aload k => ∃ x, ls[k]? = some (.ref x) ∧ K d mc ms C (i + 1) ls (.ref x :: st) σ Q
  | .istore k => ∃ x r, st = .int x :: r ∧ gok ls k = true ∧ k < ls.length ∧ K d mc ms C (i + 1) (ls.set k (.int x)) r σ Q
  | .astore k => ∃ x r, st = .ref x :: r ∧ gok ls k = true ∧ k < ls.length ∧ K d mc ms C (i + 1) (ls.set k (.ref x)) r σ Q
  | .lstore k => ∃ x r, st = .long x :: r ∧ gok ls k = true ∧ k + 1 < ls.length ∧ K d mc ms C (i + 1) ((ls.set k (.long x)).set (k + 1) .null) r σ Q
  | .iinc k n => ∃ x, ls[k]? = some (.int x) ∧ gok ls k = true ∧ K d mc ms C (i + 1) (ls.set k (.int (x + Int32.ofInt n))) st σ Q
  | .getfield e => ∃ a r, st = .ref a :: r ∧ gsh σ a = e / 64 ∧ K d mc ms C (i + 1) ls (.int (git σ a (e % 64)) :: r) σ Q
  | .getstatic e => ∃ a r, st = .ref a :: r ∧ gsh σ a = e / 64 ∧ K d mc ms C (i + 1) ls (.ref (grf σ a (e % 64)) :: r) σ Q
  | .dload e => ∃ a r, st = .ref a :: r ∧ gsh σ a = e / 64 ∧ K d mc ms C (i + 1) ls (.long (glg σ a (e % 64)) :: r) σ Q
  | .putfield e => ∃ x a r, st = .int x :: .ref a :: r ∧ gsh σ a = e / 64 ∧ K d mc ms C (i + 1) ls r (gsI σ a (e % 64) x) Q
  | .putstatic e => ∃ x a r, st = .ref x :: .ref a :: r ∧ gsh σ a = e / 64 ∧ K d mc ms C (i + 1) ls r (gsR σ a (e % 64) x) Q
  | .dstore e => ∃ x a r, st = .long x :: .ref a :: r ∧ gsh σ a = e / 64 ∧ K d mc ms C (i + 1) ls r (gsL σ a (e % 64) x) Q
  | .iaload => ∃ j a r n, st = .int j :: .ref a :: r ∧ gsh σ a = 100 + 3 * n ∧ vp_in j n ∧ K d mc ms C (i + 1) ls (.int (git σ a j.toNatClampNeg) :: r) σ Q
  | .baload => ∃ j a r n, st = .int j :: .ref a :: r ∧ gsh σ a = 101 + 3 * n ∧ vp_in j n ∧ K d mc ms C (i + 1) ls (.int (git σ a j.toNatClampNeg) :: r) σ Q
  | .aaload => ∃ j a r n, st = .int j :: .ref a :: r ∧ gsh σ a = 102 + 3 * n ∧ vp_in j n ∧ K d mc ms C (i + 1) ls (.ref (grf σ a j.toNatClampNeg) :: r) σ Q
  | .iastore => ∃ x j a r n, st = .int x :: .int j :: .ref a :: r ∧ gsh σ a = 100 + 3 * n ∧ a ≠ 1 ∧ vp_in j n ∧ K d mc ms C (i + 1) ls r (gsI σ a j.toNatClampNeg x) Q
  | .bastore => ∃ x j a r n, st = .int x :: .int j :: .ref a :: r ∧ gsh σ a = 101 + 3 * n ∧ (x = 0 ∨ x = 1) ∧ vp_in j n ∧ K d mc ms C (i + 1) ls r (gsI σ a j.toNatClampNeg x) Q
  | .aastore => ∃ x j a r n, st = .ref x :: .int j :: .ref a :: r ∧ gsh σ a = 102 + 3 * n ∧ gsh σ x = 4 ∧ vp_in j n ∧ K d mc ms C (i + 1) ls r (gsR σ a j.toNatClampNeg x) Q
  | .arraylength => ∃ a r n k, st = .ref a :: r ∧ gsh σ a = 100 + k + 3 * n ∧ k < 3 ∧ K d mc ms C (i + 1) ls (.int (Int32.ofNat n) :: r) σ Q
  | .new e => 1 ≤ mc ∧ e % 64 ≤ ms ∧ K d (mc - 1) (ms - e % 64) C (i + 1) ls (.ref (gsz σ + 2) :: st) (gnw σ (e / 64)) Q
  | .newarray t => ∃ n r N, st = .int n :: r ∧ n = Int32.ofNat N ∧ N ≤ 1000 ∧ gkd t < 3 ∧ 1 ≤ mc ∧ N ≤ ms ∧ K d (mc - 1) (ms - N) C (i + 1) ls (.ref (gsz σ + 2) :: r) (gnw σ (100 + gkd t + 3 * N)) Q
  | .anewarray _ => ∃ n r N, st = .int n :: r ∧ n = Int32.ofNat N ∧ N ≤ 1000 ∧ 1 ≤ mc ∧ N ≤ ms ∧ K d (mc - 1) (ms - N) C (i + 1) ls (.ref (gsz σ + 2) :: r) (gnw σ (102 + 3 * N)) Q
  | .monitorexit => ∃ a r, st = .ref a :: r ∧ gsh σ a < 99 ∧ 1 ≤ d ∧ gcat r ≤ 8 ∧ K d mc ms C (i + 1) ls r σ Q
  | .iadd => gi2 K (fun x y => x + y) d mc ms C i ls st σ Q
  | .isub => gi2 K (fun x y => x - y) d mc ms C i ls st σ Q
  | .imul => gi2 K (fun x y => x * y) d mc ms C i ls st σ Q
  | .iand => gi2 K (fun x y => x &&& y) d mc ms C i ls st σ Q
  | .ior => gi2 K (fun x y => x ||| y) d mc ms C i ls st σ Q
  | .ixor => gi2 K (fun x y => x ^^^ y) d mc ms C i ls st σ Q
  | .ishl => gi2 K (fun x y => x <<< (y &&& 31)) d mc ms C i ls st σ Q
  | .ishr => gi2 K (fun x y => x >>> (y &&& 31)) d mc ms C i ls st σ Q
  | .iushr => gi2 K (fun x y => (x.toUInt32 >>> (y.toUInt32 &&& Int32.toUInt32 31)).toInt32) d mc ms C i ls st σ Q
  | .idiv => ∃ x y r, st = .int y :: .int x :: r ∧ ¬ y = 0 ∧ K d mc ms C (i + 1) ls (.int (x / y) :: r) σ Q
  | .irem => ∃ x y r, st = .int y :: .int x :: r ∧ ¬ y = 0 ∧ K d mc ms C (i + 1) ls (.int (x - x / y * y) :: r) σ Q
  | .ineg => ∃ x r, st = .int x :: r ∧ K d mc ms C (i + 1) ls (.int (-x) :: r) σ Q
  | .ladd => gl2 K (fun x y => x + y) d mc ms C i ls st σ Q
  | .lmul => gl2 K (fun x y => x * y) d mc ms C i ls st σ Q
  | .land => gl2 K (fun x y => x &&& y) d mc ms C i ls st σ Q
  | .lor => gl2 K (fun x y => x ||| y) d mc ms C i ls st σ Q
  | .lrem => ∃ x y r, st = .long y :: .long x :: r ∧ ¬ y = 0 ∧ K d mc ms C (i + 1) ls (.long (x - x / y * y) :: r) σ Q
  | .lushr => ∃ x y r, st = .int y :: .long x :: r ∧ K d mc ms C (i + 1) ls (.long (x.toUInt64 >>> (y.toInt64.toUInt64 &&& Int64.toUInt64 63)).toInt64 :: r) σ Q
  | .lshl => ∃ x y r, st = .int y :: .long x :: r ∧ K d mc ms C (i + 1) ls (.long (x <<< (y.toInt64 &&& 63)) :: r) σ Q
  | .lcmp => ∃ x y r, st = .long y :: .long x :: r ∧ K d mc ms C (i + 1) ls (.int (lg_cmp x y) :: r) σ Q
  | .i2l => ∃ x r, st = .int x :: r ∧ K d mc ms C (i + 1) ls (.long x.toInt64 :: r) σ Q
  | .l2i => ∃ x r, st = .long x :: r ∧ K d mc ms C (i + 1) ls (.int x.toInt32 :: r) σ Q
  | .dup => ∃ v r, st = v :: r ∧ v.category = 1 ∧ K d mc ms C (i + 1) ls (v :: v :: r) σ Q
  | .dup2 => ∃ v w r, st = v :: w :: r ∧ v.category = 1 ∧ w.category = 1 ∧ K d mc ms C (i + 1) ls (v :: w :: v :: w :: r) σ Q
  | .pop => ∃ v r, st = v :: r ∧ v.category = 1 ∧ K d mc ms C (i + 1) ls r σ Q
  | .ireturn => ∃ x, st = [.int x] ∧ Q (some (.int x)) σ
  | .freturn => ∃ x, st = [.int x] ∧ (x = 0 ∨ x = 1) ∧ Q (some (.int x)) σ
  | .lreturn => ∃ x, st = [.long x] ∧ Q (some (.long x)) σ
  | .return_ => st = [] ∧ Q none σ
  | .if_icmp c t => ∃ x y r, st = .int y :: .int x :: r ∧ (gcn c x y → K d mc ms C t.toNat ls r σ Q) ∧ (¬ gcn c x y → K d mc ms C (i + 1) ls r σ Q)
  | .ifCond c t => ∃ x r, st = .int x :: r ∧ (gcn c x 0 → K d mc ms C t.toNat ls r σ Q) ∧ (¬ gcn c x 0 → K d mc ms C (i + 1) ls r σ Q)
  | .goto t => K d mc ms C t.toNat ls st σ Q
  | .tableswitch df lo hi os => ∃ x r, st = .int x :: r ∧ K d mc ms C (gtab df lo hi os x) ls r σ Q
  | .lookupswitch df ps => ∃ x r, st = .int x :: r ∧ K d mc ms C (glook df ps x) ls r σ Q
  | .invokestatic y => ∃ as r, st = as.reverse ++ r ∧ gcal M K y as r d mc ms C i ls σ Q
  | .invokevirtual y => ∃ a as r, st = as.reverse ++ .ref a :: r ∧ gsh σ a = (M y).2.2.2.1 ∧ gcal M K y (.ref a :: as) r d mc ms C i ls σ Q
  | .invokespecial y => ∃ a as r, st = as.reverse ++ .ref a :: r ∧ gsh σ a = (M y).2.2.2.1 ∧ gcal M K y (.ref a :: as) r d mc ms C i ls σ Q
  | _ => False
def gstp (M : gT) (K : gK) : gK := fun d mc ms C i ls st σ Q => ∃ ins, C[i]? = some ins ∧ gstq M K ins d mc ms C i ls st σ Q
/-- the least predicate that is closed under the steps -/
def gW (M : gT) : gK := fun d mc ms C i ls st σ Q => ∀ X : gK, (∀ d mc ms C i ls st σ Q, gstp M X d mc ms C i ls st σ Q → X d mc ms C i ls st σ Q) → X d mc ms C i ls st σ Q
theorem gcal_mono {M : gT} {K K' : gK} (h : ∀ d mc ms C i ls st σ Q, K d mc ms C i ls st σ Q → K' d mc ms C i ls st σ Q) {y : Nat} {as r : List Value} {d mc ms : Nat} {C : List Instr} {i : Nat} {ls : List Value} {σ : gS} {Q : gP} (q : gcal M K y as r d mc ms C i ls σ Q) : gcal M K' y as r d mc ms C i ls σ Q := by
  obtain ⟨h1, h2, h3, h4, d', Q1, h5, h6, h7⟩ := q
  exact ⟨h1, h2, h3, h4, d', Q1, h5, h _ _ _ _ _ _ _ _ _ h6, fun v σ' q => h _ _ _ _ _ _ _ _ _ (h7 v σ' q)⟩
set_option maxHeartbeats 4000000 in
theorem gstq_mono {M : gT} {K K' : gK} (h : ∀ d mc ms C i ls st σ Q, K d mc ms C i ls st σ Q → K' d mc ms C i ls st σ Q) {ins : Instr} {d mc ms : Nat} {C : List Instr} {i : Nat} {ls st : List Value} {σ : gS} {Q : gP} (q : gstq M K ins d mc ms C i ls st σ Q) : gstq M K' ins d mc ms C i ls st σ Q := by
  cases ins <;> simp only [gstq, gi2, gl2] at q ⊢
  all_goals first
    | exact q
    | exact h _ _ _ _ _ _ _ _ _ q
    | (obtain ⟨a, q⟩ := q; first
        | exact ⟨a, h _ _ _ _ _ _ _ _ _ q⟩
        | (obtain ⟨b, q⟩ := q; first
          | exact ⟨a, b, h _ _ _ _ _ _ _ _ _ q⟩
          | (obtain ⟨c, q⟩ := q; first
            | exact ⟨a, b, c, h _ _ _ _ _ _ _ _ _ q⟩
            | exact ⟨a, b, c, gcal_mono h q⟩
            | (obtain ⟨d, q⟩ := q; first
              | exact ⟨a, b, c, d, h _ _ _ _ _ _ _ _ _ q⟩
              | exact ⟨a, b, c, fun z => h _ _ _ _ _ _ _ _ _ (d z), fun z => h _ _ _ _ _ _ _ _ _ (q z)⟩
              | (obtain ⟨e, q⟩ := q; first
                | exact ⟨a, b, c, d, e, h _ _ _ _ _ _ _ _ _ q⟩
                | exact ⟨a, b, c, d, e, gcal_mono h q⟩
                | exact ⟨a, b, c, d, fun z => h _ _ _ _ _ _ _ _ _ (e z), fun z => h _ _ _ _ _ _ _ _ _ (q z)⟩
                | (obtain ⟨f, q⟩ := q; first
                  | exact ⟨a, b, c, d, e, f, h _ _ _ _ _ _ _ _ _ q⟩
                  | (obtain ⟨g, q⟩ := q; first
                    | exact ⟨a, b, c, d, e, f, g, h _ _ _ _ _ _ _ _ _ q⟩
                    | (obtain ⟨g2, q⟩ := q; first
                      | exact ⟨a, b, c, d, e, f, g, g2, h _ _ _ _ _ _ _ _ _ q⟩
                      | (obtain ⟨g3, q⟩ := q; first
                        | exact ⟨a, b, c, d, e, f, g, g2, g3, h _ _ _ _ _ _ _ _ _ q⟩
                        | (obtain ⟨g4, q⟩ := q; exact ⟨a, b, c, d, e, f, g, g2, g3, g4, h _ _ _ _ _ _ _ _ _ q⟩))))))))))
theorem gW_of {M : gT} {d mc ms : Nat} {C : List Instr} {i : Nat} {ls st : List Value} {σ : gS} {Q : gP} {ins : Instr} (hc : C[i]? = some ins) (q : gstq M (gW M) ins d mc ms C i ls st σ Q) : gW M d mc ms C i ls st σ Q := by
  intro X hX
  exact hX _ _ _ _ _ _ _ _ _ ⟨ins, hc, gstq_mono (fun d mc ms C i ls st σ Q z => z X hX) q⟩
/-- a method's run: from its entry with these arguments -/
def gR (M : gT) (d y : Nat) (as : List Value) (σ : gS) (Q : gP) : Prop := gW M d (M y).2.2.2.2.1 (M y).2.2.2.2.2 (M y).1 0 (gent (M y).2.1 as) [] σ Q
