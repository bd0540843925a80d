/-! THE INVARIANT: an abstract state S, held by the class (cells below 57) and by the reference (cells from 57 on) -/
abbrev TSt : Type := List Nat × TFen × TMom × List TMom × (Nat → Option TMom) × List (Nat × Nat × Nat) × Int64
def sT (S : TSt) : List Nat := S.1
def sF (S : TSt) : TFen := S.2.1
def sV (S : TSt) : TMom := S.2.2.1
def sA (S : TSt) : List TMom := S.2.2.2.1
def sK (S : TSt) : Nat → Option TMom := S.2.2.2.2.1
def sH (S : TSt) : List (Nat × Nat × Nat) := S.2.2.2.2.2.1
def sD (S : TSt) : Int64 := S.2.2.2.2.2.2
def okSt (S : TSt) : Prop := ((sT S).length ≤ 60 ∧ ∀ t ∈ sT S, t < 256) ∧ okF (sF S) ∧ okM (sF S) (sV S) ∧ (∀ W ∈ sA S, okM (sF S) W) ∧ (∀ s W, sK S s = some W → okM (sF S) W) ∧ (sH S).length ≤ 6 ∧ ∀ h ∈ sH S, h.1 < 4 ∧ h.2.1 < 5 ∧ h.2.2 ≤ 12
def oN {α : Type} (o : Option α) : Nat := if o.isSome then 1 else 0
def cTxt (I : gII) (xs : List Nat) : Prop := I 2 1 = nI xs.length ∧ ∀ j, j < xs.length → I 3 j = nI (xs.getD j 0)
def cKept (I : gII) (L : gLL) (K : Nat → Option TMom) : Prop := ∀ s, s < 2 → I 39 s = nI (oN (K s)) ∧ ∀ W, K s = some W → cMom I L (37 + s) W
def cHear (I : gII) (H : List (Nat × Nat × Nat)) : Prop := I 40 3 = nI H.length ∧ ∀ j h, H[j]? = some h → I 41 j = nI h.1 ∧ I 42 j = nI h.2.1 ∧ I 43 j = nI h.2.2
def cSt (f : Nat) (I : gII) (L : gLL) (S : TSt) : Prop := cTxt I (sT S) ∧ cFen I f (sF S) ∧ cMom I L 18 (sV S) ∧ cActs I L (sA S) ∧ cKept I L (sK S) ∧ cHear I (sH S) ∧ L 2 14 = sD S
def rTxt (I : gII) (xs : List Nat) : Prop := I 57 20 = nI xs.length ∧ ∀ j, j < xs.length → I 68 j = nI (xs.getD j 0)
def rKept (I : gII) (K : Nat → Option TMom) : Prop := ∀ s, s < 2 → I 74 s = nI (oN (K s)) ∧ ∀ W, K s = some W → rMom I 75 (27 * s) W
def rHear (I : gII) (H : List (Nat × Nat × Nat)) : Prop := I 57 29 = nI H.length ∧ ∀ j h, H[j]? = some h → I 71 j = nI h.1 ∧ I 72 j = nI h.2.1 ∧ I 73 j = nI h.2.2
def rSt (I : gII) (L : gLL) (S : TSt) : Prop := rTxt I (sT S) ∧ rFen I (sF S) ∧ rMom I 63 0 (sV S) ∧ rActs I (sA S) ∧ rKept I (sK S) ∧ rHear I (sH S) ∧ L 57 33 = sD S
def sInv (f _g : Nat) (I : gII) (L : gLL) : Prop := ∃ S, okSt S ∧ cSt f I L S ∧ rSt I L S
/-- the cells that the class's state rests on -/
def cHold (f a : Nat) : Prop := a = 2 ∨ a = 3 ∨ (f ≤ a ∧ a ≤ f + 6) ∨ a = 18 ∨ a = 20 ∨ (22 ≤ a ∧ a ≤ 35) ∨ (37 ≤ a ∧ a ≤ 43)
theorem cActs_kept {I I' : gII} {L L' : gLL} {As : List TMom} (h20 : I' 20 = I 20) (h : ∀ a, 22 ≤ a → a ≤ 35 → I' a = I a ∧ L' a = L a) (hc : cActs I L As) : cActs I' L' As := by
  obtain ⟨hl, h2, p, hp, h1, hA⟩ := hc
  refine ⟨hl, by rw [h20]; exact h2, p, hp, by rw [h20]; exact h1, fun j V hV => ?_⟩
  have q : (p + As.length - 1 - j) % 14 < 14 := Nat.mod_lt _ (by decide)
  have k := h (22 + (p + As.length - 1 - j) % 14) (by omega) (by omega)
  exact cMom_kept k.1 k.2 (hA j V hV)
theorem cSt_kept {f : Nat} {I I' : gII} {L L' : gLL} {S : TSt} (h : ∀ a, cHold f a → I' a = I a ∧ L' a = L a) (hc : cSt f I L S) : cSt f I' L' S := by
  obtain ⟨c1, c2, c3, c4, c5, c6, c7⟩ := hc
  have h2 := h 2 (Or.inl rfl)
  have h3 := h 3 (Or.inr (Or.inl rfl))
  have h18 := h 18 (by unfold cHold; omega)
  have h20 := h 20 (by unfold cHold; omega)
  have h39 := h 39 (by unfold cHold; omega)
  have h40 := h 40 (by unfold cHold; omega)
  have h41 := h 41 (by unfold cHold; omega)
  have h42 := h 42 (by unfold cHold; omega)
  have h43 := h 43 (by unfold cHold; omega)
  refine ⟨⟨by rw [h2.1]; exact c1.1, fun j hj => by rw [h3.1]; exact c1.2 j hj⟩, cFen_kept (fun a q1 q2 => (h a (by unfold cHold; omega)).1) c2, cMom_kept h18.1 h18.2 c3, cActs_kept h20.1 (fun a q1 q2 => h a (by unfold cHold; omega)) c4, fun s hs => ⟨by rw [h39.1]; exact (c5 s hs).1, fun W hW => ?_⟩, ⟨by rw [h40.1]; exact c6.1, fun j q hq => by rw [h41.1, h42.1, h43.1]; exact c6.2 j q hq⟩, by rw [h2.2]; exact c7⟩
  have k := h (37 + s) (by unfold cHold; omega)
  exact cMom_kept k.1 k.2 ((c5 s hs).2 W hW)
/-- what the reference's state rests on -/
def rSame (I I' : gII) (L L' : gLL) : Prop := (∀ a, ((58 ≤ a ∧ a ≤ 62) ∨ a = 68 ∨ (70 ≤ a ∧ a ≤ 75)) → I' a = I a) ∧ (∀ j, j < 27 → I' 63 j = I 63 j) ∧ (∀ j, (j ≤ 3 ∨ j = 20 ∨ j = 25 ∨ j = 26 ∨ j = 29) → I' 57 j = I 57 j) ∧ L' 57 33 = L 57 33
theorem rSame_refl {I : gII} {L : gLL} : rSame I I L L := ⟨fun _ _ => rfl, fun _ _ => rfl, fun _ _ => rfl, rfl⟩
theorem rSame_trans {I I' I'' : gII} {L L' L'' : gLL} (h : rSame I I' L L') (k : rSame I' I'' L' L'') : rSame I I'' L L'' :=
  ⟨fun a q => (k.1 a q).trans (h.1 a q), fun j q => (k.2.1 j q).trans (h.2.1 j q), fun j q => (k.2.2.1 j q).trans (h.2.2.1 j q), k.2.2.2.trans h.2.2.2⟩
/-- a laid song changes nothing of the state -/
theorem rSame_lay {I I' : gII} {L : gLL} (k : ∀ a, a ≠ 57 → a ≠ 69 → I' a = I a) (j : ∀ j, j ≠ 24 → I' 57 j = I 57 j) : rSame I I' L L :=
  ⟨fun a q => k a (by omega) (by omega), fun i _ => by rw [k 63 (by decide) (by decide)], fun i q => j i (by omega), rfl⟩
theorem rMom0_same {I I' : gII} {V : TMom} (hl : (ms V).length ≤ 12) (h : ∀ j, j < 27 → I' 63 j = I 63 j) (hM : rMom I 63 0 V) : rMom I' 63 0 V :=
  rMom_copy hl (fun i hi => by rw [Nat.zero_add]; exact h i hi) hM
theorem rSt_same {I I' : gII} {L L' : gLL} {S : TSt} (hS : okSt S) (h : rSame I I' L L') (hr : rSt I L S) : rSt I' L' S := by
  obtain ⟨r1, r2, r3, r4, r5, r6, r7⟩ := hr
  obtain ⟨ha, h63, h57, hL⟩ := h
  refine ⟨⟨by rw [h57 20 (by omega)]; exact r1.1, fun j hj => by rw [ha 68 (by omega)]; exact r1.2 j hj⟩, rFen_kept (fun j hj => h57 j (by omega)) (fun a q1 q2 => ha a (by omega)) r2, rMom0_same hS.2.2.1.2.2.2.2.2.2.2 h63 r3, ?_, fun s hs => ⟨by rw [ha 74 (by omega)]; exact (r5 s hs).1, fun W hW => rMom_kept (ha 75 (by omega)) ((r5 s hs).2 W hW)⟩, ⟨by rw [h57 29 (by omega)]; exact r6.1, fun j q hq => by rw [ha 71 (by omega), ha 72 (by omega), ha 73 (by omega)]; exact r6.2 j q hq⟩, by rw [hL]; exact r7⟩
  obtain ⟨hl, h25, q, hq, h26, hA⟩ := r4
  exact ⟨hl, by rw [h57 25 (by omega)]; exact h25, q, hq, by rw [h57 26 (by omega)]; exact h26, fun j V hV => rMom_kept (ha 70 (by omega)) (hA j V hV)⟩
theorem rSt_far {I I' : gII} {L L' : gLL} {S : TSt} (hS : okSt S) (h : ∀ a, 57 ≤ a → I' a = I a ∧ L' a = L a) (hr : rSt I L S) : rSt I' L' S :=
  rSt_same hS ⟨fun a q => (h a (by omega)).1, fun j _ => by rw [(h 63 (by omega)).1], fun j _ => by rw [(h 57 (by omega)).1], by rw [(h 57 (by omega)).2]⟩ hr
/-- class and reference agree at a call, and both hold the new state -/
def mAg (X : Nat → Nat → gII → gLL → Option gRs) (Y : gII → gLL → Option gRs) : Prop := ∀ S, okSt S → ∃ v S', okSt S' ∧ (∀ f g I L, gfw f g → cSt f I L S → ∃ I' L', X f g I L = some (v, I', L') ∧ cSt f I' L' S') ∧ (∀ I L, rSt I L S → ∃ I' L', Y I L = some (v, I', L') ∧ rSt I' L' S')
def mFr (X : Nat → Nat → gII → gLL → Option gRs) (Y : gII → gLL → Option gRs) : Prop := (∀ f g I L z, gfw f g → X f g I L = some z → ∀ a, (a = 1 ∨ 57 ≤ a) → z.2.1 a = I a ∧ z.2.2 a = L a) ∧ (∀ I L z, Y I L = some z → ∀ a, a < 57 → z.2.1 a = I a ∧ z.2.2 a = L a)
theorem ag_case {f g : Nat} {I : gII} {L : gLL} {X : Nat → Nat → gII → gLL → Option gRs} {Y : gII → gLL → Option gRs} (hw : gfw f g) (hI : sInv f g I L) (ha : mAg X Y) (hf : mFr X Y) : ∃ v I1 L1 I2 L2, X f g I L = some (v, I1, L1) ∧ Y I1 L1 = some (v, I2, L2) ∧ I1 1 = I 1 ∧ sInv f g I2 L2 := by
  obtain ⟨S, hS, hc, hr⟩ := hI
  obtain ⟨v, S', hS', hC, hR⟩ := ha S hS
  obtain ⟨I1, L1, e1, c1⟩ := hC f g I L hw hc
  have k1 := hf.1 f g I L _ hw e1
  have r1 : rSt I1 L1 S := rSt_far hS (fun a q => k1 a (Or.inr q)) hr
  obtain ⟨I2, L2, e2, r2⟩ := hR I1 L1 r1
  have k2 := hf.2 I1 L1 _ e2
  refine ⟨v, I1, L1, I2, L2, e1, e2, (k1 1 (Or.inl rfl)).1, S', hS', cSt_kept (fun a q => k2 a ?_) c1, r2⟩
  rcases hw with ⟨rfl, -⟩ | ⟨rfl, -⟩ <;> unfold cHold at q <;> omega
/-- a call that asks only: one value -/
theorem mAg_ask {X : Nat → Nat → gII → gLL → Option gRs} {Y : gII → gLL → Option gRs} (hX : ∀ f g I L z, gfw f g → X f g I L = some z → ∀ a, cHold f a → z.2.1 a = I a ∧ z.2.2 a = L a)
    (h : ∀ S, okSt S → ∃ v, (∀ f g I L, gfw f g → cSt f I L S → ∃ I' L', X f g I L = some (v, I', L')) ∧ (∀ I L, rSt I L S → ∃ I' L', Y I L = some (v, I', L') ∧ rSame I I' L L')) : mAg X Y := by
  intro S hS
  obtain ⟨v, hC, hR⟩ := h S hS
  refine ⟨v, S, hS, fun f g I L hw hc => ?_, fun I L hr => ?_⟩
  · obtain ⟨I', L', e⟩ := hC f g I L hw hc
    exact ⟨I', L', e, cSt_kept (fun a q => hX f g I L _ hw e a q) hc⟩
  · obtain ⟨I', L', e, k⟩ := hR I L hr
    exact ⟨I', L', e, rSt_same hS k hr⟩
