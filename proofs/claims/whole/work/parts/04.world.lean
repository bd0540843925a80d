/-! THE ABSTRACT MACHINE'S CELLS AS A WORLD OF THE MACHINE: cell a (2 and on) lies at b + (a - 2), the script (1) at b0. -/
def gm (b0 b : Nat) (a : Nat) : Option Nat := match a with
  | 0 => none
  | 1 => some b0
  | k + 2 => some (b + k)
def gv (b0 b : Nat) (v : Value) : Value := match v with
  | .ref a => va_rf (gm b0 b a)
  | v => v
def gty (x : Nat) : Nat → FieldType := match x with
  | 0 => tyX0
  | 1 => tyX1
  | 2 => tyX2
  | 3 => tyX3
  | 4 => tyX4
  | 5 => tyX5
  | 6 => tyX6
  | 7 => tyX7
  | _ => tyX8
def gnf (x : Nat) : Nat := ((vwCl[x]?).map (fun r => r.2.2)).getD 0
def gfv (b0 b : Nat) (σ : gS) (ty : FieldType) (a j : Nat) : Value := match ty with
  | .int => .int (git σ a j)
  | .long => .long (glg σ a j)
  | _ => va_rf (gm b0 b (grf σ a j))
def gfs (b0 b : Nat) (σ : gS) (x a : Nat) : List Value := (List.range (gnf x)).map (fun j => gfv b0 b σ (gty x j) a j)
abbrev gG3 : Type := ClassId × ClassId × ClassId
def garr (b0 b : Nat) (G : gG3) (σ : gS) (k n a : Nat) : va_E := match k with
  | 0 => .inl (G.1, n, .inl (git σ a))
  | 1 => .inl (G.2.1, n, .inl (git σ a))
  | _ => .inl (G.2.2, n, .inr (.inr (.inr (.inr (fun j => gm b0 b (grf σ a j))))))
def gcell (b0 b : Nat) (G : gG3) (σ : gS) (a : Nat) : va_E :=
  if gsh σ a < 99 then .inr (gsh σ a, gfs b0 b σ (gsh σ a) a) else garr b0 b G σ ((gsh σ a - 100) % 3) ((gsh σ a - 100) / 3) a
def gws (b0 b : Nat) (G : gG3) (σ : gS) : va_W := (List.range (gsz σ)).map (fun k => (b + k, gcell b0 b G σ (k + 2)))
theorem gws_at {b0 b : Nat} {G : gG3} {σ : gS} {a : Nat} (h2 : 2 ≤ a) (h : a < gsz σ + 2) : (gws b0 b G σ)[a - 2]? = some (b + (a - 2), gcell b0 b G σ a) := by
  have e : a - 2 < gsz σ := by omega
  rw [gws, List.getElem?_map, List.getElem?_range e]
  show some (b + (a - 2), gcell b0 b G σ (a - 2 + 2)) = _
  rw [show a - 2 + 2 = a by omega]
theorem gws_len {b0 b : Nat} {G : gG3} {σ : gS} : (gws b0 b G σ).length = gsz σ := by simp [gws]
theorem gm_2 {b0 b a : Nat} (h2 : 2 ≤ a) : gm b0 b a = some (b + (a - 2)) := by
  obtain ⟨k, rfl⟩ : ∃ k, a = k + 2 := ⟨a - 2, by omega⟩
  rfl
theorem gv_2 {b0 b a : Nat} (h2 : 2 ≤ a) : gv b0 b (.ref a) = .ref (b + (a - 2)) := by
  show va_rf (gm b0 b a) = _
  rw [gm_2 h2]
  rfl
/-- a change of one cell -/
theorem gws_set {b0 b : Nat} {G : gG3} {σ σ' : gS} {a : Nat} (h2 : 2 ≤ a) (hz : gsz σ' = gsz σ) (hc : ∀ a', a' ≠ a → gcell b0 b G σ' a' = gcell b0 b G σ a') : gws b0 b G σ' = (gws b0 b G σ).set (a - 2) (b + (a - 2), gcell b0 b G σ' a) := by
  apply List.ext_getElem?
  intro k
  by_cases hk : k < gsz σ
  · have e1 : (gws b0 b G σ')[k]? = some (b + k, gcell b0 b G σ' (k + 2)) := by
      have := gws_at (b0 := b0) (b := b) (G := G) (σ := σ') (a := k + 2) (by omega) (by omega)
      simpa using this
    have e2 : (gws b0 b G σ)[k]? = some (b + k, gcell b0 b G σ (k + 2)) := by
      have := gws_at (b0 := b0) (b := b) (G := G) (σ := σ) (a := k + 2) (by omega) (by omega)
      simpa using this
    by_cases hka : k = a - 2
    · subst hka
      rw [e1, List.getElem?_set_self (by rw [gws_len]; exact hk), show a - 2 + 2 = a by omega]
    · rw [e1, List.getElem?_set_ne (fun q => hka q.symm), e2, hc (k + 2) (by omega)]
  · rw [List.getElem?_eq_none (by rw [gws_len]; omega), List.getElem?_eq_none (by rw [List.length_set, gws_len]; omega)]
theorem gu2_other {α : Type} {f : Nat → Nat → α} {a j : Nat} {v : α} {a' : Nat} (h : a' ≠ a) : gu2 f a j v a' = f a' := by
  funext j'
  simp [gu2, h]
theorem gu2_self {α : Type} {f : Nat → Nat → α} {a j : Nat} {v : α} {j' : Nat} : gu2 f a j v a j' = if j' = j then v else f a j' := by
  simp [gu2]
theorem gcell_obj {b0 b : Nat} {G : gG3} {σ : gS} {a x : Nat} (h : gsh σ a = x) (hx : x < 99) : gcell b0 b G σ a = .inr (x, gfs b0 b σ x a) := by
  subst h
  simp [gcell, hx]
theorem gcell_arr {b0 b : Nat} {G : gG3} {σ : gS} {a n k : Nat} (h : gsh σ a = 100 + k + 3 * n) (hk : k < 3) : gcell b0 b G σ a = garr b0 b G σ k n a := by
  have e1 : (gsh σ a - 100) % 3 = k := by omega
  have e2 : (gsh σ a - 100) / 3 = n := by omega
  rw [gcell, if_neg (by omega), e1, e2]
theorem gfs_get {b0 b : Nat} {σ : gS} {x a k : Nat} (h : k < gnf x) : (gfs b0 b σ x a)[k]? = some (gfv b0 b σ (gty x k) a k) := by
  rw [gfs, List.getElem?_map, List.getElem?_range h]
  rfl
theorem gfs_len {b0 b : Nat} {σ : gS} {x a : Nat} : (gfs b0 b σ x a).length = gnf x := by simp [gfs]
/-- the same fields but one -/
theorem gfs_set {b0 b : Nat} {σ σ' : gS} {x a k : Nat} {v : Value} (hk : k < gnf x) (hv : gfv b0 b σ' (gty x k) a k = v) (ho : ∀ j, j ≠ k → gfv b0 b σ' (gty x j) a j = gfv b0 b σ (gty x j) a j) : gfs b0 b σ' x a = (gfs b0 b σ x a).set k v := by
  apply List.ext_getElem?
  intro j
  by_cases hj : j < gnf x
  · by_cases hjk : j = k
    · subst hjk
      rw [gfs_get hj, List.getElem?_set_self (by rw [gfs_len]; exact hj), hv]
    · rw [gfs_get hj, List.getElem?_set_ne (fun q => hjk q.symm), gfs_get hj, ho j hjk]
  · rw [List.getElem?_eq_none (by rw [gfs_len]; omega), List.getElem?_eq_none (by rw [List.length_set, gfs_len]; omega)]
theorem gfv_other {b0 b : Nat} {σ σ' : gS} {a : Nat} (h1 : git σ' a = git σ a) (h2 : glg σ' a = glg σ a) (h3 : grf σ' a = grf σ a) (ty : FieldType) (j : Nat) : gfv b0 b σ' ty a j = gfv b0 b σ ty a j := by
  cases ty <;> simp [gfv, h1, h2, h3]
theorem gcell_other {b0 b : Nat} {G : gG3} {σ σ' : gS} {a : Nat} (h0 : gsh σ' a = gsh σ a) (h1 : git σ' a = git σ a) (h2 : glg σ' a = glg σ a) (h3 : grf σ' a = grf σ a) : gcell b0 b G σ' a = gcell b0 b G σ a := by
  have e : ∀ k n, garr b0 b G σ' k n a = garr b0 b G σ k n a := fun k n => by
    match k with
    | 0 => simp [garr, h1]
    | 1 => simp [garr, h1]
    | _ + 2 => simp [garr, h3]
  have e2 : gfs b0 b σ' (gsh σ a) a = gfs b0 b σ (gsh σ a) a := by
    simp only [gfs]
    apply List.map_congr_left
    intro j _
    exact gfv_other h1 h2 h3 _ _
  rw [gcell, gcell, h0, e, e2]
theorem git_I {σ : gS} {a j : Nat} {v : Int32} {a' : Nat} (h : a' ≠ a) : git (gsI σ a j v) a' = git σ a' := gu2_other h
theorem glg_L {σ : gS} {a j : Nat} {v : Int64} {a' : Nat} (h : a' ≠ a) : glg (gsL σ a j v) a' = glg σ a' := gu2_other h
theorem grf_R {σ : gS} {a j : Nat} {v : Nat} {a' : Nat} (h : a' ≠ a) : grf (gsR σ a j v) a' = grf σ a' := gu2_other h
theorem gws_I {b0 b : Nat} {G : gG3} {σ : gS} {a x k : Nat} {v : Int32} (h2 : 2 ≤ a) (h : gsh σ a = x) (hx : x < 99) (hk : k < gnf x) (ht : gty x k = .int) : gws b0 b G (gsI σ a k v) = (gws b0 b G σ).set (a - 2) (b + (a - 2), .inr (x, (gfs b0 b σ x a).set k (.int v))) := by
  have e := gws_set (b0 := b0) (b := b) (G := G) (σ := σ) (σ' := gsI σ a k v) h2 rfl (fun a' ha => gcell_other rfl (git_I ha) rfl rfl)
  rw [e, gcell_obj (σ := gsI σ a k v) (x := x) h hx, gfs_set (σ := σ) (σ' := gsI σ a k v) hk (v := .int v) ?_ ?_]
  · rw [ht]
    show Value.int (gu2 _ a k v a k) = _
    simp [gu2]
  · intro j hj
    have : git (gsI σ a k v) a j = git σ a j := by
      show gu2 _ a k v a j = _
      rw [gu2_self, if_neg hj]
      rfl
    cases gty x j <;> first | rfl | exact congrArg Value.int this
theorem gws_L {b0 b : Nat} {G : gG3} {σ : gS} {a x k : Nat} {v : Int64} (h2 : 2 ≤ a) (h : gsh σ a = x) (hx : x < 99) (hk : k < gnf x) (ht : gty x k = .long) : gws b0 b G (gsL σ a k v) = (gws b0 b G σ).set (a - 2) (b + (a - 2), .inr (x, (gfs b0 b σ x a).set k (.long v))) := by
  have e := gws_set (b0 := b0) (b := b) (G := G) (σ := σ) (σ' := gsL σ a k v) h2 rfl (fun a' ha => gcell_other rfl rfl (glg_L ha) rfl)
  rw [e, gcell_obj (σ := gsL σ a k v) (x := x) h hx, gfs_set (σ := σ) (σ' := gsL σ a k v) hk (v := .long v) ?_ ?_]
  · rw [ht]
    show Value.long (gu2 _ a k v a k) = _
    simp [gu2]
  · intro j hj
    have : glg (gsL σ a k v) a j = glg σ a j := by
      show gu2 _ a k v a j = _
      rw [gu2_self, if_neg hj]
      rfl
    cases gty x j <;> first | rfl | exact congrArg Value.long this
def gisr (ty : FieldType) : Bool := match ty with
  | .object _ => true
  | .array _ => true
  | _ => false
theorem gws_R {b0 b : Nat} {G : gG3} {σ : gS} {a x k v : Nat} (h2 : 2 ≤ a) (h : gsh σ a = x) (hx : x < 99) (hk : k < gnf x) (ht : gisr (gty x k) = true) : gws b0 b G (gsR σ a k v) = (gws b0 b G σ).set (a - 2) (b + (a - 2), .inr (x, (gfs b0 b σ x a).set k (gv b0 b (.ref v)))) := by
  have e := gws_set (b0 := b0) (b := b) (G := G) (σ := σ) (σ' := gsR σ a k v) h2 rfl (fun a' ha => gcell_other rfl rfl rfl (grf_R ha))
  have self : grf (gsR σ a k v) a k = v := by
    show gu2 _ a k v a k = _
    simp [gu2]
  rw [e, gcell_obj (σ := gsR σ a k v) (x := x) h hx, gfs_set (σ := σ) (σ' := gsR σ a k v) hk (v := gv b0 b (.ref v)) ?_ ?_]
  · show _ = va_rf (gm b0 b v)
    cases hq : gty x k <;> rw [hq] at ht <;> first | (simp [gisr] at ht; done) | exact congrArg (fun z => va_rf (gm b0 b z)) self
  · intro j hj
    have : grf (gsR σ a k v) a j = grf σ a j := by
      show gu2 _ a k v a j = _
      rw [gu2_self, if_neg hj]
      rfl
    cases gty x j <;> first | rfl | exact congrArg (fun z => va_rf (gm b0 b z)) this
theorem gws_A0 {b0 b : Nat} {G : gG3} {σ : gS} {a n j : Nat} {v : Int32} (h2 : 2 ≤ a) (h : gsh σ a = 100 + 3 * n) : gws b0 b G (gsI σ a j v) = (gws b0 b G σ).set (a - 2) (b + (a - 2), .inl (G.1, n, .inl (upd (git σ a) j v))) := by
  have e := gws_set (b0 := b0) (b := b) (G := G) (σ := σ) (σ' := gsI σ a j v) h2 rfl (fun a' ha => gcell_other rfl (git_I ha) rfl rfl)
  rw [e, gcell_arr (σ := gsI σ a j v) (k := 0) (n := n) h (by omega)]
  have : git (gsI σ a j v) a = upd (git σ a) j v := by
    funext j'
    show gu2 _ a j v a j' = _
    rw [gu2_self]
    rfl
  simp [garr, this]
theorem gws_A1 {b0 b : Nat} {G : gG3} {σ : gS} {a n j : Nat} {v : Int32} (h2 : 2 ≤ a) (h : gsh σ a = 101 + 3 * n) : gws b0 b G (gsI σ a j v) = (gws b0 b G σ).set (a - 2) (b + (a - 2), .inl (G.2.1, n, .inl (upd (git σ a) j v))) := by
  have e := gws_set (b0 := b0) (b := b) (G := G) (σ := σ) (σ' := gsI σ a j v) h2 rfl (fun a' ha => gcell_other rfl (git_I ha) rfl rfl)
  rw [e, gcell_arr (σ := gsI σ a j v) (k := 1) (n := n) h (by omega)]
  have : git (gsI σ a j v) a = upd (git σ a) j v := by
    funext j'
    show gu2 _ a j v a j' = _
    rw [gu2_self]
    rfl
  simp [garr, this]
theorem gws_A2 {b0 b : Nat} {G : gG3} {σ : gS} {a n j v : Nat} (h2 : 2 ≤ a) (h : gsh σ a = 102 + 3 * n) : gws b0 b G (gsR σ a j v) = (gws b0 b G σ).set (a - 2) (b + (a - 2), .inl (G.2.2, n, .inr (.inr (.inr (.inr (va_up (fun j => gm b0 b (grf σ a j)) j (gm b0 b v))))))) := by
  have e := gws_set (b0 := b0) (b := b) (G := G) (σ := σ) (σ' := gsR σ a j v) h2 rfl (fun a' ha => gcell_other rfl rfl rfl (grf_R ha))
  rw [e, gcell_arr (σ := gsR σ a j v) (k := 2) (n := n) h (by omega)]
  have : (fun j' => gm b0 b (grf (gsR σ a j v) a j')) = va_up (fun j => gm b0 b (grf σ a j)) j (gm b0 b v) := by
    funext j'
    show gm b0 b (gu2 _ a j v a j') = _
    rw [gu2_self]
    by_cases hj : j' = j
    · simp [hj, va_up]
    · simp [hj, va_up]
      rfl
  simp [garr, this]
/-- a new cell behind the others -/
theorem gws_new {b0 b : Nat} {G : gG3} {σ : gS} {x : Nat} : gws b0 b G (gnw σ x) = gws b0 b G σ ++ [(b + gsz σ, gcell b0 b G (gnw σ x) (gsz σ + 2))] := by
  have hz : gsz (gnw σ x) = gsz σ + 1 := rfl
  rw [gws, hz, List.range_succ, List.map_append, gws]
  congr 1
  apply List.map_congr_left
  intro k hk
  have hk := List.mem_range.mp hk
  have n1 : k + 2 ≠ gsz σ + 2 := by omega
  have n2 : ¬ k + 2 = σ.1.1 + 2 := n1
  rw [gcell_other (σ := σ) (σ' := gnw σ x)]
  · show (if k + 2 = σ.1.1 + 2 then x else σ.1.2 (k + 2)) = _
    rw [if_neg n2]
    rfl
  · funext j
    show (if k + 2 = σ.1.1 + 2 then _ else σ.2.2.1 (k + 2) j) = _
    rw [if_neg n2]
    rfl
  · funext j
    show (if k + 2 = σ.1.1 + 2 then _ else σ.2.2.2 (k + 2) j) = _
    rw [if_neg n2]
    rfl
  · funext j
    show (if k + 2 = σ.1.1 + 2 then _ else σ.2.1 (k + 2) j) = _
    rw [if_neg n2]
    rfl
theorem gD {b0 b : Nat} {G : gG3} {σ : gS} : va_D (fun q => b ≤ q) (gws b0 b G σ) := by
  have key : ∀ (k : Nat) (q : Nat × va_E), (gws b0 b G σ)[k]? = some q → q.1 = b + k := by
    intro k q h
    have hk : k < gsz σ := by
      have := (List.getElem?_eq_some_iff.mp h).1
      rwa [gws_len] at this
    rw [gws, List.getElem?_map, List.getElem?_range hk] at h
    cases h
    rfl
  refine ⟨fun i j p q h1 h2 h3 => ?_, fun k q h => ?_⟩
  · have := key i p h1
    have := key j q h2
    omega
  · have := key k q h
    show b ≤ q.1
    omega
/-- the shapes: nothing is at 0 nor behind the last; the script is a row of L ints -/
def gInv (L : Nat) (σ : gS) : Prop := (∀ a, a = 0 ∨ gsz σ + 2 ≤ a → gsh σ a = 99) ∧ gsh σ 1 = 100 + 3 * L
theorem gInv.lo {L : Nat} {σ : gS} (h : gInv L σ) {a x : Nat} (hs : gsh σ a = x) (hx : x ≠ 99) : a ≠ 0 ∧ a < gsz σ + 2 := by
  refine ⟨fun q => hx (by rw [← hs, q]; exact h.1 0 (Or.inl rfl)), Nat.not_le.mp fun q => hx (by rw [← hs]; exact h.1 a (Or.inr q))⟩
theorem gInv.obj {L : Nat} {σ : gS} (h : gInv L σ) {a x : Nat} (hs : gsh σ a = x) (hx : x < 99) : 2 ≤ a ∧ a < gsz σ + 2 := by
  obtain ⟨h1, h2⟩ := h.lo hs (by omega)
  refine ⟨?_, h2⟩
  have : a ≠ 1 := fun q => by
    rw [q, h.2] at hs
    omega
  omega
theorem gInv.new {L : Nat} {σ : gS} (h : gInv L σ) {x : Nat} : gInv L (gnw σ x) := by
  refine ⟨fun a ha => ?_, ?_⟩
  · have hz : gsz (gnw σ x) = gsz σ + 1 := rfl
    rw [hz] at ha
    show (if a = σ.1.1 + 2 then x else σ.1.2 a) = 99
    have : ¬ a = σ.1.1 + 2 := fun q => by
      have : gsz σ = σ.1.1 := rfl
      omega
    rw [if_neg this]
    exact h.1 a (by omega)
  · show (if 1 = σ.1.1 + 2 then x else σ.1.2 1) = _
    rw [if_neg (by omega)]
    exact h.2
/-- what the heap holds -/
def gRel (b0 b : Nat) (D : va_G) (G : gG3) (L : Nat) (σ : gS) (U : State) (H : Heap) : Prop :=
  va_P D vwCl (gws b0 b G σ) H ∧ H.size = b + gsz σ ∧ gInv L σ ∧ va_X b0 L (git σ 1) U H
