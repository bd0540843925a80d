/-! PARTIAL FUNCTIONS: what the decompiler's rows use; forgetting locals -/
abbrev gRs : Type := Int32 × (Nat → Nat → Int32) × (Nat → Nat → Int64)
def gvp (j : Int32) (n : Nat) : Bool := !(decide (j < 0)) && decide (gx j < n)
theorem gvp_in {j : Int32} {n : Nat} (h : gvp j n = true) : vp_in j n := by
  simp only [gvp, Bool.and_eq_true, Bool.not_eq_true', decide_eq_false_iff_not, decide_eq_true_eq] at h
  rintro (q | q)
  · exact h.1 q
  · exact absurd h.2 (Nat.not_lt.mpr q)
theorem gopt {α : Type} {c : Prop} [Decidable c] {x : Option α} {y : α} (h : (if c then x else none) = some y) : c ∧ x = some y := by
  by_cases hc : c
  · rw [if_pos hc] at h
    exact ⟨hc, h⟩
  · rw [if_neg hc] at h
    cases h
theorem gbnd {α β : Type} {x : Option α} {f : α → Option β} {y : β} (h : x.bind f = some y) : ∃ z, x = some z ∧ f z = some y := Option.bind_eq_some_iff.mp h
def gle : List Value → List Value → Prop
  | [], [] => True
  | a :: r, b :: s => (a = b ∨ (a = .null ∧ ∃ x, b = .int x) ∨ (a = .null ∧ ∃ x, b = .ref x)) ∧ gle r s
  | _, _ => False
theorem gle_refl : ∀ l : List Value, gle l l
  | [] => trivial
  | _ :: r => ⟨Or.inl rfl, gle_refl r⟩
theorem gle_len : ∀ {l l' : List Value}, gle l l' → l.length = l'.length
  | [], [], _ => rfl
  | _ :: _, _ :: _, h => congrArg (· + 1) (gle_len h.2)
  | [], _ :: _, h => h.elim
  | _ :: _, [], h => h.elim
theorem gle_at : ∀ {l l' : List Value}, gle l l' → ∀ (k : Nat) (v : Value), l[k]? = some v → v ≠ .null → l'[k]? = some v
  | [], [], _, k, v, h, _ => by simp at h
  | a :: r, b :: s, hl, 0, v, h, hn => by
    simp only [List.getElem?_cons_zero, Option.some.injEq] at h ⊢
    subst h
    rcases hl.1 with h | h | h
    · exact h.symm
    · exact absurd h.1 hn
    · exact absurd h.1 hn
  | a :: r, b :: s, hl, k + 1, v, h, hn => by
    simp only [List.getElem?_cons_succ] at h ⊢
    exact gle_at hl.2 k v h hn
  | [], _ :: _, h, _, _, _, _ => h.elim
  | _ :: _, [], h, _, _, _, _ => h.elim
theorem gle_set : ∀ {l l' : List Value}, gle l l' → ∀ (k : Nat) (v : Value), gle (l.set k v) (l'.set k v)
  | [], [], _, _, _ => trivial
  | a :: r, b :: s, hl, 0, v => ⟨Or.inl rfl, hl.2⟩
  | a :: r, b :: s, hl, k + 1, v => ⟨hl.1, gle_set hl.2 k v⟩
  | [], _ :: _, h, _, _ => h.elim
  | _ :: _, [], h, _, _ => h.elim
theorem gle_back : ∀ {l l' : List Value}, gle l l' → ∀ (k : Nat) (v : Value), l'[k]? = some v → v.category = 2 → l[k]? = some v
  | [], [], _, k, v, h, _ => by simp at h
  | a :: r, b :: s, hl, 0, v, h, hc => by
    simp only [List.getElem?_cons_zero, Option.some.injEq] at h ⊢
    subst h
    rcases hl.1 with h | ⟨-, x, rfl⟩ | ⟨-, x, rfl⟩
    · exact h
    · exact absurd hc (by simp [Value.category])
    · exact absurd hc (by simp [Value.category])
  | a :: r, b :: s, hl, k + 1, v, h, hc => by
    simp only [List.getElem?_cons_succ] at h ⊢
    exact gle_back hl.2 k v h hc
  | [], _ :: _, h, _, _, _, _ => h.elim
  | _ :: _, [], h, _, _, _, _ => h.elim
theorem gle_ok {l l' : List Value} (h : gle l l') {k : Nat} (hk : gok l k = true) : gok l' k = true := by
  cases k with
  | zero => rfl
  | succ k =>
    cases hv : l'[k]? with
    | none => simp [gok, hv]
    | some v =>
      cases v with
      | long x =>
        have := gle_back h k _ hv rfl
        simp [gok, this] at hk
      | double x =>
        have := gle_back h k _ hv rfl
        simp [gok, this] at hk
      | _ => simp [gok, hv]
set_option maxHeartbeats 4000000 in
theorem gforget {M : gT} {d mc ms : Nat} {C : List Instr} {i : Nat} {ls ls' st : List Value} {σ : gS} {Q : gP} (hle : gle ls ls') (h : gW M d mc ms C i ls st σ Q) : gW M d mc ms C i ls' st σ Q := by
  refine h (fun d mc ms C i ls st σ Q => ∀ ls', gle ls ls' → gW M d mc ms C i ls' st σ Q) ?_ ls' hle
  clear h hle
  intro d mc ms C i ls st σ Q ⟨ins, hc, q⟩ ls' hle
  refine gW_of hc ?_
  have hlen := gle_len hle
  cases ins <;> simp only [gstq, gi2, gl2] at q ⊢
  case iload k => obtain ⟨x, h1, h2⟩ := q; exact ⟨x, gle_at hle _ _ h1 (by simp), h2 _ hle⟩
  case lload k => obtain ⟨x, h1, h2⟩ := q; exact ⟨x, gle_at hle _ _ h1 (by simp), h2 _ hle⟩
  case aload k => obtain ⟨x, h1, h2⟩ := q; exact ⟨x, gle_at hle _ _ h1 (by simp), h2 _ hle⟩
  case istore k => obtain ⟨x, r, h1, h2, h3, h4⟩ := q; exact ⟨x, r, h1, gle_ok hle h2, hlen ▸ h3, h4 _ (gle_set hle _ _)⟩
  case astore k => obtain ⟨x, r, h1, h2, h3, h4⟩ := q; exact ⟨x, r, h1, gle_ok hle h2, hlen ▸ h3, h4 _ (gle_set hle _ _)⟩
  case lstore k => obtain ⟨x, r, h1, h2, h3, h4⟩ := q; exact ⟨x, r, h1, gle_ok hle h2, hlen ▸ h3, h4 _ (gle_set (gle_set hle _ _) _ _)⟩
  case iinc k n => obtain ⟨x, h1, h2, h3⟩ := q; exact ⟨x, gle_at hle _ _ h1 (by simp), gle_ok hle h2, h3 _ (gle_set hle _ _)⟩
  case invokestatic y =>
    obtain ⟨as, r, h1, h2, h3, h4, h5, d', Q1, h6, h7, h8⟩ := q
    exact ⟨as, r, h1, h2, h3, h4, h5, d', Q1, h6, h7 _ (gle_refl _), fun v σ' z => h8 v σ' z _ hle⟩
  case invokevirtual y =>
    obtain ⟨a, as, r, h0, h1, h2, h3, h4, h5, d', Q1, h6, h7, h8⟩ := q
    exact ⟨a, as, r, h0, h1, h2, h3, h4, h5, d', Q1, h6, h7 _ (gle_refl _), fun v σ' z => h8 v σ' z _ hle⟩
  case invokespecial y =>
    obtain ⟨a, as, r, h0, h1, h2, h3, h4, h5, d', Q1, h6, h7, h8⟩ := q
    exact ⟨a, as, r, h0, h1, h2, h3, h4, h5, d', Q1, h6, h7 _ (gle_refl _), fun v σ' z => h8 v σ' z _ hle⟩
  all_goals first
    | exact q
    | exact q _ hle
    | (obtain ⟨a, q⟩ := q; first
        | exact ⟨a, q _ hle⟩
        | (obtain ⟨b, q⟩ := q; first
          | exact ⟨a, b, q _ hle⟩
          | (obtain ⟨c, q⟩ := q; first
            | exact ⟨a, b, c, q _ hle⟩
            | (obtain ⟨d, q⟩ := q; first
              | exact ⟨a, b, c, d, q _ hle⟩
              | exact ⟨a, b, c, fun z => d z _ hle, fun z => q z _ hle⟩
              | (obtain ⟨e, q⟩ := q; first
                | exact ⟨a, b, c, d, e, q _ hle⟩
                | exact ⟨a, b, c, d, fun z => e z _ hle, fun z => q z _ hle⟩
                | (obtain ⟨f, q⟩ := q; first
                  | exact ⟨a, b, c, d, e, f, q _ hle⟩
                  | (obtain ⟨g, q⟩ := q; first
                    | exact ⟨a, b, c, d, e, f, g, q _ hle⟩
                    | (obtain ⟨g2, q⟩ := q; first
                      | exact ⟨a, b, c, d, e, f, g, g2, q _ hle⟩
                      | (obtain ⟨g3, q⟩ := q; first
                        | exact ⟨a, b, c, d, e, f, g, g2, g3, q _ hle⟩
                        | (obtain ⟨g4, q⟩ := q; exact ⟨a, b, c, d, e, f, g, g2, g3, g4, q _ hle⟩))))))))))
