/-! THE CONSTRUCTORS (ctor.py): run one by one -/
def gputs : List (Nat × Nat) := [(2, 0), (4, 5), (4, 6), (4, 7), (4, 8), (4, 9), (4, 10), (2, 2), (11, 5), (11, 6), (11, 7), (11, 8), (11, 9), (11, 10), (2, 3), (2, 4), (2, 5), (20, 0), (21, 0), (21, 1), (21, 2), (21, 3), (21, 4), (21, 5), (21, 6), (21, 7), (21, 8), (21, 9), (21, 10), (21, 11), (21, 12), (21, 13), (2, 6), (2, 7), (36, 0), (36, 1), (2, 8), (40, 0), (40, 1), (40, 2), (2, 9), (44, 0), (46, 0), (44, 1), (45, 0), (45, 1), (2, 10), (50, 0), (50, 1), (2, 11), (53, 0), (2, 12), (55, 0), (2, 13), (57, 4), (57, 5), (57, 6), (57, 7), (57, 8), (57, 9), (57, 10), (57, 11), (57, 12), (57, 13), (57, 19), (57, 23), (57, 27), (57, 30), (57, 31), (57, 32), (57, 34), (57, 35)]
def gKl (n k : Nat) : Nat × (Nat → Nat) := (k, fun a => if a < k + 2 then (gKn n).2 a else 99)
def gRl (p : Nat) : Nat → Nat → Nat := fun a j => if (a, j) ∈ gputs.take p then gRf 4 11 a j else 0
def gI0 (xs : Nat → Int32) : Nat → Nat → Int32 := fun a j => if a = 1 then xs j else 0
def gL0 : Nat → Nat → Int64 := fun _ _ => 0
theorem gal {n k p x : Nat} {xs : Nat → Int32} (hx : (gKn n).2 (k + 2) = x) (hp : (gputs.take p).all (fun q => decide (q.1 ≠ k + 2)) = true) : gnw (gKl n k, gRl p, gI0 xs, gL0) x = (gKl n (k + 1), gRl p, gI0 xs, gL0) := by
  have e1 : (fun a => if a = k + 2 then x else (gKl n k).2 a) = (gKl n (k + 1)).2 := by
    funext a
    show (if a = k + 2 then x else if a < k + 2 then (gKn n).2 a else 99) = if a < k + 1 + 2 then (gKn n).2 a else 99
    by_cases h : a = k + 2
    · subst h
      rw [if_pos rfl, if_pos (by omega), hx]
    · rw [if_neg h]
      by_cases h2 : a < k + 2
      · rw [if_pos h2, if_pos (by omega)]
      · rw [if_neg h2, if_neg (by omega)]
  have e2 : gz1 (gRl p) (k + 2) 0 = gRl p := by
    funext a j
    show (if a = k + 2 then 0 else gRl p a j) = gRl p a j
    by_cases h : a = k + 2
    · subst h
      rw [if_pos rfl]
      show 0 = if (k + 2, j) ∈ gputs.take p then gRf 4 11 (k + 2) j else 0
      rw [if_neg]
      intro hm
      have := List.all_eq_true.mp hp _ hm
      simp at this
    · rw [if_neg h]
  have e3 : gz1 (gI0 xs) (k + 2) 0 = gI0 xs := by
    funext a j
    show (if a = k + 2 then 0 else gI0 xs a j) = gI0 xs a j
    by_cases h : a = k + 2
    · subst h
      rw [if_pos rfl]
      show 0 = if k + 2 = 1 then xs j else 0
      rw [if_neg (by omega)]
    · rw [if_neg h]
  have e4 : gz1 gL0 (k + 2) 0 = gL0 := by
    funext a j
    show (if a = k + 2 then 0 else (0 : Int64)) = 0
    split <;> rfl
  show ((k + 1, fun a => if a = k + 2 then x else (gKl n k).2 a), gz1 (gRl p) (k + 2) 0, gz1 (gI0 xs) (k + 2) 0, gz1 gL0 (k + 2) 0) = _
  rw [e1, e2, e3, e4]
  rfl
theorem gpu {p a j v : Nat} (h : gputs[p]? = some (a, j)) (hv : gRf 4 11 a j = v) : gu2 (gRl p) a j v = gRl (p + 1) := by
  funext a' j'
  show (if a' = a ∧ j' = j then v else if (a', j') ∈ gputs.take p then gRf 4 11 a' j' else 0) = if (a', j') ∈ gputs.take (p + 1) then gRf 4 11 a' j' else 0
  have ht : gputs.take (p + 1) = gputs.take p ++ [(a, j)] := by
    rw [List.take_add_one, h]
    rfl
  rw [ht]
  by_cases hq : a' = a ∧ j' = j
  · obtain ⟨rfl, rfl⟩ := hq
    rw [if_pos ⟨rfl, rfl⟩, if_pos (by simp), hv]
  · rw [if_neg hq]
    have hne : (a', j') ≠ (a, j) := fun e => hq (by simpa using e)
    by_cases hm : (a', j') ∈ gputs.take p
    · rw [if_pos hm, if_pos (List.mem_append_left _ hm)]
    · rw [if_neg hm, if_neg (by
        intro hm2
        rcases List.mem_append.mp hm2 with h1 | h1
        · exact hm h1
        · exact hne (by simpa using h1))]
set_option maxHeartbeats 4000000 in
set_option maxRecDepth 100000 in
theorem n_X1_init_4 {n d : Nat} {xs : Nat → Int32} {Q : gP} (hQ : Q none (gKl n 9, gRl 7, gI0 xs, gL0)) : gR gM (d + 1) 5 [.ref 4] (gKl n 3, gRl 1, gI0 xs, gL0) Q := by
  show gW gM (d + 1) 6 37 k_X1_init 0 [.ref 4] [] (gKl n 3, gRl 1, gI0 xs, gL0) Q
  refine r_aload rfl rfl ?_
  refine r_obj rfl (Nat.le_of_ble_eq_true rfl) (Nat.le_of_ble_eq_true rfl) ?_
  refine r_aload rfl rfl ?_
  refine r_const rfl (gcst 5) ?_
  refine r_newi 5 0 rfl rfl (Nat.le_of_ble_eq_true rfl) rfl (by decide) (Nat.le_of_ble_eq_true rfl) (Nat.le_of_ble_eq_true rfl) ?_
  rw [gal (n := n) (xs := xs) (x := 100 + 0 + 3 * 5) (k := 3) (p := 1) rfl (by decide +kernel)]
  show gW gM (d + 1) 5 32 k_X1_init 5 [.ref 4] [.ref 5, .ref 4] (gKl n 4, gRl 1, gI0 xs, gL0) Q
  refine r_putR (c := 1) (k := 5) rfl rfl ⟨rfl, rfl⟩ ?_
  rw [gpu (p := 1) (a := 4) (j := 5) (v := 5) rfl rfl]
  refine r_aload rfl rfl ?_
  refine r_const rfl (gcst 5) ?_
  refine r_newi 5 0 rfl rfl (Nat.le_of_ble_eq_true rfl) rfl (by decide) (Nat.le_of_ble_eq_true rfl) (Nat.le_of_ble_eq_true rfl) ?_
  rw [gal (n := n) (xs := xs) (x := 100 + 0 + 3 * 5) (k := 4) (p := 2) rfl (by decide +kernel)]
  show gW gM (d + 1) 4 27 k_X1_init 9 [.ref 4] [.ref 6, .ref 4] (gKl n 5, gRl 2, gI0 xs, gL0) Q
  refine r_putR (c := 1) (k := 6) rfl rfl ⟨rfl, rfl⟩ ?_
  rw [gpu (p := 2) (a := 4) (j := 6) (v := 6) rfl rfl]
  refine r_aload rfl rfl ?_
  refine r_const rfl (gcst 9) ?_
  refine r_newi 9 0 rfl rfl (Nat.le_of_ble_eq_true rfl) rfl (by decide) (Nat.le_of_ble_eq_true rfl) (Nat.le_of_ble_eq_true rfl) ?_
  rw [gal (n := n) (xs := xs) (x := 100 + 0 + 3 * 9) (k := 5) (p := 3) rfl (by decide +kernel)]
  show gW gM (d + 1) 3 18 k_X1_init 13 [.ref 4] [.ref 7, .ref 4] (gKl n 6, gRl 3, gI0 xs, gL0) Q
  refine r_putR (c := 1) (k := 7) rfl rfl ⟨rfl, rfl⟩ ?_
  rw [gpu (p := 3) (a := 4) (j := 7) (v := 7) rfl rfl]
  refine r_aload rfl rfl ?_
  refine r_const rfl (gcst 5) ?_
  refine r_newi 5 0 rfl rfl (Nat.le_of_ble_eq_true rfl) rfl (by decide) (Nat.le_of_ble_eq_true rfl) (Nat.le_of_ble_eq_true rfl) ?_
  rw [gal (n := n) (xs := xs) (x := 100 + 0 + 3 * 5) (k := 6) (p := 4) rfl (by decide +kernel)]
  show gW gM (d + 1) 2 13 k_X1_init 17 [.ref 4] [.ref 8, .ref 4] (gKl n 7, gRl 4, gI0 xs, gL0) Q
  refine r_putR (c := 1) (k := 8) rfl rfl ⟨rfl, rfl⟩ ?_
  rw [gpu (p := 4) (a := 4) (j := 8) (v := 8) rfl rfl]
  refine r_aload rfl rfl ?_
  refine r_const rfl (gcst 5) ?_
  refine r_newi 5 0 rfl rfl (Nat.le_of_ble_eq_true rfl) rfl (by decide) (Nat.le_of_ble_eq_true rfl) (Nat.le_of_ble_eq_true rfl) ?_
  rw [gal (n := n) (xs := xs) (x := 100 + 0 + 3 * 5) (k := 7) (p := 5) rfl (by decide +kernel)]
  show gW gM (d + 1) 1 8 k_X1_init 21 [.ref 4] [.ref 9, .ref 4] (gKl n 8, gRl 5, gI0 xs, gL0) Q
  refine r_putR (c := 1) (k := 9) rfl rfl ⟨rfl, rfl⟩ ?_
  rw [gpu (p := 5) (a := 4) (j := 9) (v := 9) rfl rfl]
  refine r_aload rfl rfl ?_
  refine r_const rfl (gcst 8) ?_
  refine r_newi 8 0 rfl rfl (Nat.le_of_ble_eq_true rfl) rfl (by decide) (Nat.le_of_ble_eq_true rfl) (Nat.le_of_ble_eq_true rfl) ?_
  rw [gal (n := n) (xs := xs) (x := 100 + 0 + 3 * 8) (k := 8) (p := 6) rfl (by decide +kernel)]
  show gW gM (d + 1) 0 0 k_X1_init 25 [.ref 4] [.ref 10, .ref 4] (gKl n 9, gRl 6, gI0 xs, gL0) Q
  refine r_putR (c := 1) (k := 10) rfl rfl ⟨rfl, rfl⟩ ?_
  rw [gpu (p := 6) (a := 4) (j := 10) (v := 10) rfl rfl]
  exact r_vret rfl hQ
set_option maxHeartbeats 4000000 in
set_option maxRecDepth 100000 in
theorem n_X1_init_11 {n d : Nat} {xs : Nat → Int32} {Q : gP} (hQ : Q none (gKl n 16, gRl 14, gI0 xs, gL0)) : gR gM (d + 1) 5 [.ref 11] (gKl n 10, gRl 8, gI0 xs, gL0) Q := by
  show gW gM (d + 1) 6 37 k_X1_init 0 [.ref 11] [] (gKl n 10, gRl 8, gI0 xs, gL0) Q
  refine r_aload rfl rfl ?_
  refine r_obj rfl (Nat.le_of_ble_eq_true rfl) (Nat.le_of_ble_eq_true rfl) ?_
  refine r_aload rfl rfl ?_
  refine r_const rfl (gcst 5) ?_
  refine r_newi 5 0 rfl rfl (Nat.le_of_ble_eq_true rfl) rfl (by decide) (Nat.le_of_ble_eq_true rfl) (Nat.le_of_ble_eq_true rfl) ?_
  rw [gal (n := n) (xs := xs) (x := 100 + 0 + 3 * 5) (k := 10) (p := 8) rfl (by decide +kernel)]
  show gW gM (d + 1) 5 32 k_X1_init 5 [.ref 11] [.ref 12, .ref 11] (gKl n 11, gRl 8, gI0 xs, gL0) Q
  refine r_putR (c := 1) (k := 5) rfl rfl ⟨rfl, rfl⟩ ?_
  rw [gpu (p := 8) (a := 11) (j := 5) (v := 12) rfl rfl]
  refine r_aload rfl rfl ?_
  refine r_const rfl (gcst 5) ?_
  refine r_newi 5 0 rfl rfl (Nat.le_of_ble_eq_true rfl) rfl (by decide) (Nat.le_of_ble_eq_true rfl) (Nat.le_of_ble_eq_true rfl) ?_
  rw [gal (n := n) (xs := xs) (x := 100 + 0 + 3 * 5) (k := 11) (p := 9) rfl (by decide +kernel)]
  show gW gM (d + 1) 4 27 k_X1_init 9 [.ref 11] [.ref 13, .ref 11] (gKl n 12, gRl 9, gI0 xs, gL0) Q
  refine r_putR (c := 1) (k := 6) rfl rfl ⟨rfl, rfl⟩ ?_
  rw [gpu (p := 9) (a := 11) (j := 6) (v := 13) rfl rfl]
  refine r_aload rfl rfl ?_
  refine r_const rfl (gcst 9) ?_
  refine r_newi 9 0 rfl rfl (Nat.le_of_ble_eq_true rfl) rfl (by decide) (Nat.le_of_ble_eq_true rfl) (Nat.le_of_ble_eq_true rfl) ?_
  rw [gal (n := n) (xs := xs) (x := 100 + 0 + 3 * 9) (k := 12) (p := 10) rfl (by decide +kernel)]
  show gW gM (d + 1) 3 18 k_X1_init 13 [.ref 11] [.ref 14, .ref 11] (gKl n 13, gRl 10, gI0 xs, gL0) Q
  refine r_putR (c := 1) (k := 7) rfl rfl ⟨rfl, rfl⟩ ?_
  rw [gpu (p := 10) (a := 11) (j := 7) (v := 14) rfl rfl]
  refine r_aload rfl rfl ?_
  refine r_const rfl (gcst 5) ?_
  refine r_newi 5 0 rfl rfl (Nat.le_of_ble_eq_true rfl) rfl (by decide) (Nat.le_of_ble_eq_true rfl) (Nat.le_of_ble_eq_true rfl) ?_
  rw [gal (n := n) (xs := xs) (x := 100 + 0 + 3 * 5) (k := 13) (p := 11) rfl (by decide +kernel)]
  show gW gM (d + 1) 2 13 k_X1_init 17 [.ref 11] [.ref 15, .ref 11] (gKl n 14, gRl 11, gI0 xs, gL0) Q
  refine r_putR (c := 1) (k := 8) rfl rfl ⟨rfl, rfl⟩ ?_
  rw [gpu (p := 11) (a := 11) (j := 8) (v := 15) rfl rfl]
  refine r_aload rfl rfl ?_
  refine r_const rfl (gcst 5) ?_
  refine r_newi 5 0 rfl rfl (Nat.le_of_ble_eq_true rfl) rfl (by decide) (Nat.le_of_ble_eq_true rfl) (Nat.le_of_ble_eq_true rfl) ?_
  rw [gal (n := n) (xs := xs) (x := 100 + 0 + 3 * 5) (k := 14) (p := 12) rfl (by decide +kernel)]
  show gW gM (d + 1) 1 8 k_X1_init 21 [.ref 11] [.ref 16, .ref 11] (gKl n 15, gRl 12, gI0 xs, gL0) Q
  refine r_putR (c := 1) (k := 9) rfl rfl ⟨rfl, rfl⟩ ?_
  rw [gpu (p := 12) (a := 11) (j := 9) (v := 16) rfl rfl]
  refine r_aload rfl rfl ?_
  refine r_const rfl (gcst 8) ?_
  refine r_newi 8 0 rfl rfl (Nat.le_of_ble_eq_true rfl) rfl (by decide) (Nat.le_of_ble_eq_true rfl) (Nat.le_of_ble_eq_true rfl) ?_
  rw [gal (n := n) (xs := xs) (x := 100 + 0 + 3 * 8) (k := 15) (p := 13) rfl (by decide +kernel)]
  show gW gM (d + 1) 0 0 k_X1_init 25 [.ref 11] [.ref 17, .ref 11] (gKl n 16, gRl 13, gI0 xs, gL0) Q
  refine r_putR (c := 1) (k := 10) rfl rfl ⟨rfl, rfl⟩ ?_
  rw [gpu (p := 13) (a := 11) (j := 10) (v := 17) rfl rfl]
  exact r_vret rfl hQ
set_option maxHeartbeats 4000000 in
set_option maxRecDepth 100000 in
theorem n_X4_init_18 {n d : Nat} {xs : Nat → Int32} {Q : gP} (hQ : Q none (gKl n 17, gRl 15, gI0 xs, gL0)) : gR gM (d + 1) 35 [.ref 18] (gKl n 17, gRl 15, gI0 xs, gL0) Q := by
  show gW gM (d + 1) 0 0 k_X4_init 0 [.ref 18] [] (gKl n 17, gRl 15, gI0 xs, gL0) Q
  refine r_aload rfl rfl ?_
  refine r_obj rfl (Nat.le_of_ble_eq_true rfl) (Nat.le_of_ble_eq_true rfl) ?_
  exact r_vret rfl hQ
set_option maxHeartbeats 4000000 in
set_option maxRecDepth 100000 in
theorem n_X4_init_19 {n d : Nat} {xs : Nat → Int32} {Q : gP} (hQ : Q none (gKl n 18, gRl 16, gI0 xs, gL0)) : gR gM (d + 1) 35 [.ref 19] (gKl n 18, gRl 16, gI0 xs, gL0) Q := by
  show gW gM (d + 1) 0 0 k_X4_init 0 [.ref 19] [] (gKl n 18, gRl 16, gI0 xs, gL0) Q
  refine r_aload rfl rfl ?_
  refine r_obj rfl (Nat.le_of_ble_eq_true rfl) (Nat.le_of_ble_eq_true rfl) ?_
  exact r_vret rfl hQ
set_option maxHeartbeats 4000000 in
set_option maxRecDepth 100000 in
theorem n_X4_init_22 {n d : Nat} {xs : Nat → Int32} {Q : gP} (hQ : Q none (gKl n 21, gRl 18, gI0 xs, gL0)) : gR gM (d + 1) 35 [.ref 22] (gKl n 21, gRl 18, gI0 xs, gL0) Q := by
  show gW gM (d + 1) 0 0 k_X4_init 0 [.ref 22] [] (gKl n 21, gRl 18, gI0 xs, gL0) Q
  refine r_aload rfl rfl ?_
  refine r_obj rfl (Nat.le_of_ble_eq_true rfl) (Nat.le_of_ble_eq_true rfl) ?_
  exact r_vret rfl hQ
set_option maxHeartbeats 4000000 in
set_option maxRecDepth 100000 in
theorem n_X4_init_23 {n d : Nat} {xs : Nat → Int32} {Q : gP} (hQ : Q none (gKl n 22, gRl 19, gI0 xs, gL0)) : gR gM (d + 1) 35 [.ref 23] (gKl n 22, gRl 19, gI0 xs, gL0) Q := by
  show gW gM (d + 1) 0 0 k_X4_init 0 [.ref 23] [] (gKl n 22, gRl 19, gI0 xs, gL0) Q
  refine r_aload rfl rfl ?_
  refine r_obj rfl (Nat.le_of_ble_eq_true rfl) (Nat.le_of_ble_eq_true rfl) ?_
  exact r_vret rfl hQ
set_option maxHeartbeats 4000000 in
set_option maxRecDepth 100000 in
theorem n_X4_init_24 {n d : Nat} {xs : Nat → Int32} {Q : gP} (hQ : Q none (gKl n 23, gRl 20, gI0 xs, gL0)) : gR gM (d + 1) 35 [.ref 24] (gKl n 23, gRl 20, gI0 xs, gL0) Q := by
  show gW gM (d + 1) 0 0 k_X4_init 0 [.ref 24] [] (gKl n 23, gRl 20, gI0 xs, gL0) Q
  refine r_aload rfl rfl ?_
  refine r_obj rfl (Nat.le_of_ble_eq_true rfl) (Nat.le_of_ble_eq_true rfl) ?_
  exact r_vret rfl hQ
set_option maxHeartbeats 4000000 in
set_option maxRecDepth 100000 in
theorem n_X4_init_25 {n d : Nat} {xs : Nat → Int32} {Q : gP} (hQ : Q none (gKl n 24, gRl 21, gI0 xs, gL0)) : gR gM (d + 1) 35 [.ref 25] (gKl n 24, gRl 21, gI0 xs, gL0) Q := by
  show gW gM (d + 1) 0 0 k_X4_init 0 [.ref 25] [] (gKl n 24, gRl 21, gI0 xs, gL0) Q
  refine r_aload rfl rfl ?_
  refine r_obj rfl (Nat.le_of_ble_eq_true rfl) (Nat.le_of_ble_eq_true rfl) ?_
  exact r_vret rfl hQ
set_option maxHeartbeats 4000000 in
set_option maxRecDepth 100000 in
theorem n_X4_init_26 {n d : Nat} {xs : Nat → Int32} {Q : gP} (hQ : Q none (gKl n 25, gRl 22, gI0 xs, gL0)) : gR gM (d + 1) 35 [.ref 26] (gKl n 25, gRl 22, gI0 xs, gL0) Q := by
  show gW gM (d + 1) 0 0 k_X4_init 0 [.ref 26] [] (gKl n 25, gRl 22, gI0 xs, gL0) Q
  refine r_aload rfl rfl ?_
  refine r_obj rfl (Nat.le_of_ble_eq_true rfl) (Nat.le_of_ble_eq_true rfl) ?_
  exact r_vret rfl hQ
set_option maxHeartbeats 4000000 in
set_option maxRecDepth 100000 in
theorem n_X4_init_27 {n d : Nat} {xs : Nat → Int32} {Q : gP} (hQ : Q none (gKl n 26, gRl 23, gI0 xs, gL0)) : gR gM (d + 1) 35 [.ref 27] (gKl n 26, gRl 23, gI0 xs, gL0) Q := by
  show gW gM (d + 1) 0 0 k_X4_init 0 [.ref 27] [] (gKl n 26, gRl 23, gI0 xs, gL0) Q
  refine r_aload rfl rfl ?_
  refine r_obj rfl (Nat.le_of_ble_eq_true rfl) (Nat.le_of_ble_eq_true rfl) ?_
  exact r_vret rfl hQ
set_option maxHeartbeats 4000000 in
set_option maxRecDepth 100000 in
theorem n_X4_init_28 {n d : Nat} {xs : Nat → Int32} {Q : gP} (hQ : Q none (gKl n 27, gRl 24, gI0 xs, gL0)) : gR gM (d + 1) 35 [.ref 28] (gKl n 27, gRl 24, gI0 xs, gL0) Q := by
  show gW gM (d + 1) 0 0 k_X4_init 0 [.ref 28] [] (gKl n 27, gRl 24, gI0 xs, gL0) Q
  refine r_aload rfl rfl ?_
  refine r_obj rfl (Nat.le_of_ble_eq_true rfl) (Nat.le_of_ble_eq_true rfl) ?_
  exact r_vret rfl hQ
set_option maxHeartbeats 4000000 in
set_option maxRecDepth 100000 in
theorem n_X4_init_29 {n d : Nat} {xs : Nat → Int32} {Q : gP} (hQ : Q none (gKl n 28, gRl 25, gI0 xs, gL0)) : gR gM (d + 1) 35 [.ref 29] (gKl n 28, gRl 25, gI0 xs, gL0) Q := by
  show gW gM (d + 1) 0 0 k_X4_init 0 [.ref 29] [] (gKl n 28, gRl 25, gI0 xs, gL0) Q
  refine r_aload rfl rfl ?_
  refine r_obj rfl (Nat.le_of_ble_eq_true rfl) (Nat.le_of_ble_eq_true rfl) ?_
  exact r_vret rfl hQ
set_option maxHeartbeats 4000000 in
set_option maxRecDepth 100000 in
theorem n_X4_init_30 {n d : Nat} {xs : Nat → Int32} {Q : gP} (hQ : Q none (gKl n 29, gRl 26, gI0 xs, gL0)) : gR gM (d + 1) 35 [.ref 30] (gKl n 29, gRl 26, gI0 xs, gL0) Q := by
  show gW gM (d + 1) 0 0 k_X4_init 0 [.ref 30] [] (gKl n 29, gRl 26, gI0 xs, gL0) Q
  refine r_aload rfl rfl ?_
  refine r_obj rfl (Nat.le_of_ble_eq_true rfl) (Nat.le_of_ble_eq_true rfl) ?_
  exact r_vret rfl hQ
set_option maxHeartbeats 4000000 in
set_option maxRecDepth 100000 in
theorem n_X4_init_31 {n d : Nat} {xs : Nat → Int32} {Q : gP} (hQ : Q none (gKl n 30, gRl 27, gI0 xs, gL0)) : gR gM (d + 1) 35 [.ref 31] (gKl n 30, gRl 27, gI0 xs, gL0) Q := by
  show gW gM (d + 1) 0 0 k_X4_init 0 [.ref 31] [] (gKl n 30, gRl 27, gI0 xs, gL0) Q
  refine r_aload rfl rfl ?_
  refine r_obj rfl (Nat.le_of_ble_eq_true rfl) (Nat.le_of_ble_eq_true rfl) ?_
  exact r_vret rfl hQ
set_option maxHeartbeats 4000000 in
set_option maxRecDepth 100000 in
theorem n_X4_init_32 {n d : Nat} {xs : Nat → Int32} {Q : gP} (hQ : Q none (gKl n 31, gRl 28, gI0 xs, gL0)) : gR gM (d + 1) 35 [.ref 32] (gKl n 31, gRl 28, gI0 xs, gL0) Q := by
  show gW gM (d + 1) 0 0 k_X4_init 0 [.ref 32] [] (gKl n 31, gRl 28, gI0 xs, gL0) Q
  refine r_aload rfl rfl ?_
  refine r_obj rfl (Nat.le_of_ble_eq_true rfl) (Nat.le_of_ble_eq_true rfl) ?_
  exact r_vret rfl hQ
set_option maxHeartbeats 4000000 in
set_option maxRecDepth 100000 in
theorem n_X4_init_33 {n d : Nat} {xs : Nat → Int32} {Q : gP} (hQ : Q none (gKl n 32, gRl 29, gI0 xs, gL0)) : gR gM (d + 1) 35 [.ref 33] (gKl n 32, gRl 29, gI0 xs, gL0) Q := by
  show gW gM (d + 1) 0 0 k_X4_init 0 [.ref 33] [] (gKl n 32, gRl 29, gI0 xs, gL0) Q
  refine r_aload rfl rfl ?_
  refine r_obj rfl (Nat.le_of_ble_eq_true rfl) (Nat.le_of_ble_eq_true rfl) ?_
  exact r_vret rfl hQ
set_option maxHeartbeats 4000000 in
set_option maxRecDepth 100000 in
theorem n_X4_init_34 {n d : Nat} {xs : Nat → Int32} {Q : gP} (hQ : Q none (gKl n 33, gRl 30, gI0 xs, gL0)) : gR gM (d + 1) 35 [.ref 34] (gKl n 33, gRl 30, gI0 xs, gL0) Q := by
  show gW gM (d + 1) 0 0 k_X4_init 0 [.ref 34] [] (gKl n 33, gRl 30, gI0 xs, gL0) Q
  refine r_aload rfl rfl ?_
  refine r_obj rfl (Nat.le_of_ble_eq_true rfl) (Nat.le_of_ble_eq_true rfl) ?_
  exact r_vret rfl hQ
set_option maxHeartbeats 4000000 in
set_option maxRecDepth 100000 in
theorem n_X4_init_35 {n d : Nat} {xs : Nat → Int32} {Q : gP} (hQ : Q none (gKl n 34, gRl 31, gI0 xs, gL0)) : gR gM (d + 1) 35 [.ref 35] (gKl n 34, gRl 31, gI0 xs, gL0) Q := by
  show gW gM (d + 1) 0 0 k_X4_init 0 [.ref 35] [] (gKl n 34, gRl 31, gI0 xs, gL0) Q
  refine r_aload rfl rfl ?_
  refine r_obj rfl (Nat.le_of_ble_eq_true rfl) (Nat.le_of_ble_eq_true rfl) ?_
  exact r_vret rfl hQ
set_option maxHeartbeats 4000000 in
set_option maxRecDepth 100000 in
theorem n_X0_init_20 {n d : Nat} {xs : Nat → Int32} {Q : gP} (hQ : Q none (gKl n 34, gRl 32, gI0 xs, gL0)) : gR gM (d + 2) 1 [.ref 20] (gKl n 19, gRl 17, gI0 xs, gL0) Q := by
  show gW gM (d + 2) 15 126 k_X0_init 0 [.ref 20, .null] [] (gKl n 19, gRl 17, gI0 xs, gL0) Q
  refine r_aload rfl rfl ?_
  refine r_obj rfl (Nat.le_of_ble_eq_true rfl) (Nat.le_of_ble_eq_true rfl) ?_
  refine r_aload rfl rfl ?_
  refine r_const rfl (gcst 14) ?_
  refine r_newr 14 rfl rfl (Nat.le_of_ble_eq_true rfl) (Nat.le_of_ble_eq_true rfl) (Nat.le_of_ble_eq_true rfl) ?_
  rw [gal (n := n) (xs := xs) (x := 102 + 3 * 14) (k := 19) (p := 17) rfl (by decide +kernel)]
  show gW gM (d + 2) 14 112 k_X0_init 5 [.ref 20, .null] [.ref 21, .ref 20] (gKl n 20, gRl 17, gI0 xs, gL0) Q
  refine r_putR (c := 0) (k := 0) rfl rfl ⟨rfl, rfl⟩ ?_
  rw [gpu (p := 17) (a := 20) (j := 0) (v := 21) rfl rfl]
  refine r_const rfl (gcst 0) ?_
  refine r_istore [.ref 20, .int (nI 0)] rfl rfl (Nat.le_of_ble_eq_true rfl) rfl ?_
  refine r_iload rfl rfl ?_
  refine r_const rfl (gcst 14) ?_
  refine r_icmp_ge 20 rfl rfl (fun c1 => absurd c1 (by decide)) (fun c1 => ?_)
  refine r_aload rfl rfl ?_
  refine r_getR (c := 0) (k := 0) (v := 21) rfl rfl ⟨rfl, rfl⟩ (by decide +kernel) ?_
  refine r_iload rfl rfl ?_
  refine r_new (x := 4) (n := 8) rfl ⟨rfl, rfl⟩ (Nat.le_of_ble_eq_true rfl) (Nat.le_of_ble_eq_true rfl) ?_
  rw [gal (n := n) (xs := xs) (x := 4) (k := 20) (p := 18) rfl (by decide +kernel)]
  show gW gM (d + 2) 13 104 k_X0_init 15 [.ref 20, .int (nI 0)] [.ref 22, .int (nI 0), .ref 21] (gKl n 21, gRl 18, gI0 xs, gL0) Q
  refine r_dup rfl rfl ?_
  refine r_invi (a := 22) [] rfl rfl rfl rfl rfl (Nat.le_of_ble_eq_true rfl) (Nat.le_of_ble_eq_true rfl) (Nat.le_of_ble_eq_true rfl) ?_
  refine n_X4_init_22 ?_
  show gW gM (d + 2) 13 104 k_X0_init 17 [.ref 20, .int (nI 0)] [.ref 22, .int (nI 0), .ref 21] (gKl n 21, gRl 18, gI0 xs, gL0) Q
  refine r_aastore (n := 14) rfl rfl (vp_in_nI (n := 0) (N := 14) (by decide) (by decide)) rfl ?_
  rw [show gx (nI 0) = 0 from nI_clamp (n := 0) (by decide), gpu (p := 18) (a := 21) (j := 0) (v := 22) rfl rfl]
  refine r_iinc (y := nI 1) [.ref 20, .int (nI 1)] rfl rfl rfl (by decide) rfl ?_
  refine r_goto 8 rfl rfl ?_
  refine r_iload rfl rfl ?_
  refine r_const rfl (gcst 14) ?_
  refine r_icmp_ge 20 rfl rfl (fun c1 => absurd c1 (by decide)) (fun c1 => ?_)
  refine r_aload rfl rfl ?_
  refine r_getR (c := 0) (k := 0) (v := 21) rfl rfl ⟨rfl, rfl⟩ (by decide +kernel) ?_
  refine r_iload rfl rfl ?_
  refine r_new (x := 4) (n := 8) rfl ⟨rfl, rfl⟩ (Nat.le_of_ble_eq_true rfl) (Nat.le_of_ble_eq_true rfl) ?_
  rw [gal (n := n) (xs := xs) (x := 4) (k := 21) (p := 19) rfl (by decide +kernel)]
  show gW gM (d + 2) 12 96 k_X0_init 15 [.ref 20, .int (nI 1)] [.ref 23, .int (nI 1), .ref 21] (gKl n 22, gRl 19, gI0 xs, gL0) Q
  refine r_dup rfl rfl ?_
  refine r_invi (a := 23) [] rfl rfl rfl rfl rfl (Nat.le_of_ble_eq_true rfl) (Nat.le_of_ble_eq_true rfl) (Nat.le_of_ble_eq_true rfl) ?_
  refine n_X4_init_23 ?_
  show gW gM (d + 2) 12 96 k_X0_init 17 [.ref 20, .int (nI 1)] [.ref 23, .int (nI 1), .ref 21] (gKl n 22, gRl 19, gI0 xs, gL0) Q
  refine r_aastore (n := 14) rfl rfl (vp_in_nI (n := 1) (N := 14) (by decide) (by decide)) rfl ?_
  rw [show gx (nI 1) = 1 from nI_clamp (n := 1) (by decide), gpu (p := 19) (a := 21) (j := 1) (v := 23) rfl rfl]
  refine r_iinc (y := nI 2) [.ref 20, .int (nI 2)] rfl rfl rfl (by decide) rfl ?_
  refine r_goto 8 rfl rfl ?_
  refine r_iload rfl rfl ?_
  refine r_const rfl (gcst 14) ?_
  refine r_icmp_ge 20 rfl rfl (fun c1 => absurd c1 (by decide)) (fun c1 => ?_)
  refine r_aload rfl rfl ?_
  refine r_getR (c := 0) (k := 0) (v := 21) rfl rfl ⟨rfl, rfl⟩ (by decide +kernel) ?_
  refine r_iload rfl rfl ?_
  refine r_new (x := 4) (n := 8) rfl ⟨rfl, rfl⟩ (Nat.le_of_ble_eq_true rfl) (Nat.le_of_ble_eq_true rfl) ?_
  rw [gal (n := n) (xs := xs) (x := 4) (k := 22) (p := 20) rfl (by decide +kernel)]
  show gW gM (d + 2) 11 88 k_X0_init 15 [.ref 20, .int (nI 2)] [.ref 24, .int (nI 2), .ref 21] (gKl n 23, gRl 20, gI0 xs, gL0) Q
  refine r_dup rfl rfl ?_
  refine r_invi (a := 24) [] rfl rfl rfl rfl rfl (Nat.le_of_ble_eq_true rfl) (Nat.le_of_ble_eq_true rfl) (Nat.le_of_ble_eq_true rfl) ?_
  refine n_X4_init_24 ?_
  show gW gM (d + 2) 11 88 k_X0_init 17 [.ref 20, .int (nI 2)] [.ref 24, .int (nI 2), .ref 21] (gKl n 23, gRl 20, gI0 xs, gL0) Q
  refine r_aastore (n := 14) rfl rfl (vp_in_nI (n := 2) (N := 14) (by decide) (by decide)) rfl ?_
  rw [show gx (nI 2) = 2 from nI_clamp (n := 2) (by decide), gpu (p := 20) (a := 21) (j := 2) (v := 24) rfl rfl]
  refine r_iinc (y := nI 3) [.ref 20, .int (nI 3)] rfl rfl rfl (by decide) rfl ?_
  refine r_goto 8 rfl rfl ?_
  refine r_iload rfl rfl ?_
  refine r_const rfl (gcst 14) ?_
  refine r_icmp_ge 20 rfl rfl (fun c1 => absurd c1 (by decide)) (fun c1 => ?_)
  refine r_aload rfl rfl ?_
  refine r_getR (c := 0) (k := 0) (v := 21) rfl rfl ⟨rfl, rfl⟩ (by decide +kernel) ?_
  refine r_iload rfl rfl ?_
  refine r_new (x := 4) (n := 8) rfl ⟨rfl, rfl⟩ (Nat.le_of_ble_eq_true rfl) (Nat.le_of_ble_eq_true rfl) ?_
  rw [gal (n := n) (xs := xs) (x := 4) (k := 23) (p := 21) rfl (by decide +kernel)]
  show gW gM (d + 2) 10 80 k_X0_init 15 [.ref 20, .int (nI 3)] [.ref 25, .int (nI 3), .ref 21] (gKl n 24, gRl 21, gI0 xs, gL0) Q
  refine r_dup rfl rfl ?_
  refine r_invi (a := 25) [] rfl rfl rfl rfl rfl (Nat.le_of_ble_eq_true rfl) (Nat.le_of_ble_eq_true rfl) (Nat.le_of_ble_eq_true rfl) ?_
  refine n_X4_init_25 ?_
  show gW gM (d + 2) 10 80 k_X0_init 17 [.ref 20, .int (nI 3)] [.ref 25, .int (nI 3), .ref 21] (gKl n 24, gRl 21, gI0 xs, gL0) Q
  refine r_aastore (n := 14) rfl rfl (vp_in_nI (n := 3) (N := 14) (by decide) (by decide)) rfl ?_
  rw [show gx (nI 3) = 3 from nI_clamp (n := 3) (by decide), gpu (p := 21) (a := 21) (j := 3) (v := 25) rfl rfl]
  refine r_iinc (y := nI 4) [.ref 20, .int (nI 4)] rfl rfl rfl (by decide) rfl ?_
  refine r_goto 8 rfl rfl ?_
  refine r_iload rfl rfl ?_
  refine r_const rfl (gcst 14) ?_
  refine r_icmp_ge 20 rfl rfl (fun c1 => absurd c1 (by decide)) (fun c1 => ?_)
  refine r_aload rfl rfl ?_
  refine r_getR (c := 0) (k := 0) (v := 21) rfl rfl ⟨rfl, rfl⟩ (by decide +kernel) ?_
  refine r_iload rfl rfl ?_
  refine r_new (x := 4) (n := 8) rfl ⟨rfl, rfl⟩ (Nat.le_of_ble_eq_true rfl) (Nat.le_of_ble_eq_true rfl) ?_
  rw [gal (n := n) (xs := xs) (x := 4) (k := 24) (p := 22) rfl (by decide +kernel)]
  show gW gM (d + 2) 9 72 k_X0_init 15 [.ref 20, .int (nI 4)] [.ref 26, .int (nI 4), .ref 21] (gKl n 25, gRl 22, gI0 xs, gL0) Q
  refine r_dup rfl rfl ?_
  refine r_invi (a := 26) [] rfl rfl rfl rfl rfl (Nat.le_of_ble_eq_true rfl) (Nat.le_of_ble_eq_true rfl) (Nat.le_of_ble_eq_true rfl) ?_
  refine n_X4_init_26 ?_
  show gW gM (d + 2) 9 72 k_X0_init 17 [.ref 20, .int (nI 4)] [.ref 26, .int (nI 4), .ref 21] (gKl n 25, gRl 22, gI0 xs, gL0) Q
  refine r_aastore (n := 14) rfl rfl (vp_in_nI (n := 4) (N := 14) (by decide) (by decide)) rfl ?_
  rw [show gx (nI 4) = 4 from nI_clamp (n := 4) (by decide), gpu (p := 22) (a := 21) (j := 4) (v := 26) rfl rfl]
  refine r_iinc (y := nI 5) [.ref 20, .int (nI 5)] rfl rfl rfl (by decide) rfl ?_
  refine r_goto 8 rfl rfl ?_
  refine r_iload rfl rfl ?_
  refine r_const rfl (gcst 14) ?_
  refine r_icmp_ge 20 rfl rfl (fun c1 => absurd c1 (by decide)) (fun c1 => ?_)
  refine r_aload rfl rfl ?_
  refine r_getR (c := 0) (k := 0) (v := 21) rfl rfl ⟨rfl, rfl⟩ (by decide +kernel) ?_
  refine r_iload rfl rfl ?_
  refine r_new (x := 4) (n := 8) rfl ⟨rfl, rfl⟩ (Nat.le_of_ble_eq_true rfl) (Nat.le_of_ble_eq_true rfl) ?_
  rw [gal (n := n) (xs := xs) (x := 4) (k := 25) (p := 23) rfl (by decide +kernel)]
  show gW gM (d + 2) 8 64 k_X0_init 15 [.ref 20, .int (nI 5)] [.ref 27, .int (nI 5), .ref 21] (gKl n 26, gRl 23, gI0 xs, gL0) Q
  refine r_dup rfl rfl ?_
  refine r_invi (a := 27) [] rfl rfl rfl rfl rfl (Nat.le_of_ble_eq_true rfl) (Nat.le_of_ble_eq_true rfl) (Nat.le_of_ble_eq_true rfl) ?_
  refine n_X4_init_27 ?_
  show gW gM (d + 2) 8 64 k_X0_init 17 [.ref 20, .int (nI 5)] [.ref 27, .int (nI 5), .ref 21] (gKl n 26, gRl 23, gI0 xs, gL0) Q
  refine r_aastore (n := 14) rfl rfl (vp_in_nI (n := 5) (N := 14) (by decide) (by decide)) rfl ?_
  rw [show gx (nI 5) = 5 from nI_clamp (n := 5) (by decide), gpu (p := 23) (a := 21) (j := 5) (v := 27) rfl rfl]
  refine r_iinc (y := nI 6) [.ref 20, .int (nI 6)] rfl rfl rfl (by decide) rfl ?_
  refine r_goto 8 rfl rfl ?_
  refine r_iload rfl rfl ?_
  refine r_const rfl (gcst 14) ?_
  refine r_icmp_ge 20 rfl rfl (fun c1 => absurd c1 (by decide)) (fun c1 => ?_)
  refine r_aload rfl rfl ?_
  refine r_getR (c := 0) (k := 0) (v := 21) rfl rfl ⟨rfl, rfl⟩ (by decide +kernel) ?_
  refine r_iload rfl rfl ?_
  refine r_new (x := 4) (n := 8) rfl ⟨rfl, rfl⟩ (Nat.le_of_ble_eq_true rfl) (Nat.le_of_ble_eq_true rfl) ?_
  rw [gal (n := n) (xs := xs) (x := 4) (k := 26) (p := 24) rfl (by decide +kernel)]
  show gW gM (d + 2) 7 56 k_X0_init 15 [.ref 20, .int (nI 6)] [.ref 28, .int (nI 6), .ref 21] (gKl n 27, gRl 24, gI0 xs, gL0) Q
  refine r_dup rfl rfl ?_
  refine r_invi (a := 28) [] rfl rfl rfl rfl rfl (Nat.le_of_ble_eq_true rfl) (Nat.le_of_ble_eq_true rfl) (Nat.le_of_ble_eq_true rfl) ?_
  refine n_X4_init_28 ?_
  show gW gM (d + 2) 7 56 k_X0_init 17 [.ref 20, .int (nI 6)] [.ref 28, .int (nI 6), .ref 21] (gKl n 27, gRl 24, gI0 xs, gL0) Q
  refine r_aastore (n := 14) rfl rfl (vp_in_nI (n := 6) (N := 14) (by decide) (by decide)) rfl ?_
  rw [show gx (nI 6) = 6 from nI_clamp (n := 6) (by decide), gpu (p := 24) (a := 21) (j := 6) (v := 28) rfl rfl]
  refine r_iinc (y := nI 7) [.ref 20, .int (nI 7)] rfl rfl rfl (by decide) rfl ?_
  refine r_goto 8 rfl rfl ?_
  refine r_iload rfl rfl ?_
  refine r_const rfl (gcst 14) ?_
  refine r_icmp_ge 20 rfl rfl (fun c1 => absurd c1 (by decide)) (fun c1 => ?_)
  refine r_aload rfl rfl ?_
  refine r_getR (c := 0) (k := 0) (v := 21) rfl rfl ⟨rfl, rfl⟩ (by decide +kernel) ?_
  refine r_iload rfl rfl ?_
  refine r_new (x := 4) (n := 8) rfl ⟨rfl, rfl⟩ (Nat.le_of_ble_eq_true rfl) (Nat.le_of_ble_eq_true rfl) ?_
  rw [gal (n := n) (xs := xs) (x := 4) (k := 27) (p := 25) rfl (by decide +kernel)]
  show gW gM (d + 2) 6 48 k_X0_init 15 [.ref 20, .int (nI 7)] [.ref 29, .int (nI 7), .ref 21] (gKl n 28, gRl 25, gI0 xs, gL0) Q
  refine r_dup rfl rfl ?_
  refine r_invi (a := 29) [] rfl rfl rfl rfl rfl (Nat.le_of_ble_eq_true rfl) (Nat.le_of_ble_eq_true rfl) (Nat.le_of_ble_eq_true rfl) ?_
  refine n_X4_init_29 ?_
  show gW gM (d + 2) 6 48 k_X0_init 17 [.ref 20, .int (nI 7)] [.ref 29, .int (nI 7), .ref 21] (gKl n 28, gRl 25, gI0 xs, gL0) Q
  refine r_aastore (n := 14) rfl rfl (vp_in_nI (n := 7) (N := 14) (by decide) (by decide)) rfl ?_
  rw [show gx (nI 7) = 7 from nI_clamp (n := 7) (by decide), gpu (p := 25) (a := 21) (j := 7) (v := 29) rfl rfl]
  refine r_iinc (y := nI 8) [.ref 20, .int (nI 8)] rfl rfl rfl (by decide) rfl ?_
  refine r_goto 8 rfl rfl ?_
  refine r_iload rfl rfl ?_
  refine r_const rfl (gcst 14) ?_
  refine r_icmp_ge 20 rfl rfl (fun c1 => absurd c1 (by decide)) (fun c1 => ?_)
  refine r_aload rfl rfl ?_
  refine r_getR (c := 0) (k := 0) (v := 21) rfl rfl ⟨rfl, rfl⟩ (by decide +kernel) ?_
  refine r_iload rfl rfl ?_
  refine r_new (x := 4) (n := 8) rfl ⟨rfl, rfl⟩ (Nat.le_of_ble_eq_true rfl) (Nat.le_of_ble_eq_true rfl) ?_
  rw [gal (n := n) (xs := xs) (x := 4) (k := 28) (p := 26) rfl (by decide +kernel)]
  show gW gM (d + 2) 5 40 k_X0_init 15 [.ref 20, .int (nI 8)] [.ref 30, .int (nI 8), .ref 21] (gKl n 29, gRl 26, gI0 xs, gL0) Q
  refine r_dup rfl rfl ?_
  refine r_invi (a := 30) [] rfl rfl rfl rfl rfl (Nat.le_of_ble_eq_true rfl) (Nat.le_of_ble_eq_true rfl) (Nat.le_of_ble_eq_true rfl) ?_
  refine n_X4_init_30 ?_
  show gW gM (d + 2) 5 40 k_X0_init 17 [.ref 20, .int (nI 8)] [.ref 30, .int (nI 8), .ref 21] (gKl n 29, gRl 26, gI0 xs, gL0) Q
  refine r_aastore (n := 14) rfl rfl (vp_in_nI (n := 8) (N := 14) (by decide) (by decide)) rfl ?_
  rw [show gx (nI 8) = 8 from nI_clamp (n := 8) (by decide), gpu (p := 26) (a := 21) (j := 8) (v := 30) rfl rfl]
  refine r_iinc (y := nI 9) [.ref 20, .int (nI 9)] rfl rfl rfl (by decide) rfl ?_
  refine r_goto 8 rfl rfl ?_
  refine r_iload rfl rfl ?_
  refine r_const rfl (gcst 14) ?_
  refine r_icmp_ge 20 rfl rfl (fun c1 => absurd c1 (by decide)) (fun c1 => ?_)
  refine r_aload rfl rfl ?_
  refine r_getR (c := 0) (k := 0) (v := 21) rfl rfl ⟨rfl, rfl⟩ (by decide +kernel) ?_
  refine r_iload rfl rfl ?_
  refine r_new (x := 4) (n := 8) rfl ⟨rfl, rfl⟩ (Nat.le_of_ble_eq_true rfl) (Nat.le_of_ble_eq_true rfl) ?_
  rw [gal (n := n) (xs := xs) (x := 4) (k := 29) (p := 27) rfl (by decide +kernel)]
  show gW gM (d + 2) 4 32 k_X0_init 15 [.ref 20, .int (nI 9)] [.ref 31, .int (nI 9), .ref 21] (gKl n 30, gRl 27, gI0 xs, gL0) Q
  refine r_dup rfl rfl ?_
  refine r_invi (a := 31) [] rfl rfl rfl rfl rfl (Nat.le_of_ble_eq_true rfl) (Nat.le_of_ble_eq_true rfl) (Nat.le_of_ble_eq_true rfl) ?_
  refine n_X4_init_31 ?_
  show gW gM (d + 2) 4 32 k_X0_init 17 [.ref 20, .int (nI 9)] [.ref 31, .int (nI 9), .ref 21] (gKl n 30, gRl 27, gI0 xs, gL0) Q
  refine r_aastore (n := 14) rfl rfl (vp_in_nI (n := 9) (N := 14) (by decide) (by decide)) rfl ?_
  rw [show gx (nI 9) = 9 from nI_clamp (n := 9) (by decide), gpu (p := 27) (a := 21) (j := 9) (v := 31) rfl rfl]
  refine r_iinc (y := nI 10) [.ref 20, .int (nI 10)] rfl rfl rfl (by decide) rfl ?_
  refine r_goto 8 rfl rfl ?_
  refine r_iload rfl rfl ?_
  refine r_const rfl (gcst 14) ?_
  refine r_icmp_ge 20 rfl rfl (fun c1 => absurd c1 (by decide)) (fun c1 => ?_)
  refine r_aload rfl rfl ?_
  refine r_getR (c := 0) (k := 0) (v := 21) rfl rfl ⟨rfl, rfl⟩ (by decide +kernel) ?_
  refine r_iload rfl rfl ?_
  refine r_new (x := 4) (n := 8) rfl ⟨rfl, rfl⟩ (Nat.le_of_ble_eq_true rfl) (Nat.le_of_ble_eq_true rfl) ?_
  rw [gal (n := n) (xs := xs) (x := 4) (k := 30) (p := 28) rfl (by decide +kernel)]
  show gW gM (d + 2) 3 24 k_X0_init 15 [.ref 20, .int (nI 10)] [.ref 32, .int (nI 10), .ref 21] (gKl n 31, gRl 28, gI0 xs, gL0) Q
  refine r_dup rfl rfl ?_
  refine r_invi (a := 32) [] rfl rfl rfl rfl rfl (Nat.le_of_ble_eq_true rfl) (Nat.le_of_ble_eq_true rfl) (Nat.le_of_ble_eq_true rfl) ?_
  refine n_X4_init_32 ?_
  show gW gM (d + 2) 3 24 k_X0_init 17 [.ref 20, .int (nI 10)] [.ref 32, .int (nI 10), .ref 21] (gKl n 31, gRl 28, gI0 xs, gL0) Q
  refine r_aastore (n := 14) rfl rfl (vp_in_nI (n := 10) (N := 14) (by decide) (by decide)) rfl ?_
  rw [show gx (nI 10) = 10 from nI_clamp (n := 10) (by decide), gpu (p := 28) (a := 21) (j := 10) (v := 32) rfl rfl]
  refine r_iinc (y := nI 11) [.ref 20, .int (nI 11)] rfl rfl rfl (by decide) rfl ?_
  refine r_goto 8 rfl rfl ?_
  refine r_iload rfl rfl ?_
  refine r_const rfl (gcst 14) ?_
  refine r_icmp_ge 20 rfl rfl (fun c1 => absurd c1 (by decide)) (fun c1 => ?_)
  refine r_aload rfl rfl ?_
  refine r_getR (c := 0) (k := 0) (v := 21) rfl rfl ⟨rfl, rfl⟩ (by decide +kernel) ?_
  refine r_iload rfl rfl ?_
  refine r_new (x := 4) (n := 8) rfl ⟨rfl, rfl⟩ (Nat.le_of_ble_eq_true rfl) (Nat.le_of_ble_eq_true rfl) ?_
  rw [gal (n := n) (xs := xs) (x := 4) (k := 31) (p := 29) rfl (by decide +kernel)]
  show gW gM (d + 2) 2 16 k_X0_init 15 [.ref 20, .int (nI 11)] [.ref 33, .int (nI 11), .ref 21] (gKl n 32, gRl 29, gI0 xs, gL0) Q
  refine r_dup rfl rfl ?_
  refine r_invi (a := 33) [] rfl rfl rfl rfl rfl (Nat.le_of_ble_eq_true rfl) (Nat.le_of_ble_eq_true rfl) (Nat.le_of_ble_eq_true rfl) ?_
  refine n_X4_init_33 ?_
  show gW gM (d + 2) 2 16 k_X0_init 17 [.ref 20, .int (nI 11)] [.ref 33, .int (nI 11), .ref 21] (gKl n 32, gRl 29, gI0 xs, gL0) Q
  refine r_aastore (n := 14) rfl rfl (vp_in_nI (n := 11) (N := 14) (by decide) (by decide)) rfl ?_
  rw [show gx (nI 11) = 11 from nI_clamp (n := 11) (by decide), gpu (p := 29) (a := 21) (j := 11) (v := 33) rfl rfl]
  refine r_iinc (y := nI 12) [.ref 20, .int (nI 12)] rfl rfl rfl (by decide) rfl ?_
  refine r_goto 8 rfl rfl ?_
  refine r_iload rfl rfl ?_
  refine r_const rfl (gcst 14) ?_
  refine r_icmp_ge 20 rfl rfl (fun c1 => absurd c1 (by decide)) (fun c1 => ?_)
  refine r_aload rfl rfl ?_
  refine r_getR (c := 0) (k := 0) (v := 21) rfl rfl ⟨rfl, rfl⟩ (by decide +kernel) ?_
  refine r_iload rfl rfl ?_
  refine r_new (x := 4) (n := 8) rfl ⟨rfl, rfl⟩ (Nat.le_of_ble_eq_true rfl) (Nat.le_of_ble_eq_true rfl) ?_
  rw [gal (n := n) (xs := xs) (x := 4) (k := 32) (p := 30) rfl (by decide +kernel)]
  show gW gM (d + 2) 1 8 k_X0_init 15 [.ref 20, .int (nI 12)] [.ref 34, .int (nI 12), .ref 21] (gKl n 33, gRl 30, gI0 xs, gL0) Q
  refine r_dup rfl rfl ?_
  refine r_invi (a := 34) [] rfl rfl rfl rfl rfl (Nat.le_of_ble_eq_true rfl) (Nat.le_of_ble_eq_true rfl) (Nat.le_of_ble_eq_true rfl) ?_
  refine n_X4_init_34 ?_
  show gW gM (d + 2) 1 8 k_X0_init 17 [.ref 20, .int (nI 12)] [.ref 34, .int (nI 12), .ref 21] (gKl n 33, gRl 30, gI0 xs, gL0) Q
  refine r_aastore (n := 14) rfl rfl (vp_in_nI (n := 12) (N := 14) (by decide) (by decide)) rfl ?_
  rw [show gx (nI 12) = 12 from nI_clamp (n := 12) (by decide), gpu (p := 30) (a := 21) (j := 12) (v := 34) rfl rfl]
  refine r_iinc (y := nI 13) [.ref 20, .int (nI 13)] rfl rfl rfl (by decide) rfl ?_
  refine r_goto 8 rfl rfl ?_
  refine r_iload rfl rfl ?_
  refine r_const rfl (gcst 14) ?_
  refine r_icmp_ge 20 rfl rfl (fun c1 => absurd c1 (by decide)) (fun c1 => ?_)
  refine r_aload rfl rfl ?_
  refine r_getR (c := 0) (k := 0) (v := 21) rfl rfl ⟨rfl, rfl⟩ (by decide +kernel) ?_
  refine r_iload rfl rfl ?_
  refine r_new (x := 4) (n := 8) rfl ⟨rfl, rfl⟩ (Nat.le_of_ble_eq_true rfl) (Nat.le_of_ble_eq_true rfl) ?_
  rw [gal (n := n) (xs := xs) (x := 4) (k := 33) (p := 31) rfl (by decide +kernel)]
  show gW gM (d + 2) 0 0 k_X0_init 15 [.ref 20, .int (nI 13)] [.ref 35, .int (nI 13), .ref 21] (gKl n 34, gRl 31, gI0 xs, gL0) Q
  refine r_dup rfl rfl ?_
  refine r_invi (a := 35) [] rfl rfl rfl rfl rfl (Nat.le_of_ble_eq_true rfl) (Nat.le_of_ble_eq_true rfl) (Nat.le_of_ble_eq_true rfl) ?_
  refine n_X4_init_35 ?_
  show gW gM (d + 2) 0 0 k_X0_init 17 [.ref 20, .int (nI 13)] [.ref 35, .int (nI 13), .ref 21] (gKl n 34, gRl 31, gI0 xs, gL0) Q
  refine r_aastore (n := 14) rfl rfl (vp_in_nI (n := 13) (N := 14) (by decide) (by decide)) rfl ?_
  rw [show gx (nI 13) = 13 from nI_clamp (n := 13) (by decide), gpu (p := 31) (a := 21) (j := 13) (v := 35) rfl rfl]
  refine r_iinc (y := nI 14) [.ref 20, .int (nI 14)] rfl rfl rfl (by decide) rfl ?_
  refine r_goto 8 rfl rfl ?_
  refine r_iload rfl rfl ?_
  refine r_const rfl (gcst 14) ?_
  refine r_icmp_ge 20 rfl rfl (fun c1 => ?_) (fun c1 => absurd (by decide) c1)
  exact r_vret rfl hQ
set_option maxHeartbeats 4000000 in
set_option maxRecDepth 100000 in
theorem n_X4_init_37 {n d : Nat} {xs : Nat → Int32} {Q : gP} (hQ : Q none (gKl n 36, gRl 34, gI0 xs, gL0)) : gR gM (d + 1) 35 [.ref 37] (gKl n 36, gRl 34, gI0 xs, gL0) Q := by
  show gW gM (d + 1) 0 0 k_X4_init 0 [.ref 37] [] (gKl n 36, gRl 34, gI0 xs, gL0) Q
  refine r_aload rfl rfl ?_
  refine r_obj rfl (Nat.le_of_ble_eq_true rfl) (Nat.le_of_ble_eq_true rfl) ?_
  exact r_vret rfl hQ
set_option maxHeartbeats 4000000 in
set_option maxRecDepth 100000 in
theorem n_X4_init_38 {n d : Nat} {xs : Nat → Int32} {Q : gP} (hQ : Q none (gKl n 37, gRl 35, gI0 xs, gL0)) : gR gM (d + 1) 35 [.ref 38] (gKl n 37, gRl 35, gI0 xs, gL0) Q := by
  show gW gM (d + 1) 0 0 k_X4_init 0 [.ref 38] [] (gKl n 37, gRl 35, gI0 xs, gL0) Q
  refine r_aload rfl rfl ?_
  refine r_obj rfl (Nat.le_of_ble_eq_true rfl) (Nat.le_of_ble_eq_true rfl) ?_
  exact r_vret rfl hQ
set_option maxHeartbeats 4000000 in
set_option maxRecDepth 100000 in
theorem n_X2_init_40 {n d : Nat} {xs : Nat → Int32} {Q : gP} (hQ : Q none (gKl n 42, gRl 40, gI0 xs, gL0)) : gR gM (d + 1) 27 [.ref 40] (gKl n 39, gRl 37, gI0 xs, gL0) Q := by
  show gW gM (d + 1) 3 18 k_X2_init 0 [.ref 40] [] (gKl n 39, gRl 37, gI0 xs, gL0) Q
  refine r_aload rfl rfl ?_
  refine r_obj rfl (Nat.le_of_ble_eq_true rfl) (Nat.le_of_ble_eq_true rfl) ?_
  refine r_aload rfl rfl ?_
  refine r_const rfl (gcst 6) ?_
  refine r_newi 6 0 rfl rfl (Nat.le_of_ble_eq_true rfl) rfl (by decide) (Nat.le_of_ble_eq_true rfl) (Nat.le_of_ble_eq_true rfl) ?_
  rw [gal (n := n) (xs := xs) (x := 100 + 0 + 3 * 6) (k := 39) (p := 37) rfl (by decide +kernel)]
  show gW gM (d + 1) 2 12 k_X2_init 5 [.ref 40] [.ref 41, .ref 40] (gKl n 40, gRl 37, gI0 xs, gL0) Q
  refine r_putR (c := 2) (k := 0) rfl rfl ⟨rfl, rfl⟩ ?_
  rw [gpu (p := 37) (a := 40) (j := 0) (v := 41) rfl rfl]
  refine r_aload rfl rfl ?_
  refine r_const rfl (gcst 6) ?_
  refine r_newi 6 0 rfl rfl (Nat.le_of_ble_eq_true rfl) rfl (by decide) (Nat.le_of_ble_eq_true rfl) (Nat.le_of_ble_eq_true rfl) ?_
  rw [gal (n := n) (xs := xs) (x := 100 + 0 + 3 * 6) (k := 40) (p := 38) rfl (by decide +kernel)]
  show gW gM (d + 1) 1 6 k_X2_init 9 [.ref 40] [.ref 42, .ref 40] (gKl n 41, gRl 38, gI0 xs, gL0) Q
  refine r_putR (c := 2) (k := 1) rfl rfl ⟨rfl, rfl⟩ ?_
  rw [gpu (p := 38) (a := 40) (j := 1) (v := 42) rfl rfl]
  refine r_aload rfl rfl ?_
  refine r_const rfl (gcst 6) ?_
  refine r_newi 6 0 rfl rfl (Nat.le_of_ble_eq_true rfl) rfl (by decide) (Nat.le_of_ble_eq_true rfl) (Nat.le_of_ble_eq_true rfl) ?_
  rw [gal (n := n) (xs := xs) (x := 100 + 0 + 3 * 6) (k := 41) (p := 39) rfl (by decide +kernel)]
  show gW gM (d + 1) 0 0 k_X2_init 13 [.ref 40] [.ref 43, .ref 40] (gKl n 42, gRl 39, gI0 xs, gL0) Q
  refine r_putR (c := 2) (k := 2) rfl rfl ⟨rfl, rfl⟩ ?_
  rw [gpu (p := 39) (a := 40) (j := 2) (v := 43) rfl rfl]
  exact r_vret rfl hQ
set_option maxHeartbeats 4000000 in
set_option maxRecDepth 100000 in
theorem n_X6_init_46 {n d : Nat} {xs : Nat → Int32} {Q : gP} (hQ : Q none (gKl n 46, gRl 43, gI0 xs, gL0)) : gR gM (d + 1) 50 [.ref 46] (gKl n 45, gRl 42, gI0 xs, gL0) Q := by
  show gW gM (d + 1) 1 12 k_X6_init 0 [.ref 46] [] (gKl n 45, gRl 42, gI0 xs, gL0) Q
  refine r_aload rfl rfl ?_
  refine r_obj rfl (Nat.le_of_ble_eq_true rfl) (Nat.le_of_ble_eq_true rfl) ?_
  refine r_aload rfl rfl ?_
  refine r_const rfl (gcst 12) ?_
  refine r_newi 12 0 rfl rfl (Nat.le_of_ble_eq_true rfl) rfl (by decide) (Nat.le_of_ble_eq_true rfl) (Nat.le_of_ble_eq_true rfl) ?_
  rw [gal (n := n) (xs := xs) (x := 100 + 0 + 3 * 12) (k := 45) (p := 42) rfl (by decide +kernel)]
  show gW gM (d + 1) 0 0 k_X6_init 5 [.ref 46] [.ref 47, .ref 46] (gKl n 46, gRl 42, gI0 xs, gL0) Q
  refine r_putR (c := 6) (k := 0) rfl rfl ⟨rfl, rfl⟩ ?_
  rw [gpu (p := 42) (a := 46) (j := 0) (v := 47) rfl rfl]
  exact r_vret rfl hQ
set_option maxHeartbeats 4000000 in
set_option maxRecDepth 100000 in
theorem n_X4_init_48 {n d : Nat} {xs : Nat → Int32} {Q : gP} (hQ : Q none (gKl n 47, gRl 44, gI0 xs, gL0)) : gR gM (d + 1) 35 [.ref 48] (gKl n 47, gRl 44, gI0 xs, gL0) Q := by
  show gW gM (d + 1) 0 0 k_X4_init 0 [.ref 48] [] (gKl n 47, gRl 44, gI0 xs, gL0) Q
  refine r_aload rfl rfl ?_
  refine r_obj rfl (Nat.le_of_ble_eq_true rfl) (Nat.le_of_ble_eq_true rfl) ?_
  exact r_vret rfl hQ
set_option maxHeartbeats 4000000 in
set_option maxRecDepth 100000 in
theorem n_X4_init_49 {n d : Nat} {xs : Nat → Int32} {Q : gP} (hQ : Q none (gKl n 48, gRl 45, gI0 xs, gL0)) : gR gM (d + 1) 35 [.ref 49] (gKl n 48, gRl 45, gI0 xs, gL0) Q := by
  show gW gM (d + 1) 0 0 k_X4_init 0 [.ref 49] [] (gKl n 48, gRl 45, gI0 xs, gL0) Q
  refine r_aload rfl rfl ?_
  refine r_obj rfl (Nat.le_of_ble_eq_true rfl) (Nat.le_of_ble_eq_true rfl) ?_
  exact r_vret rfl hQ
set_option maxHeartbeats 4000000 in
set_option maxRecDepth 100000 in
theorem n_X5_init_44 {n d : Nat} {xs : Nat → Int32} {Q : gP} (hQ : Q none (gKl n 48, gRl 46, gI0 xs, gL0)) : gR gM (d + 2) 46 [.ref 44] (gKl n 43, gRl 41, gI0 xs, gL0) Q := by
  show gW gM (d + 2) 5 32 k_X5_init 0 [.ref 44, .null] [] (gKl n 43, gRl 41, gI0 xs, gL0) Q
  refine r_aload rfl rfl ?_
  refine r_obj rfl (Nat.le_of_ble_eq_true rfl) (Nat.le_of_ble_eq_true rfl) ?_
  refine r_aload rfl rfl ?_
  refine r_const rfl (gcst 2) ?_
  refine r_newr 2 rfl rfl (Nat.le_of_ble_eq_true rfl) (Nat.le_of_ble_eq_true rfl) (Nat.le_of_ble_eq_true rfl) ?_
  rw [gal (n := n) (xs := xs) (x := 102 + 3 * 2) (k := 43) (p := 41) rfl (by decide +kernel)]
  show gW gM (d + 2) 4 30 k_X5_init 5 [.ref 44, .null] [.ref 45, .ref 44] (gKl n 44, gRl 41, gI0 xs, gL0) Q
  refine r_putR (c := 5) (k := 0) rfl rfl ⟨rfl, rfl⟩ ?_
  rw [gpu (p := 41) (a := 44) (j := 0) (v := 45) rfl rfl]
  refine r_aload rfl rfl ?_
  refine r_new (x := 6) (n := 2) rfl ⟨rfl, rfl⟩ (Nat.le_of_ble_eq_true rfl) (Nat.le_of_ble_eq_true rfl) ?_
  rw [gal (n := n) (xs := xs) (x := 6) (k := 44) (p := 42) rfl (by decide +kernel)]
  show gW gM (d + 2) 3 28 k_X5_init 8 [.ref 44, .null] [.ref 46, .ref 44] (gKl n 45, gRl 42, gI0 xs, gL0) Q
  refine r_dup rfl rfl ?_
  refine r_invi (a := 46) [] rfl rfl rfl rfl rfl (Nat.le_of_ble_eq_true rfl) (Nat.le_of_ble_eq_true rfl) (Nat.le_of_ble_eq_true rfl) ?_
  refine n_X6_init_46 ?_
  show gW gM (d + 2) 2 16 k_X5_init 10 [.ref 44, .null] [.ref 46, .ref 44] (gKl n 46, gRl 43, gI0 xs, gL0) Q
  refine r_putR (c := 5) (k := 1) rfl rfl ⟨rfl, rfl⟩ ?_
  rw [gpu (p := 43) (a := 44) (j := 1) (v := 46) rfl rfl]
  refine r_const rfl (gcst 0) ?_
  refine r_istore [.ref 44, .int (nI 0)] rfl rfl (Nat.le_of_ble_eq_true rfl) rfl ?_
  refine r_iload rfl rfl ?_
  refine r_aload rfl rfl ?_
  refine r_getR (c := 5) (k := 0) (v := 45) rfl rfl ⟨rfl, rfl⟩ (by decide +kernel) ?_
  refine r_alen 2 2 (v := nI 2) rfl rfl (by decide) rfl ?_
  refine r_icmp_ge 27 rfl rfl (fun c1 => absurd c1 (by decide)) (fun c1 => ?_)
  refine r_aload rfl rfl ?_
  refine r_getR (c := 5) (k := 0) (v := 45) rfl rfl ⟨rfl, rfl⟩ (by decide +kernel) ?_
  refine r_iload rfl rfl ?_
  refine r_new (x := 4) (n := 8) rfl ⟨rfl, rfl⟩ (Nat.le_of_ble_eq_true rfl) (Nat.le_of_ble_eq_true rfl) ?_
  rw [gal (n := n) (xs := xs) (x := 4) (k := 46) (p := 44) rfl (by decide +kernel)]
  show gW gM (d + 2) 1 8 k_X5_init 22 [.ref 44, .int (nI 0)] [.ref 48, .int (nI 0), .ref 45] (gKl n 47, gRl 44, gI0 xs, gL0) Q
  refine r_dup rfl rfl ?_
  refine r_invi (a := 48) [] rfl rfl rfl rfl rfl (Nat.le_of_ble_eq_true rfl) (Nat.le_of_ble_eq_true rfl) (Nat.le_of_ble_eq_true rfl) ?_
  refine n_X4_init_48 ?_
  show gW gM (d + 2) 1 8 k_X5_init 24 [.ref 44, .int (nI 0)] [.ref 48, .int (nI 0), .ref 45] (gKl n 47, gRl 44, gI0 xs, gL0) Q
  refine r_aastore (n := 2) rfl rfl (vp_in_nI (n := 0) (N := 2) (by decide) (by decide)) rfl ?_
  rw [show gx (nI 0) = 0 from nI_clamp (n := 0) (by decide), gpu (p := 44) (a := 45) (j := 0) (v := 48) rfl rfl]
  refine r_iinc (y := nI 1) [.ref 44, .int (nI 1)] rfl rfl rfl (by decide) rfl ?_
  refine r_goto 13 rfl rfl ?_
  refine r_iload rfl rfl ?_
  refine r_aload rfl rfl ?_
  refine r_getR (c := 5) (k := 0) (v := 45) rfl rfl ⟨rfl, rfl⟩ (by decide +kernel) ?_
  refine r_alen 2 2 (v := nI 2) rfl rfl (by decide) rfl ?_
  refine r_icmp_ge 27 rfl rfl (fun c1 => absurd c1 (by decide)) (fun c1 => ?_)
  refine r_aload rfl rfl ?_
  refine r_getR (c := 5) (k := 0) (v := 45) rfl rfl ⟨rfl, rfl⟩ (by decide +kernel) ?_
  refine r_iload rfl rfl ?_
  refine r_new (x := 4) (n := 8) rfl ⟨rfl, rfl⟩ (Nat.le_of_ble_eq_true rfl) (Nat.le_of_ble_eq_true rfl) ?_
  rw [gal (n := n) (xs := xs) (x := 4) (k := 47) (p := 45) rfl (by decide +kernel)]
  show gW gM (d + 2) 0 0 k_X5_init 22 [.ref 44, .int (nI 1)] [.ref 49, .int (nI 1), .ref 45] (gKl n 48, gRl 45, gI0 xs, gL0) Q
  refine r_dup rfl rfl ?_
  refine r_invi (a := 49) [] rfl rfl rfl rfl rfl (Nat.le_of_ble_eq_true rfl) (Nat.le_of_ble_eq_true rfl) (Nat.le_of_ble_eq_true rfl) ?_
  refine n_X4_init_49 ?_
  show gW gM (d + 2) 0 0 k_X5_init 24 [.ref 44, .int (nI 1)] [.ref 49, .int (nI 1), .ref 45] (gKl n 48, gRl 45, gI0 xs, gL0) Q
  refine r_aastore (n := 2) rfl rfl (vp_in_nI (n := 1) (N := 2) (by decide) (by decide)) rfl ?_
  rw [show gx (nI 1) = 1 from nI_clamp (n := 1) (by decide), gpu (p := 45) (a := 45) (j := 1) (v := 49) rfl rfl]
  refine r_iinc (y := nI 2) [.ref 44, .int (nI 2)] rfl rfl rfl (by decide) rfl ?_
  refine r_goto 13 rfl rfl ?_
  refine r_iload rfl rfl ?_
  refine r_aload rfl rfl ?_
  refine r_getR (c := 5) (k := 0) (v := 45) rfl rfl ⟨rfl, rfl⟩ (by decide +kernel) ?_
  refine r_alen 2 2 (v := nI 2) rfl rfl (by decide) rfl ?_
  refine r_icmp_ge 27 rfl rfl (fun c1 => ?_) (fun c1 => absurd (by decide) c1)
  exact r_vret rfl hQ
set_option maxHeartbeats 4000000 in
set_option maxRecDepth 100000 in
theorem n_X3_init_50 {n d : Nat} {xs : Nat → Int32} {Q : gP} (hQ : Q none (gKl n 51, gRl 49, gI0 xs, gL0)) : gR gM (d + 1) 30 [.ref 50] (gKl n 49, gRl 47, gI0 xs, gL0) Q := by
  show gW gM (d + 1) 2 18 k_X3_init 0 [.ref 50] [] (gKl n 49, gRl 47, gI0 xs, gL0) Q
  refine r_aload rfl rfl ?_
  refine r_obj rfl (Nat.le_of_ble_eq_true rfl) (Nat.le_of_ble_eq_true rfl) ?_
  refine r_aload rfl rfl ?_
  refine r_const rfl (gcst 9) ?_
  refine r_newi 9 0 rfl rfl (Nat.le_of_ble_eq_true rfl) rfl (by decide) (Nat.le_of_ble_eq_true rfl) (Nat.le_of_ble_eq_true rfl) ?_
  rw [gal (n := n) (xs := xs) (x := 100 + 0 + 3 * 9) (k := 49) (p := 47) rfl (by decide +kernel)]
  show gW gM (d + 1) 1 9 k_X3_init 5 [.ref 50] [.ref 51, .ref 50] (gKl n 50, gRl 47, gI0 xs, gL0) Q
  refine r_putR (c := 3) (k := 0) rfl rfl ⟨rfl, rfl⟩ ?_
  rw [gpu (p := 47) (a := 50) (j := 0) (v := 51) rfl rfl]
  refine r_aload rfl rfl ?_
  refine r_const rfl (gcst 9) ?_
  refine r_newi 9 0 rfl rfl (Nat.le_of_ble_eq_true rfl) rfl (by decide) (Nat.le_of_ble_eq_true rfl) (Nat.le_of_ble_eq_true rfl) ?_
  rw [gal (n := n) (xs := xs) (x := 100 + 0 + 3 * 9) (k := 50) (p := 48) rfl (by decide +kernel)]
  show gW gM (d + 1) 0 0 k_X3_init 9 [.ref 50] [.ref 52, .ref 50] (gKl n 51, gRl 48, gI0 xs, gL0) Q
  refine r_putR (c := 3) (k := 1) rfl rfl ⟨rfl, rfl⟩ ?_
  rw [gpu (p := 48) (a := 50) (j := 1) (v := 52) rfl rfl]
  exact r_vret rfl hQ
set_option maxHeartbeats 4000000 in
set_option maxRecDepth 100000 in
theorem n_X6_init_53 {n d : Nat} {xs : Nat → Int32} {Q : gP} (hQ : Q none (gKl n 53, gRl 51, gI0 xs, gL0)) : gR gM (d + 1) 50 [.ref 53] (gKl n 52, gRl 50, gI0 xs, gL0) Q := by
  show gW gM (d + 1) 1 12 k_X6_init 0 [.ref 53] [] (gKl n 52, gRl 50, gI0 xs, gL0) Q
  refine r_aload rfl rfl ?_
  refine r_obj rfl (Nat.le_of_ble_eq_true rfl) (Nat.le_of_ble_eq_true rfl) ?_
  refine r_aload rfl rfl ?_
  refine r_const rfl (gcst 12) ?_
  refine r_newi 12 0 rfl rfl (Nat.le_of_ble_eq_true rfl) rfl (by decide) (Nat.le_of_ble_eq_true rfl) (Nat.le_of_ble_eq_true rfl) ?_
  rw [gal (n := n) (xs := xs) (x := 100 + 0 + 3 * 12) (k := 52) (p := 50) rfl (by decide +kernel)]
  show gW gM (d + 1) 0 0 k_X6_init 5 [.ref 53] [.ref 54, .ref 53] (gKl n 53, gRl 50, gI0 xs, gL0) Q
  refine r_putR (c := 6) (k := 0) rfl rfl ⟨rfl, rfl⟩ ?_
  rw [gpu (p := 50) (a := 53) (j := 0) (v := 54) rfl rfl]
  exact r_vret rfl hQ
set_option maxHeartbeats 4000000 in
set_option maxRecDepth 100000 in
theorem n_X6_init_55 {n d : Nat} {xs : Nat → Int32} {Q : gP} (hQ : Q none (gKl n 55, gRl 53, gI0 xs, gL0)) : gR gM (d + 1) 50 [.ref 55] (gKl n 54, gRl 52, gI0 xs, gL0) Q := by
  show gW gM (d + 1) 1 12 k_X6_init 0 [.ref 55] [] (gKl n 54, gRl 52, gI0 xs, gL0) Q
  refine r_aload rfl rfl ?_
  refine r_obj rfl (Nat.le_of_ble_eq_true rfl) (Nat.le_of_ble_eq_true rfl) ?_
  refine r_aload rfl rfl ?_
  refine r_const rfl (gcst 12) ?_
  refine r_newi 12 0 rfl rfl (Nat.le_of_ble_eq_true rfl) rfl (by decide) (Nat.le_of_ble_eq_true rfl) (Nat.le_of_ble_eq_true rfl) ?_
  rw [gal (n := n) (xs := xs) (x := 100 + 0 + 3 * 12) (k := 54) (p := 52) rfl (by decide +kernel)]
  show gW gM (d + 1) 0 0 k_X6_init 5 [.ref 55] [.ref 56, .ref 55] (gKl n 55, gRl 52, gI0 xs, gL0) Q
  refine r_putR (c := 6) (k := 0) rfl rfl ⟨rfl, rfl⟩ ?_
  rw [gpu (p := 52) (a := 55) (j := 0) (v := 56) rfl rfl]
  exact r_vret rfl hQ
set_option maxHeartbeats 4000000 in
set_option maxRecDepth 100000 in
theorem n_X7_init_2 {n d : Nat} {xs : Nat → Int32} {Q : gP} (hQ : Q none (gKl n 55, gRl 54, gI0 xs, gL0)) : gR gM (d + 3) 55 [.ref 2] (gKl n 1, gRl 0, gI0 xs, gL0) Q := by
  show gW gM (d + 3) 54 433 k_X7_init 0 [.ref 2, .null] [] (gKl n 1, gRl 0, gI0 xs, gL0) Q
  refine r_aload rfl rfl ?_
  refine r_obj rfl (Nat.le_of_ble_eq_true rfl) (Nat.le_of_ble_eq_true rfl) ?_
  refine r_aload rfl rfl ?_
  refine r_const rfl (gcst 60) ?_
  refine r_newi 60 0 rfl rfl (Nat.le_of_ble_eq_true rfl) rfl (by decide) (Nat.le_of_ble_eq_true rfl) (Nat.le_of_ble_eq_true rfl) ?_
  rw [gal (n := n) (xs := xs) (x := 100 + 0 + 3 * 60) (k := 1) (p := 0) rfl (by decide +kernel)]
  show gW gM (d + 3) 53 373 k_X7_init 5 [.ref 2, .null] [.ref 3, .ref 2] (gKl n 2, gRl 0, gI0 xs, gL0) Q
  refine r_putR (c := 7) (k := 0) rfl rfl ⟨rfl, rfl⟩ ?_
  rw [gpu (p := 0) (a := 2) (j := 0) (v := 3) rfl rfl]
  refine r_aload rfl rfl ?_
  refine r_new (x := 1) (n := 13) rfl ⟨rfl, rfl⟩ (Nat.le_of_ble_eq_true rfl) (Nat.le_of_ble_eq_true rfl) ?_
  rw [gal (n := n) (xs := xs) (x := 1) (k := 2) (p := 1) rfl (by decide +kernel)]
  show gW gM (d + 3) 52 360 k_X7_init 8 [.ref 2, .null] [.ref 4, .ref 2] (gKl n 3, gRl 1, gI0 xs, gL0) Q
  refine r_dup rfl rfl ?_
  refine r_invi (a := 4) [] rfl rfl rfl rfl rfl (Nat.le_of_ble_eq_true rfl) (Nat.le_of_ble_eq_true rfl) (Nat.le_of_ble_eq_true rfl) ?_
  refine n_X1_init_4 ?_
  show gW gM (d + 3) 46 323 k_X7_init 10 [.ref 2, .null] [.ref 4, .ref 2] (gKl n 9, gRl 7, gI0 xs, gL0) Q
  refine r_putR (c := 7) (k := 2) rfl rfl ⟨rfl, rfl⟩ ?_
  rw [gpu (p := 7) (a := 2) (j := 2) (v := 4) rfl rfl]
  refine r_aload rfl rfl ?_
  refine r_new (x := 1) (n := 13) rfl ⟨rfl, rfl⟩ (Nat.le_of_ble_eq_true rfl) (Nat.le_of_ble_eq_true rfl) ?_
  rw [gal (n := n) (xs := xs) (x := 1) (k := 9) (p := 8) rfl (by decide +kernel)]
  show gW gM (d + 3) 45 310 k_X7_init 13 [.ref 2, .null] [.ref 11, .ref 2] (gKl n 10, gRl 8, gI0 xs, gL0) Q
  refine r_dup rfl rfl ?_
  refine r_invi (a := 11) [] rfl rfl rfl rfl rfl (Nat.le_of_ble_eq_true rfl) (Nat.le_of_ble_eq_true rfl) (Nat.le_of_ble_eq_true rfl) ?_
  refine n_X1_init_11 ?_
  show gW gM (d + 3) 39 273 k_X7_init 15 [.ref 2, .null] [.ref 11, .ref 2] (gKl n 16, gRl 14, gI0 xs, gL0) Q
  refine r_putR (c := 7) (k := 3) rfl rfl ⟨rfl, rfl⟩ ?_
  rw [gpu (p := 14) (a := 2) (j := 3) (v := 11) rfl rfl]
  refine r_aload rfl rfl ?_
  refine r_new (x := 4) (n := 8) rfl ⟨rfl, rfl⟩ (Nat.le_of_ble_eq_true rfl) (Nat.le_of_ble_eq_true rfl) ?_
  rw [gal (n := n) (xs := xs) (x := 4) (k := 16) (p := 15) rfl (by decide +kernel)]
  show gW gM (d + 3) 38 265 k_X7_init 18 [.ref 2, .null] [.ref 18, .ref 2] (gKl n 17, gRl 15, gI0 xs, gL0) Q
  refine r_dup rfl rfl ?_
  refine r_invi (a := 18) [] rfl rfl rfl rfl rfl (Nat.le_of_ble_eq_true rfl) (Nat.le_of_ble_eq_true rfl) (Nat.le_of_ble_eq_true rfl) ?_
  refine n_X4_init_18 ?_
  show gW gM (d + 3) 38 265 k_X7_init 20 [.ref 2, .null] [.ref 18, .ref 2] (gKl n 17, gRl 15, gI0 xs, gL0) Q
  refine r_putR (c := 7) (k := 4) rfl rfl ⟨rfl, rfl⟩ ?_
  rw [gpu (p := 15) (a := 2) (j := 4) (v := 18) rfl rfl]
  refine r_aload rfl rfl ?_
  refine r_new (x := 4) (n := 8) rfl ⟨rfl, rfl⟩ (Nat.le_of_ble_eq_true rfl) (Nat.le_of_ble_eq_true rfl) ?_
  rw [gal (n := n) (xs := xs) (x := 4) (k := 17) (p := 16) rfl (by decide +kernel)]
  show gW gM (d + 3) 37 257 k_X7_init 23 [.ref 2, .null] [.ref 19, .ref 2] (gKl n 18, gRl 16, gI0 xs, gL0) Q
  refine r_dup rfl rfl ?_
  refine r_invi (a := 19) [] rfl rfl rfl rfl rfl (Nat.le_of_ble_eq_true rfl) (Nat.le_of_ble_eq_true rfl) (Nat.le_of_ble_eq_true rfl) ?_
  refine n_X4_init_19 ?_
  show gW gM (d + 3) 37 257 k_X7_init 25 [.ref 2, .null] [.ref 19, .ref 2] (gKl n 18, gRl 16, gI0 xs, gL0) Q
  refine r_putR (c := 7) (k := 5) rfl rfl ⟨rfl, rfl⟩ ?_
  rw [gpu (p := 16) (a := 2) (j := 5) (v := 19) rfl rfl]
  refine r_aload rfl rfl ?_
  refine r_new (x := 0) (n := 3) rfl ⟨rfl, rfl⟩ (Nat.le_of_ble_eq_true rfl) (Nat.le_of_ble_eq_true rfl) ?_
  rw [gal (n := n) (xs := xs) (x := 0) (k := 18) (p := 17) rfl (by decide +kernel)]
  show gW gM (d + 3) 36 254 k_X7_init 28 [.ref 2, .null] [.ref 20, .ref 2] (gKl n 19, gRl 17, gI0 xs, gL0) Q
  refine r_dup rfl rfl ?_
  refine r_invi (a := 20) [] rfl rfl rfl rfl rfl (Nat.le_of_ble_eq_true rfl) (Nat.le_of_ble_eq_true rfl) (Nat.le_of_ble_eq_true rfl) ?_
  refine n_X0_init_20 ?_
  show gW gM (d + 3) 21 128 k_X7_init 30 [.ref 2, .null] [.ref 20, .ref 2] (gKl n 34, gRl 32, gI0 xs, gL0) Q
  refine r_putR (c := 7) (k := 6) rfl rfl ⟨rfl, rfl⟩ ?_
  rw [gpu (p := 32) (a := 2) (j := 6) (v := 20) rfl rfl]
  refine r_aload rfl rfl ?_
  refine r_const rfl (gcst 2) ?_
  refine r_newr 2 rfl rfl (Nat.le_of_ble_eq_true rfl) (Nat.le_of_ble_eq_true rfl) (Nat.le_of_ble_eq_true rfl) ?_
  rw [gal (n := n) (xs := xs) (x := 102 + 3 * 2) (k := 34) (p := 33) rfl (by decide +kernel)]
  show gW gM (d + 3) 20 126 k_X7_init 34 [.ref 2, .null] [.ref 36, .ref 2] (gKl n 35, gRl 33, gI0 xs, gL0) Q
  refine r_putR (c := 7) (k := 7) rfl rfl ⟨rfl, rfl⟩ ?_
  rw [gpu (p := 33) (a := 2) (j := 7) (v := 36) rfl rfl]
  refine r_const rfl (gcst 0) ?_
  refine r_istore [.ref 2, .int (nI 0)] rfl rfl (Nat.le_of_ble_eq_true rfl) rfl ?_
  refine r_iload rfl rfl ?_
  refine r_const rfl (gcst 2) ?_
  refine r_icmp_ge 49 rfl rfl (fun c1 => absurd c1 (by decide)) (fun c1 => ?_)
  refine r_aload rfl rfl ?_
  refine r_getR (c := 7) (k := 7) (v := 36) rfl rfl ⟨rfl, rfl⟩ (by decide +kernel) ?_
  refine r_iload rfl rfl ?_
  refine r_new (x := 4) (n := 8) rfl ⟨rfl, rfl⟩ (Nat.le_of_ble_eq_true rfl) (Nat.le_of_ble_eq_true rfl) ?_
  rw [gal (n := n) (xs := xs) (x := 4) (k := 35) (p := 34) rfl (by decide +kernel)]
  show gW gM (d + 3) 19 118 k_X7_init 44 [.ref 2, .int (nI 0)] [.ref 37, .int (nI 0), .ref 36] (gKl n 36, gRl 34, gI0 xs, gL0) Q
  refine r_dup rfl rfl ?_
  refine r_invi (a := 37) [] rfl rfl rfl rfl rfl (Nat.le_of_ble_eq_true rfl) (Nat.le_of_ble_eq_true rfl) (Nat.le_of_ble_eq_true rfl) ?_
  refine n_X4_init_37 ?_
  show gW gM (d + 3) 19 118 k_X7_init 46 [.ref 2, .int (nI 0)] [.ref 37, .int (nI 0), .ref 36] (gKl n 36, gRl 34, gI0 xs, gL0) Q
  refine r_aastore (n := 2) rfl rfl (vp_in_nI (n := 0) (N := 2) (by decide) (by decide)) rfl ?_
  rw [show gx (nI 0) = 0 from nI_clamp (n := 0) (by decide), gpu (p := 34) (a := 36) (j := 0) (v := 37) rfl rfl]
  refine r_iinc (y := nI 1) [.ref 2, .int (nI 1)] rfl rfl rfl (by decide) rfl ?_
  refine r_goto 37 rfl rfl ?_
  refine r_iload rfl rfl ?_
  refine r_const rfl (gcst 2) ?_
  refine r_icmp_ge 49 rfl rfl (fun c1 => absurd c1 (by decide)) (fun c1 => ?_)
  refine r_aload rfl rfl ?_
  refine r_getR (c := 7) (k := 7) (v := 36) rfl rfl ⟨rfl, rfl⟩ (by decide +kernel) ?_
  refine r_iload rfl rfl ?_
  refine r_new (x := 4) (n := 8) rfl ⟨rfl, rfl⟩ (Nat.le_of_ble_eq_true rfl) (Nat.le_of_ble_eq_true rfl) ?_
  rw [gal (n := n) (xs := xs) (x := 4) (k := 36) (p := 35) rfl (by decide +kernel)]
  show gW gM (d + 3) 18 110 k_X7_init 44 [.ref 2, .int (nI 1)] [.ref 38, .int (nI 1), .ref 36] (gKl n 37, gRl 35, gI0 xs, gL0) Q
  refine r_dup rfl rfl ?_
  refine r_invi (a := 38) [] rfl rfl rfl rfl rfl (Nat.le_of_ble_eq_true rfl) (Nat.le_of_ble_eq_true rfl) (Nat.le_of_ble_eq_true rfl) ?_
  refine n_X4_init_38 ?_
  show gW gM (d + 3) 18 110 k_X7_init 46 [.ref 2, .int (nI 1)] [.ref 38, .int (nI 1), .ref 36] (gKl n 37, gRl 35, gI0 xs, gL0) Q
  refine r_aastore (n := 2) rfl rfl (vp_in_nI (n := 1) (N := 2) (by decide) (by decide)) rfl ?_
  rw [show gx (nI 1) = 1 from nI_clamp (n := 1) (by decide), gpu (p := 35) (a := 36) (j := 1) (v := 38) rfl rfl]
  refine r_iinc (y := nI 2) [.ref 2, .int (nI 2)] rfl rfl rfl (by decide) rfl ?_
  refine r_goto 37 rfl rfl ?_
  refine r_iload rfl rfl ?_
  refine r_const rfl (gcst 2) ?_
  refine r_icmp_ge 49 rfl rfl (fun c1 => ?_) (fun c1 => absurd (by decide) c1)
  refine r_aload rfl rfl ?_
  refine r_const rfl (gcst 2) ?_
  refine r_newi 2 1 rfl rfl (Nat.le_of_ble_eq_true rfl) rfl (by decide) (Nat.le_of_ble_eq_true rfl) (Nat.le_of_ble_eq_true rfl) ?_
  rw [gal (n := n) (xs := xs) (x := 100 + 1 + 3 * 2) (k := 37) (p := 36) rfl (by decide +kernel)]
  show gW gM (d + 3) 17 108 k_X7_init 52 [.ref 2, .int (nI 2)] [.ref 39, .ref 2] (gKl n 38, gRl 36, gI0 xs, gL0) Q
  refine r_putR (c := 7) (k := 8) rfl rfl ⟨rfl, rfl⟩ ?_
  rw [gpu (p := 36) (a := 2) (j := 8) (v := 39) rfl rfl]
  refine r_aload rfl rfl ?_
  refine r_new (x := 2) (n := 4) rfl ⟨rfl, rfl⟩ (Nat.le_of_ble_eq_true rfl) (Nat.le_of_ble_eq_true rfl) ?_
  rw [gal (n := n) (xs := xs) (x := 2) (k := 38) (p := 37) rfl (by decide +kernel)]
  show gW gM (d + 3) 16 104 k_X7_init 55 [.ref 2, .int (nI 2)] [.ref 40, .ref 2] (gKl n 39, gRl 37, gI0 xs, gL0) Q
  refine r_dup rfl rfl ?_
  refine r_invi (a := 40) [] rfl rfl rfl rfl rfl (Nat.le_of_ble_eq_true rfl) (Nat.le_of_ble_eq_true rfl) (Nat.le_of_ble_eq_true rfl) ?_
  refine n_X2_init_40 ?_
  show gW gM (d + 3) 13 86 k_X7_init 57 [.ref 2, .int (nI 2)] [.ref 40, .ref 2] (gKl n 42, gRl 40, gI0 xs, gL0) Q
  refine r_putR (c := 7) (k := 9) rfl rfl ⟨rfl, rfl⟩ ?_
  rw [gpu (p := 40) (a := 2) (j := 9) (v := 40) rfl rfl]
  refine r_aload rfl rfl ?_
  refine r_new (x := 5) (n := 4) rfl ⟨rfl, rfl⟩ (Nat.le_of_ble_eq_true rfl) (Nat.le_of_ble_eq_true rfl) ?_
  rw [gal (n := n) (xs := xs) (x := 5) (k := 42) (p := 41) rfl (by decide +kernel)]
  show gW gM (d + 3) 12 82 k_X7_init 60 [.ref 2, .int (nI 2)] [.ref 44, .ref 2] (gKl n 43, gRl 41, gI0 xs, gL0) Q
  refine r_dup rfl rfl ?_
  refine r_invi (a := 44) [] rfl rfl rfl rfl rfl (Nat.le_of_ble_eq_true rfl) (Nat.le_of_ble_eq_true rfl) (Nat.le_of_ble_eq_true rfl) ?_
  refine n_X5_init_44 ?_
  show gW gM (d + 3) 7 50 k_X7_init 62 [.ref 2, .int (nI 2)] [.ref 44, .ref 2] (gKl n 48, gRl 46, gI0 xs, gL0) Q
  refine r_putR (c := 7) (k := 10) rfl rfl ⟨rfl, rfl⟩ ?_
  rw [gpu (p := 46) (a := 2) (j := 10) (v := 44) rfl rfl]
  refine r_aload rfl rfl ?_
  refine r_new (x := 3) (n := 4) rfl ⟨rfl, rfl⟩ (Nat.le_of_ble_eq_true rfl) (Nat.le_of_ble_eq_true rfl) ?_
  rw [gal (n := n) (xs := xs) (x := 3) (k := 48) (p := 47) rfl (by decide +kernel)]
  show gW gM (d + 3) 6 46 k_X7_init 65 [.ref 2, .int (nI 2)] [.ref 50, .ref 2] (gKl n 49, gRl 47, gI0 xs, gL0) Q
  refine r_dup rfl rfl ?_
  refine r_invi (a := 50) [] rfl rfl rfl rfl rfl (Nat.le_of_ble_eq_true rfl) (Nat.le_of_ble_eq_true rfl) (Nat.le_of_ble_eq_true rfl) ?_
  refine n_X3_init_50 ?_
  show gW gM (d + 3) 4 28 k_X7_init 67 [.ref 2, .int (nI 2)] [.ref 50, .ref 2] (gKl n 51, gRl 49, gI0 xs, gL0) Q
  refine r_putR (c := 7) (k := 11) rfl rfl ⟨rfl, rfl⟩ ?_
  rw [gpu (p := 49) (a := 2) (j := 11) (v := 50) rfl rfl]
  refine r_aload rfl rfl ?_
  refine r_new (x := 6) (n := 2) rfl ⟨rfl, rfl⟩ (Nat.le_of_ble_eq_true rfl) (Nat.le_of_ble_eq_true rfl) ?_
  rw [gal (n := n) (xs := xs) (x := 6) (k := 51) (p := 50) rfl (by decide +kernel)]
  show gW gM (d + 3) 3 26 k_X7_init 70 [.ref 2, .int (nI 2)] [.ref 53, .ref 2] (gKl n 52, gRl 50, gI0 xs, gL0) Q
  refine r_dup rfl rfl ?_
  refine r_invi (a := 53) [] rfl rfl rfl rfl rfl (Nat.le_of_ble_eq_true rfl) (Nat.le_of_ble_eq_true rfl) (Nat.le_of_ble_eq_true rfl) ?_
  refine n_X6_init_53 ?_
  show gW gM (d + 3) 2 14 k_X7_init 72 [.ref 2, .int (nI 2)] [.ref 53, .ref 2] (gKl n 53, gRl 51, gI0 xs, gL0) Q
  refine r_putR (c := 7) (k := 12) rfl rfl ⟨rfl, rfl⟩ ?_
  rw [gpu (p := 51) (a := 2) (j := 12) (v := 53) rfl rfl]
  refine r_aload rfl rfl ?_
  refine r_new (x := 6) (n := 2) rfl ⟨rfl, rfl⟩ (Nat.le_of_ble_eq_true rfl) (Nat.le_of_ble_eq_true rfl) ?_
  rw [gal (n := n) (xs := xs) (x := 6) (k := 53) (p := 52) rfl (by decide +kernel)]
  show gW gM (d + 3) 1 12 k_X7_init 75 [.ref 2, .int (nI 2)] [.ref 55, .ref 2] (gKl n 54, gRl 52, gI0 xs, gL0) Q
  refine r_dup rfl rfl ?_
  refine r_invi (a := 55) [] rfl rfl rfl rfl rfl (Nat.le_of_ble_eq_true rfl) (Nat.le_of_ble_eq_true rfl) (Nat.le_of_ble_eq_true rfl) ?_
  refine n_X6_init_55 ?_
  show gW gM (d + 3) 0 0 k_X7_init 77 [.ref 2, .int (nI 2)] [.ref 55, .ref 2] (gKl n 55, gRl 53, gI0 xs, gL0) Q
  refine r_putR (c := 7) (k := 13) rfl rfl ⟨rfl, rfl⟩ ?_
  rw [gpu (p := 53) (a := 2) (j := 13) (v := 55) rfl rfl]
  exact r_vret rfl hQ
set_option maxHeartbeats 4000000 in
set_option maxRecDepth 100000 in
theorem n_X8_init_57 {n d : Nat} {xs : Nat → Int32} {Q : gP} (hQ : Q none (gKl n 74, gRl 72, gI0 xs, gL0)) : gR gM (d + 1) 105 [.ref 57] (gKl n 56, gRl 54, gI0 xs, gL0) Q := by
  show gW gM (d + 1) 18 659 k_X8_init 0 [.ref 57] [] (gKl n 56, gRl 54, gI0 xs, gL0) Q
  refine r_aload rfl rfl ?_
  refine r_obj rfl (Nat.le_of_ble_eq_true rfl) (Nat.le_of_ble_eq_true rfl) ?_
  refine r_aload rfl rfl ?_
  refine r_const rfl (gcst 5) ?_
  refine r_newi 5 0 rfl rfl (Nat.le_of_ble_eq_true rfl) rfl (by decide) (Nat.le_of_ble_eq_true rfl) (Nat.le_of_ble_eq_true rfl) ?_
  rw [gal (n := n) (xs := xs) (x := 100 + 0 + 3 * 5) (k := 56) (p := 54) rfl (by decide +kernel)]
  show gW gM (d + 1) 17 654 k_X8_init 5 [.ref 57] [.ref 58, .ref 57] (gKl n 57, gRl 54, gI0 xs, gL0) Q
  refine r_putR (c := 8) (k := 4) rfl rfl ⟨rfl, rfl⟩ ?_
  rw [gpu (p := 54) (a := 57) (j := 4) (v := 58) rfl rfl]
  refine r_aload rfl rfl ?_
  refine r_const rfl (gcst 9) ?_
  refine r_newi 9 0 rfl rfl (Nat.le_of_ble_eq_true rfl) rfl (by decide) (Nat.le_of_ble_eq_true rfl) (Nat.le_of_ble_eq_true rfl) ?_
  rw [gal (n := n) (xs := xs) (x := 100 + 0 + 3 * 9) (k := 57) (p := 55) rfl (by decide +kernel)]
  show gW gM (d + 1) 16 645 k_X8_init 9 [.ref 57] [.ref 59, .ref 57] (gKl n 58, gRl 55, gI0 xs, gL0) Q
  refine r_putR (c := 8) (k := 5) rfl rfl ⟨rfl, rfl⟩ ?_
  rw [gpu (p := 55) (a := 57) (j := 5) (v := 59) rfl rfl]
  refine r_aload rfl rfl ?_
  refine r_const rfl (gcst 5) ?_
  refine r_newi 5 0 rfl rfl (Nat.le_of_ble_eq_true rfl) rfl (by decide) (Nat.le_of_ble_eq_true rfl) (Nat.le_of_ble_eq_true rfl) ?_
  rw [gal (n := n) (xs := xs) (x := 100 + 0 + 3 * 5) (k := 58) (p := 56) rfl (by decide +kernel)]
  show gW gM (d + 1) 15 640 k_X8_init 13 [.ref 57] [.ref 60, .ref 57] (gKl n 59, gRl 56, gI0 xs, gL0) Q
  refine r_putR (c := 8) (k := 6) rfl rfl ⟨rfl, rfl⟩ ?_
  rw [gpu (p := 56) (a := 57) (j := 6) (v := 60) rfl rfl]
  refine r_aload rfl rfl ?_
  refine r_const rfl (gcst 5) ?_
  refine r_newi 5 0 rfl rfl (Nat.le_of_ble_eq_true rfl) rfl (by decide) (Nat.le_of_ble_eq_true rfl) (Nat.le_of_ble_eq_true rfl) ?_
  rw [gal (n := n) (xs := xs) (x := 100 + 0 + 3 * 5) (k := 59) (p := 57) rfl (by decide +kernel)]
  show gW gM (d + 1) 14 635 k_X8_init 17 [.ref 57] [.ref 61, .ref 57] (gKl n 60, gRl 57, gI0 xs, gL0) Q
  refine r_putR (c := 8) (k := 7) rfl rfl ⟨rfl, rfl⟩ ?_
  rw [gpu (p := 57) (a := 57) (j := 7) (v := 61) rfl rfl]
  refine r_aload rfl rfl ?_
  refine r_const rfl (gcst 8) ?_
  refine r_newi 8 0 rfl rfl (Nat.le_of_ble_eq_true rfl) rfl (by decide) (Nat.le_of_ble_eq_true rfl) (Nat.le_of_ble_eq_true rfl) ?_
  rw [gal (n := n) (xs := xs) (x := 100 + 0 + 3 * 8) (k := 60) (p := 58) rfl (by decide +kernel)]
  show gW gM (d + 1) 13 627 k_X8_init 21 [.ref 57] [.ref 62, .ref 57] (gKl n 61, gRl 58, gI0 xs, gL0) Q
  refine r_putR (c := 8) (k := 8) rfl rfl ⟨rfl, rfl⟩ ?_
  rw [gpu (p := 58) (a := 57) (j := 8) (v := 62) rfl rfl]
  refine r_aload rfl rfl ?_
  refine r_const rfl (gcst 54) ?_
  refine r_newi 54 0 rfl rfl (Nat.le_of_ble_eq_true rfl) rfl (by decide) (Nat.le_of_ble_eq_true rfl) (Nat.le_of_ble_eq_true rfl) ?_
  rw [gal (n := n) (xs := xs) (x := 100 + 0 + 3 * 54) (k := 61) (p := 59) rfl (by decide +kernel)]
  show gW gM (d + 1) 12 573 k_X8_init 25 [.ref 57] [.ref 63, .ref 57] (gKl n 62, gRl 59, gI0 xs, gL0) Q
  refine r_putR (c := 8) (k := 9) rfl rfl ⟨rfl, rfl⟩ ?_
  rw [gpu (p := 59) (a := 57) (j := 9) (v := 63) rfl rfl]
  refine r_aload rfl rfl ?_
  refine r_const rfl (gcst 10) ?_
  refine r_newi 10 0 rfl rfl (Nat.le_of_ble_eq_true rfl) rfl (by decide) (Nat.le_of_ble_eq_true rfl) (Nat.le_of_ble_eq_true rfl) ?_
  rw [gal (n := n) (xs := xs) (x := 100 + 0 + 3 * 10) (k := 62) (p := 60) rfl (by decide +kernel)]
  show gW gM (d + 1) 11 563 k_X8_init 29 [.ref 57] [.ref 64, .ref 57] (gKl n 63, gRl 60, gI0 xs, gL0) Q
  refine r_putR (c := 8) (k := 10) rfl rfl ⟨rfl, rfl⟩ ?_
  rw [gpu (p := 60) (a := 57) (j := 10) (v := 64) rfl rfl]
  refine r_aload rfl rfl ?_
  refine r_const rfl (gcst 9) ?_
  refine r_newi 9 0 rfl rfl (Nat.le_of_ble_eq_true rfl) rfl (by decide) (Nat.le_of_ble_eq_true rfl) (Nat.le_of_ble_eq_true rfl) ?_
  rw [gal (n := n) (xs := xs) (x := 100 + 0 + 3 * 9) (k := 63) (p := 61) rfl (by decide +kernel)]
  show gW gM (d + 1) 10 554 k_X8_init 33 [.ref 57] [.ref 65, .ref 57] (gKl n 64, gRl 61, gI0 xs, gL0) Q
  refine r_putR (c := 8) (k := 11) rfl rfl ⟨rfl, rfl⟩ ?_
  rw [gpu (p := 61) (a := 57) (j := 11) (v := 65) rfl rfl]
  refine r_aload rfl rfl ?_
  refine r_const rfl (gcst 10) ?_
  refine r_newi 10 0 rfl rfl (Nat.le_of_ble_eq_true rfl) rfl (by decide) (Nat.le_of_ble_eq_true rfl) (Nat.le_of_ble_eq_true rfl) ?_
  rw [gal (n := n) (xs := xs) (x := 100 + 0 + 3 * 10) (k := 64) (p := 62) rfl (by decide +kernel)]
  show gW gM (d + 1) 9 544 k_X8_init 37 [.ref 57] [.ref 66, .ref 57] (gKl n 65, gRl 62, gI0 xs, gL0) Q
  refine r_putR (c := 8) (k := 12) rfl rfl ⟨rfl, rfl⟩ ?_
  rw [gpu (p := 62) (a := 57) (j := 12) (v := 66) rfl rfl]
  refine r_aload rfl rfl ?_
  refine r_const rfl (gcst 8) ?_
  refine r_newi 8 0 rfl rfl (Nat.le_of_ble_eq_true rfl) rfl (by decide) (Nat.le_of_ble_eq_true rfl) (Nat.le_of_ble_eq_true rfl) ?_
  rw [gal (n := n) (xs := xs) (x := 100 + 0 + 3 * 8) (k := 65) (p := 63) rfl (by decide +kernel)]
  show gW gM (d + 1) 8 536 k_X8_init 41 [.ref 57] [.ref 67, .ref 57] (gKl n 66, gRl 63, gI0 xs, gL0) Q
  refine r_putR (c := 8) (k := 13) rfl rfl ⟨rfl, rfl⟩ ?_
  rw [gpu (p := 63) (a := 57) (j := 13) (v := 67) rfl rfl]
  refine r_aload rfl rfl ?_
  refine r_const rfl (gcst 60) ?_
  refine r_newi 60 0 rfl rfl (Nat.le_of_ble_eq_true rfl) rfl (by decide) (Nat.le_of_ble_eq_true rfl) (Nat.le_of_ble_eq_true rfl) ?_
  rw [gal (n := n) (xs := xs) (x := 100 + 0 + 3 * 60) (k := 66) (p := 64) rfl (by decide +kernel)]
  show gW gM (d + 1) 7 476 k_X8_init 45 [.ref 57] [.ref 68, .ref 57] (gKl n 67, gRl 64, gI0 xs, gL0) Q
  refine r_putR (c := 8) (k := 19) rfl rfl ⟨rfl, rfl⟩ ?_
  rw [gpu (p := 64) (a := 57) (j := 19) (v := 68) rfl rfl]
  refine r_aload rfl rfl ?_
  refine r_const rfl (gcst 24) ?_
  refine r_newi 24 0 rfl rfl (Nat.le_of_ble_eq_true rfl) rfl (by decide) (Nat.le_of_ble_eq_true rfl) (Nat.le_of_ble_eq_true rfl) ?_
  rw [gal (n := n) (xs := xs) (x := 100 + 0 + 3 * 24) (k := 67) (p := 65) rfl (by decide +kernel)]
  show gW gM (d + 1) 6 452 k_X8_init 49 [.ref 57] [.ref 69, .ref 57] (gKl n 68, gRl 65, gI0 xs, gL0) Q
  refine r_putR (c := 8) (k := 23) rfl rfl ⟨rfl, rfl⟩ ?_
  rw [gpu (p := 65) (a := 57) (j := 23) (v := 69) rfl rfl]
  refine r_aload rfl rfl ?_
  refine r_const rfl (gcst 378) ?_
  refine r_newi 378 0 rfl rfl (Nat.le_of_ble_eq_true rfl) rfl (by decide) (Nat.le_of_ble_eq_true rfl) (Nat.le_of_ble_eq_true rfl) ?_
  rw [gal (n := n) (xs := xs) (x := 100 + 0 + 3 * 378) (k := 68) (p := 66) rfl (by decide +kernel)]
  show gW gM (d + 1) 5 74 k_X8_init 53 [.ref 57] [.ref 70, .ref 57] (gKl n 69, gRl 66, gI0 xs, gL0) Q
  refine r_putR (c := 8) (k := 27) rfl rfl ⟨rfl, rfl⟩ ?_
  rw [gpu (p := 66) (a := 57) (j := 27) (v := 70) rfl rfl]
  refine r_aload rfl rfl ?_
  refine r_const rfl (gcst 6) ?_
  refine r_newi 6 0 rfl rfl (Nat.le_of_ble_eq_true rfl) rfl (by decide) (Nat.le_of_ble_eq_true rfl) (Nat.le_of_ble_eq_true rfl) ?_
  rw [gal (n := n) (xs := xs) (x := 100 + 0 + 3 * 6) (k := 69) (p := 67) rfl (by decide +kernel)]
  show gW gM (d + 1) 4 68 k_X8_init 57 [.ref 57] [.ref 71, .ref 57] (gKl n 70, gRl 67, gI0 xs, gL0) Q
  refine r_putR (c := 8) (k := 30) rfl rfl ⟨rfl, rfl⟩ ?_
  rw [gpu (p := 67) (a := 57) (j := 30) (v := 71) rfl rfl]
  refine r_aload rfl rfl ?_
  refine r_const rfl (gcst 6) ?_
  refine r_newi 6 0 rfl rfl (Nat.le_of_ble_eq_true rfl) rfl (by decide) (Nat.le_of_ble_eq_true rfl) (Nat.le_of_ble_eq_true rfl) ?_
  rw [gal (n := n) (xs := xs) (x := 100 + 0 + 3 * 6) (k := 70) (p := 68) rfl (by decide +kernel)]
  show gW gM (d + 1) 3 62 k_X8_init 61 [.ref 57] [.ref 72, .ref 57] (gKl n 71, gRl 68, gI0 xs, gL0) Q
  refine r_putR (c := 8) (k := 31) rfl rfl ⟨rfl, rfl⟩ ?_
  rw [gpu (p := 68) (a := 57) (j := 31) (v := 72) rfl rfl]
  refine r_aload rfl rfl ?_
  refine r_const rfl (gcst 6) ?_
  refine r_newi 6 0 rfl rfl (Nat.le_of_ble_eq_true rfl) rfl (by decide) (Nat.le_of_ble_eq_true rfl) (Nat.le_of_ble_eq_true rfl) ?_
  rw [gal (n := n) (xs := xs) (x := 100 + 0 + 3 * 6) (k := 71) (p := 69) rfl (by decide +kernel)]
  show gW gM (d + 1) 2 56 k_X8_init 65 [.ref 57] [.ref 73, .ref 57] (gKl n 72, gRl 69, gI0 xs, gL0) Q
  refine r_putR (c := 8) (k := 32) rfl rfl ⟨rfl, rfl⟩ ?_
  rw [gpu (p := 69) (a := 57) (j := 32) (v := 73) rfl rfl]
  refine r_aload rfl rfl ?_
  refine r_const rfl (gcst 2) ?_
  refine r_newi 2 1 rfl rfl (Nat.le_of_ble_eq_true rfl) rfl (by decide) (Nat.le_of_ble_eq_true rfl) (Nat.le_of_ble_eq_true rfl) ?_
  rw [gal (n := n) (xs := xs) (x := 100 + 1 + 3 * 2) (k := 72) (p := 70) rfl (by decide +kernel)]
  show gW gM (d + 1) 1 54 k_X8_init 69 [.ref 57] [.ref 74, .ref 57] (gKl n 73, gRl 70, gI0 xs, gL0) Q
  refine r_putR (c := 8) (k := 34) rfl rfl ⟨rfl, rfl⟩ ?_
  rw [gpu (p := 70) (a := 57) (j := 34) (v := 74) rfl rfl]
  refine r_aload rfl rfl ?_
  refine r_const rfl (gcst 54) ?_
  refine r_newi 54 0 rfl rfl (Nat.le_of_ble_eq_true rfl) rfl (by decide) (Nat.le_of_ble_eq_true rfl) (Nat.le_of_ble_eq_true rfl) ?_
  rw [gal (n := n) (xs := xs) (x := 100 + 0 + 3 * 54) (k := 73) (p := 71) rfl (by decide +kernel)]
  show gW gM (d + 1) 0 0 k_X8_init 73 [.ref 57] [.ref 75, .ref 57] (gKl n 74, gRl 71, gI0 xs, gL0) Q
  refine r_putR (c := 8) (k := 35) rfl rfl ⟨rfl, rfl⟩ ?_
  rw [gpu (p := 71) (a := 57) (j := 35) (v := 75) rfl rfl]
  exact r_vret rfl hQ
theorem gKl_all {n : Nat} : gKl n 74 = gKn n := by
  show (74, fun a => if a < 74 + 2 then (gKn n).2 a else 99) = gKn n
  have e : (fun a => if a < 74 + 2 then (gKn n).2 a else 99) = (gKn n).2 := by
    funext a
    by_cases h : a < 74 + 2
    · rw [if_pos h]
    · rw [if_neg h]
      show 99 = ((gshL n)[a]?).getD 99
      rw [List.getElem?_eq_none (by show 76 ≤ a; omega)]
      rfl
  rw [e]
  rfl
theorem gRl_all : gRl 72 = gRf 4 11 := by
  funext a j
  show (if (a, j) ∈ gputs.take 72 then gRf 4 11 a j else 0) = gRf 4 11 a j
  rw [List.take_of_length_le (by decide)]
  by_cases h : (a, j) ∈ gputs
  · rw [if_pos h]
  · rw [if_neg h]
    by_cases ha : a < 76
    · by_cases hj : j < 40
      · have hall : (List.range 76).all (fun a => (List.range 40).all (fun j => decide ((a, j) ∈ gputs) || decide (gRf 4 11 a j = 0))) = true := by decide +kernel
        have h1 := List.all_eq_true.mp (List.all_eq_true.mp hall a (List.mem_range.mpr ha)) j (List.mem_range.mpr hj)
        simp only [Bool.or_eq_true, decide_eq_true_eq] at h1
        exact (h1.resolve_left h).symm
      · have hlen : (grfL 4 11).all (fun r => decide (r.length ≤ 40)) = true := by decide +kernel
        show 0 = ((((grfL 4 11)[a]?).getD [])[j]?).getD 0
        cases hr : (grfL 4 11)[a]? with
        | none => rfl
        | some r =>
          have h1 := List.all_eq_true.mp hlen r (List.mem_of_getElem? hr)
          simp only [decide_eq_true_eq] at h1
          show 0 = (r[j]?).getD 0
          rw [List.getElem?_eq_none (by omega)]
          rfl
    · show 0 = ((((grfL 4 11)[a]?).getD [])[j]?).getD 0
      rw [show (grfL 4 11)[a]? = none from List.getElem?_eq_none (by show 76 ≤ a; omega)]
      rfl
