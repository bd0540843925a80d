/-! THE CASES OF THE LAW: class and reference agree at every call -/
theorem gat {i k n : Nat} (h : i + k < n) (hn : n ≤ 384) : gvp (nI i + nI k) n = true := by
  rw [n_add, n_gvp (by omega)]
  exact decide_eq_true h
theorem gax {i k n : Nat} (h : i + k < n) (hn : n ≤ 384) : gx (nI i + nI k) = i + k := by
  rw [n_add, n_gx (by omega)]
theorem fr_some {v : Int32} {I I1 : gII} {L L1 : gLL} {z : gRs} {a : Nat} (e : some (v, I1, L1) = some z) (h : I1 a = I a ∧ L1 a = L a) : z.2.1 a = I a ∧ z.2.2 a = L a := by
  have e1 := Option.some.inj e
  subst e1
  exact h
theorem k_write : gCase sInv r_L_law_22 := by
  intro n f g I L i hw hI hin hn
  obtain ⟨v, I1, L1, I2, L2, hx, hy, h1, hI'⟩ := ag_case hw hI (ag_write (I 1 (i + 1))) ⟨fun f g I L z hw e a ha => w_X7_write (by omega) e, fun I L z e a ha => w_X8_write (by omega) e⟩
  refine ⟨I2, L2, fun K => ?_, hI'⟩
  unfold r_L_law_22
  have v1 : gvp (nI i + nI 1) n = true := gat (by omega) hn
  have x1 : gx (nI i + nI 1) = i + 1 := gax (n := n) (by omega) hn
  simp only [v1, x1, if_true, hx, Option.bind_some, h1, hy]
theorem k_fault : gCase sInv r_L_law_46 := by
  intro n f g I L i hw hI hin hn
  obtain ⟨v, I1, L1, I2, L2, hx, hy, h1, hI'⟩ := ag_case hw hI ag_fault ⟨fun f g I L z hw e a ha => w_X7_fault (by rcases hw with ⟨rfl, rfl⟩ | ⟨rfl, rfl⟩ <;> omega) e, fun I L z e a ha => w_X8_fault (by omega) e⟩
  refine ⟨I2, L2, fun K => ?_, hI'⟩
  unfold r_L_law_46
  simp only [if_true, hx, Option.bind_some, hy]
theorem k_gate : gCase sInv r_L_law_60 := by
  intro n f g I L i hw hI hin hn
  obtain ⟨v, I1, L1, I2, L2, hx, hy, h1, hI'⟩ := ag_case hw hI (ag_gate (I 1 (i + 1)) (I 1 (i + 2))) ⟨fun f g I L z hw e a ha => w_X7_gate (fun h => h) e, fun I L z e a ha => w_X8_gate (fun h => h) e⟩
  refine ⟨I2, L2, fun K => ?_, hI'⟩
  unfold r_L_law_60
  have v1 : gvp (nI i + nI 1) n = true := gat (by omega) hn
  have x1 : gx (nI i + nI 1) = i + 1 := gax (n := n) (by omega) hn
  have v2 : gvp (nI i + nI 2) n = true := gat (by omega) hn
  have x2 : gx (nI i + nI 2) = i + 2 := gax (n := n) (by omega) hn
  simp only [v1, x1, v2, x2, if_true, hx, Option.bind_some, h1, hy]
theorem k_beast : gCase sInv r_L_law_87 := by
  intro n f g I L i hw hI hin hn
  obtain ⟨v, I1, L1, I2, L2, hx, hy, h1, hI'⟩ := ag_case hw hI (ag_beast (I 1 (i + 1)) (I 1 (i + 2))) ⟨fun f g I L z hw e a ha => w_X7_beast (fun h => h) e, fun I L z e a ha => w_X8_beast (fun h => h) e⟩
  refine ⟨I2, L2, fun K => ?_, hI'⟩
  unfold r_L_law_87
  have v1 : gvp (nI i + nI 1) n = true := gat (by omega) hn
  have x1 : gx (nI i + nI 1) = i + 1 := gax (n := n) (by omega) hn
  have v2 : gvp (nI i + nI 2) n = true := gat (by omega) hn
  have x2 : gx (nI i + nI 2) = i + 2 := gax (n := n) (by omega) hn
  simp only [v1, x1, v2, x2, if_true, hx, Option.bind_some, h1, hy]
theorem k_tone : gCase sInv r_L_law_114 := by
  intro n f g I L i hw hI hin hn
  obtain ⟨v, I1, L1, I2, L2, hx, hy, h1, hI'⟩ := ag_case hw hI (ag_tone (I 1 (i + 1)) (I 1 (i + 2))) ⟨fun f g I L z hw e a ha => w_X7_tone (fun h => h) e, fun I L z e a ha => w_X8_tone (fun h => h) e⟩
  refine ⟨I2, L2, fun K => ?_, hI'⟩
  unfold r_L_law_114
  have v1 : gvp (nI i + nI 1) n = true := gat (by omega) hn
  have x1 : gx (nI i + nI 1) = i + 1 := gax (n := n) (by omega) hn
  have v2 : gvp (nI i + nI 2) n = true := gat (by omega) hn
  have x2 : gx (nI i + nI 2) = i + 2 := gax (n := n) (by omega) hn
  simp only [v1, x1, v2, x2, if_true, hx, Option.bind_some, h1, hy]
theorem k_song : gCase sInv r_L_law_141 := by
  intro n f g I L i hw hI hin hn
  obtain ⟨v, I1, L1, I2, L2, hx, hy, h1, hI'⟩ := ag_case hw hI (ag_song (I 1 (i + 1)) (I 1 (i + 2)) (I 1 (i + 3))) ⟨fun f g I L z hw e a ha => w_X7_song (by omega) e, fun I L z e a ha => w_X8_song (by omega) e⟩
  refine ⟨I2, L2, fun K => ?_, hI'⟩
  unfold r_L_law_141
  have v1 : gvp (nI i + nI 1) n = true := gat (by omega) hn
  have x1 : gx (nI i + nI 1) = i + 1 := gax (n := n) (by omega) hn
  have v2 : gvp (nI i + nI 2) n = true := gat (by omega) hn
  have x2 : gx (nI i + nI 2) = i + 2 := gax (n := n) (by omega) hn
  have v3 : gvp (nI i + nI 3) n = true := gat (by omega) hn
  have x3 : gx (nI i + nI 3) = i + 3 := gax (n := n) (by omega) hn
  simp only [v1, x1, v2, x2, v3, x3, if_true, hx, Option.bind_some, h1, hy]
theorem k_drive : gCase sInv r_L_law_195 := by
  intro n f g I L i hw hI hin hn
  obtain ⟨v, I1, L1, I2, L2, hx, hy, h1, hI'⟩ := ag_case hw hI (ag_drive (I 1 (i + 1)) (I 1 (i + 2))) ⟨fun f g I L z hw e a ha => w_X7_drive (by omega) e, fun I L z e a ha => w_X8_drive (by omega) e⟩
  refine ⟨I2, L2, fun K => ?_, hI'⟩
  unfold r_L_law_195
  have v1 : gvp (nI i + nI 1) n = true := gat (by omega) hn
  have x1 : gx (nI i + nI 1) = i + 1 := gax (n := n) (by omega) hn
  have v2 : gvp (nI i + nI 2) n = true := gat (by omega) hn
  have x2 : gx (nI i + nI 2) = i + 2 := gax (n := n) (by omega) hn
  simp only [v1, x1, v2, x2, if_true, hx, Option.bind_some, h1, hy]
theorem k_open : gCase sInv r_L_law_222 := by
  intro n f g I L i hw hI hin hn
  obtain ⟨v, I1, L1, I2, L2, hx, hy, h1, hI'⟩ := ag_case hw hI (ag_open (I 1 (i + 1))) ⟨fun f g I L z hw e a ha => w_X7_open (by omega) e, fun I L z e a ha => w_X8_open (by omega) e⟩
  refine ⟨I2, L2, fun K => ?_, hI'⟩
  unfold r_L_law_222
  have v1 : gvp (nI i + nI 1) n = true := gat (by omega) hn
  have x1 : gx (nI i + nI 1) = i + 1 := gax (n := n) (by omega) hn
  simp only [v1, x1, if_true, hx, Option.bind_some, h1, hy]
theorem k_oil : gCase sInv r_L_law_239 := by
  intro n f g I L i hw hI hin hn
  obtain ⟨v, I1, L1, I2, L2, hx, hy, h1, hI'⟩ := ag_case hw hI (ag_oil (I 1 (i + 1))) ⟨fun f g I L z hw e a ha => w_X7_oil (by omega) e, fun I L z e a ha => w_X8_oil (by omega) e⟩
  refine ⟨I2, L2, fun K => ?_, hI'⟩
  unfold r_L_law_239
  have v1 : gvp (nI i + nI 1) n = true := gat (by omega) hn
  have x1 : gx (nI i + nI 1) = i + 1 := gax (n := n) (by omega) hn
  simp only [v1, x1, if_true, hx, Option.bind_some, h1, hy]
theorem k_hang : gCase sInv r_L_law_256 := by
  intro n f g I L i hw hI hin hn
  obtain ⟨v, I1, L1, I2, L2, hx, hy, h1, hI'⟩ := ag_case hw hI (ag_hang (I 1 (i + 1)) (if I 1 (i + 2) = 0 then nI 0 else nI 1)) ⟨fun f g I L z hw e a ha => w_X7_hang (by omega) e, fun I L z e a ha => w_X8_hang (by omega) e⟩
  refine ⟨I2, L2, fun K => ?_, hI'⟩
  unfold r_L_law_256
  have v1 : gvp (nI i + nI 1) n = true := gat (by omega) hn
  have x1 : gx (nI i + nI 1) = i + 1 := gax (n := n) (by omega) hn
  have v2 : gvp (nI i + nI 2) n = true := gat (by omega) hn
  have x2 : gx (nI i + nI 2) = i + 2 := gax (n := n) (by omega) hn
  simp only [v1, x1, v2, x2, if_true, hx, Option.bind_some, h1, hy]
theorem k_turnOut : gCase sInv r_L_law_291 := by
  intro n f g I L i hw hI hin hn
  obtain ⟨v, I1, L1, I2, L2, hx, hy, h1, hI'⟩ := ag_case hw hI (ag_turnOut (I 1 (i + 1))) ⟨fun f g I L z hw e a ha => w_X7_turnOut (by omega) e, fun I L z e a ha => w_X8_turnOut (by omega) e⟩
  refine ⟨I2, L2, fun K => ?_, hI'⟩
  unfold r_L_law_291
  have v1 : gvp (nI i + nI 1) n = true := gat (by omega) hn
  have x1 : gx (nI i + nI 1) = i + 1 := gax (n := n) (by omega) hn
  simp only [v1, x1, if_true, hx, Option.bind_some, h1, hy]
theorem k_frost : gCase sInv r_L_law_308 := by
  intro n f g I L i hw hI hin hn
  obtain ⟨v, I1, L1, I2, L2, hx, hy, h1, hI'⟩ := ag_case hw hI ag_frost ⟨fun f g I L z hw e a ha => w_X7_frost (by omega) e, fun I L z e a ha => w_X8_frost (by omega) e⟩
  refine ⟨I2, L2, fun K => ?_, hI'⟩
  unfold r_L_law_308
  simp only [if_true, hx, Option.bind_some, hy]
theorem k_undo : gCase sInv r_L_law_315 := by
  intro n f g I L i hw hI hin hn
  obtain ⟨v, I1, L1, I2, L2, hx, hy, h1, hI'⟩ := ag_case hw hI ag_undo ⟨fun f g I L z hw e a ha => w_X7_undo (by omega) e, fun I L z e a ha => w_X8_undo (by omega) e⟩
  refine ⟨I2, L2, fun K => ?_, hI'⟩
  unfold r_L_law_315
  simp only [if_true, hx, Option.bind_some, hy]
theorem k_fit : gCase sInv r_L_law_322 := by
  intro n f g I L i hw hI hin hn
  obtain ⟨v, I1, L1, I2, L2, hx, hy, h1, hI'⟩ := ag_case hw hI (ag_fit (I 1 (i + 1))) ⟨fun f g I L z hw e a ha => w_X7_fit (by omega) e, fun I L z e a ha => w_X8_fit (fun h => h) e⟩
  refine ⟨I2, L2, fun K => ?_, hI'⟩
  unfold r_L_law_322
  have v1 : gvp (nI i + nI 1) n = true := gat (by omega) hn
  have x1 : gx (nI i + nI 1) = i + 1 := gax (n := n) (by omega) hn
  simp only [v1, x1, if_true, hx, Option.bind_some, h1, hy]
theorem k_harmony : gCase sInv r_L_law_339 := by
  intro n f g I L i hw hI hin hn
  obtain ⟨v, I1, L1, I2, L2, hx, hy, h1, hI'⟩ := ag_case hw hI (ag_harmony (I 1 (i + 1)) (I 1 (i + 2)) (I 1 (i + 3)) (I 1 (i + 4))) ⟨fun f g I L z hw e a ha => w_X7_harmony (by omega) e, fun I L z e a ha => w_X8_harmony (by omega) e⟩
  refine ⟨I2, L2, fun K => ?_, hI'⟩
  unfold r_L_law_339
  have v1 : gvp (nI i + nI 1) n = true := gat (by omega) hn
  have x1 : gx (nI i + nI 1) = i + 1 := gax (n := n) (by omega) hn
  have v2 : gvp (nI i + nI 2) n = true := gat (by omega) hn
  have x2 : gx (nI i + nI 2) = i + 2 := gax (n := n) (by omega) hn
  have v3 : gvp (nI i + nI 3) n = true := gat (by omega) hn
  have x3 : gx (nI i + nI 3) = i + 3 := gax (n := n) (by omega) hn
  have v4 : gvp (nI i + nI 4) n = true := gat (by omega) hn
  have x4 : gx (nI i + nI 4) = i + 4 := gax (n := n) (by omega) hn
  simp only [v1, x1, v2, x2, v3, x3, v4, x4, if_true, hx, Option.bind_some, h1, hy]
theorem k_best : gCase sInv r_L_law_386 := by
  intro n f g I L i hw hI hin hn
  obtain ⟨v, I1, L1, I2, L2, hx, hy, h1, hI'⟩ := ag_case hw hI (ag_best (I 1 (i + 1)) (I 1 (i + 2)) (if I 1 (i + 3) = 0 then nI 0 else nI 1)) ⟨fun f g I L z hw e a ha => w_X7_best (by omega) e, fun I L z e a ha => w_X8_best (by omega) e⟩
  refine ⟨I2, L2, fun K => ?_, hI'⟩
  unfold r_L_law_386
  have v1 : gvp (nI i + nI 1) n = true := gat (by omega) hn
  have x1 : gx (nI i + nI 1) = i + 1 := gax (n := n) (by omega) hn
  have v2 : gvp (nI i + nI 2) n = true := gat (by omega) hn
  have x2 : gx (nI i + nI 2) = i + 2 := gax (n := n) (by omega) hn
  have v3 : gvp (nI i + nI 3) n = true := gat (by omega) hn
  have x3 : gx (nI i + nI 3) = i + 3 := gax (n := n) (by omega) hn
  simp only [v1, x1, v2, x2, v3, x3, if_true, hx, Option.bind_some, h1, hy]
theorem k_fewest : gCase sInv r_L_law_431 := by
  intro n f g I L i hw hI hin hn
  obtain ⟨v, I1, L1, I2, L2, hx, hy, h1, hI'⟩ := ag_case hw hI (ag_fewest (I 1 (i + 1))) ⟨fun f g I L z hw e a ha => w_X7_fewest (by omega) e, fun I L z e a ha => w_X8_fewest (by omega) e⟩
  refine ⟨I2, L2, fun K => ?_, hI'⟩
  unfold r_L_law_431
  have v1 : gvp (nI i + nI 1) n = true := gat (by omega) hn
  have x1 : gx (nI i + nI 1) = i + 1 := gax (n := n) (by omega) hn
  simp only [v1, x1, if_true, hx, Option.bind_some, h1, hy]
theorem k_has : gCase sInv r_L_law_448 := by
  intro n f g I L i hw hI hin hn
  obtain ⟨v, I1, L1, I2, L2, hx, hy, h1, hI'⟩ := ag_case hw hI (ag_has (I 1 (i + 1)) (I 1 (i + 2))) ⟨fun f g I L z hw e a ha => w_X7_has (by omega) e, fun I L z e a ha => w_X8_has (by omega) e⟩
  refine ⟨I2, L2, fun K => ?_, hI'⟩
  unfold r_L_law_448
  have v1 : gvp (nI i + nI 1) n = true := gat (by omega) hn
  have x1 : gx (nI i + nI 1) = i + 1 := gax (n := n) (by omega) hn
  have v2 : gvp (nI i + nI 2) n = true := gat (by omega) hn
  have x2 : gx (nI i + nI 2) = i + 2 := gax (n := n) (by omega) hn
  simp only [v1, x1, v2, x2, if_true, hx, Option.bind_some, h1, hy]
theorem k_silence : gCase sInv r_L_law_475 := by
  intro n f g I L i hw hI hin hn
  obtain ⟨v, I1, L1, I2, L2, hx, hy, h1, hI'⟩ := ag_case hw hI (ag_silence (I 1 (i + 1))) ⟨fun f g I L z hw e a ha => w_X7_silence (fun h => h) e, fun I L z e a ha => w_X8_silence (by omega) e⟩
  refine ⟨I2, L2, fun K => ?_, hI'⟩
  unfold r_L_law_475
  have v1 : gvp (nI i + nI 1) n = true := gat (by omega) hn
  have x1 : gx (nI i + nI 1) = i + 1 := gax (n := n) (by omega) hn
  simp only [v1, x1, if_true, hx, Option.bind_some, h1, hy]
theorem k_judge : gCase sInv r_L_law_492 := by
  intro n f g I L i hw hI hin hn
  obtain ⟨v, I1, L1, I2, L2, hx, hy, h1, hI'⟩ := ag_case hw hI (ag_judge (I 1 (i + 1)) (I 1 (i + 2))) ⟨fun f g I L z hw e a ha => w_X7_judge (by omega) e, fun I L z e a ha => w_X8_judge (by omega) e⟩
  refine ⟨I2, L2, fun K => ?_, hI'⟩
  unfold r_L_law_492
  have v1 : gvp (nI i + nI 1) n = true := gat (by omega) hn
  have x1 : gx (nI i + nI 1) = i + 1 := gax (n := n) (by omega) hn
  have v2 : gvp (nI i + nI 2) n = true := gat (by omega) hn
  have x2 : gx (nI i + nI 2) = i + 2 := gax (n := n) (by omega) hn
  simp only [v1, x1, v2, x2, if_true, hx, Option.bind_some, h1, hy]
theorem k_hear : gCase sInv r_L_law_519 := by
  intro n f g I L i hw hI hin hn
  obtain ⟨v, I1, L1, I2, L2, hx, hy, h1, hI'⟩ := ag_case hw hI (ag_hear (I 1 (i + 1)) (I 1 (i + 2)) (I 1 (i + 3))) ⟨fun f g I L z hw e a ha => w_X7_hear (by omega) e, fun I L z e a ha => w_X8_hear (by omega) e⟩
  refine ⟨I2, L2, fun K => ?_, hI'⟩
  unfold r_L_law_519
  have v1 : gvp (nI i + nI 1) n = true := gat (by omega) hn
  have x1 : gx (nI i + nI 1) = i + 1 := gax (n := n) (by omega) hn
  have v2 : gvp (nI i + nI 2) n = true := gat (by omega) hn
  have x2 : gx (nI i + nI 2) = i + 2 := gax (n := n) (by omega) hn
  have v3 : gvp (nI i + nI 3) n = true := gat (by omega) hn
  have x3 : gx (nI i + nI 3) = i + 3 := gax (n := n) (by omega) hn
  simp only [v1, x1, v2, x2, v3, x3, if_true, hx, Option.bind_some, h1, hy]
theorem k_weights : gCase sInv r_L_law_563 := by
  intro n f g I L i hw hI hin hn
  obtain ⟨v, I1, L1, I2, L2, hx, hy, h1, hI'⟩ := ag_case hw hI (ag_weights (I 1 (i + 1))) ⟨fun f g I L z hw e a ha => w_X7_weights (fun h => h) e, fun I L z e a ha => w_X8_weights (fun h => h) e⟩
  refine ⟨I2, L2, fun K => ?_, hI'⟩
  unfold r_L_law_563
  have v1 : gvp (nI i + nI 1) n = true := gat (by omega) hn
  have x1 : gx (nI i + nI 1) = i + 1 := gax (n := n) (by omega) hn
  simp only [v1, x1, if_true, hx, Option.bind_some, h1, hy]
theorem k_share : gCase sInv r_L_law_580 := by
  intro n f g I L i hw hI hin hn
  obtain ⟨v, I1, L1, I2, L2, hx, hy, h1, hI'⟩ := ag_case hw hI (ag_share (I 1 (i + 1)) (I 1 (i + 2)) (if I 1 (i + 3) = 0 then nI 0 else nI 1)) ⟨fun f g I L z hw e a ha => w_X7_share (by omega) e, fun I L z e a ha => w_X8_share (by omega) e⟩
  refine ⟨I2, L2, fun K => ?_, hI'⟩
  unfold r_L_law_580
  have v1 : gvp (nI i + nI 1) n = true := gat (by omega) hn
  have x1 : gx (nI i + nI 1) = i + 1 := gax (n := n) (by omega) hn
  have v2 : gvp (nI i + nI 2) n = true := gat (by omega) hn
  have x2 : gx (nI i + nI 2) = i + 2 := gax (n := n) (by omega) hn
  have v3 : gvp (nI i + nI 3) n = true := gat (by omega) hn
  have x3 : gx (nI i + nI 3) = i + 3 := gax (n := n) (by omega) hn
  simp only [v1, x1, v2, x2, v3, x3, if_true, hx, Option.bind_some, h1, hy]
theorem k_rests : gCase sInv r_L_law_625 := by
  intro n f g I L i hw hI hin hn
  obtain ⟨v, I1, L1, I2, L2, hx, hy, h1, hI'⟩ := ag_case hw hI (ag_rests (I 1 (i + 1)) (I 1 (i + 2)) (I 1 (i + 3))) ⟨fun f g I L z hw e a ha => w_X7_rests (by omega) e, fun I L z e a ha => w_X8_rests (by omega) e⟩
  refine ⟨I2, L2, fun K => ?_, hI'⟩
  unfold r_L_law_625
  have v1 : gvp (nI i + nI 1) n = true := gat (by omega) hn
  have x1 : gx (nI i + nI 1) = i + 1 := gax (n := n) (by omega) hn
  have v2 : gvp (nI i + nI 2) n = true := gat (by omega) hn
  have x2 : gx (nI i + nI 2) = i + 2 := gax (n := n) (by omega) hn
  have v3 : gvp (nI i + nI 3) n = true := gat (by omega) hn
  have x3 : gx (nI i + nI 3) = i + 3 := gax (n := n) (by omega) hn
  simp only [v1, x1, v2, x2, v3, x3, if_true, hx, Option.bind_some, h1, hy]
theorem k_drips : gCase sInv r_L_law_662 := by
  intro n f g I L i hw hI hin hn
  obtain ⟨v, I1, L1, I2, L2, hx, hy, h1, hI'⟩ := ag_case hw hI (ag_drips (I 1 (i + 1)) (I 1 (i + 2)) (I 1 (i + 3)) (I 1 (i + 4)) (if I 1 (i + 5) = 0 then nI 0 else nI 1)) ⟨fun f g I L z hw e a ha => w_X7_drips (by omega) e, fun I L z e a ha => w_X8_drips (by omega) e⟩
  refine ⟨I2, L2, fun K => ?_, hI'⟩
  unfold r_L_law_662
  have v1 : gvp (nI i + nI 1) n = true := gat (by omega) hn
  have x1 : gx (nI i + nI 1) = i + 1 := gax (n := n) (by omega) hn
  have v2 : gvp (nI i + nI 2) n = true := gat (by omega) hn
  have x2 : gx (nI i + nI 2) = i + 2 := gax (n := n) (by omega) hn
  have v3 : gvp (nI i + nI 3) n = true := gat (by omega) hn
  have x3 : gx (nI i + nI 3) = i + 3 := gax (n := n) (by omega) hn
  have v4 : gvp (nI i + nI 4) n = true := gat (by omega) hn
  have x4 : gx (nI i + nI 4) = i + 4 := gax (n := n) (by omega) hn
  have v5 : gvp (nI i + nI 5) n = true := gat (by omega) hn
  have x5 : gx (nI i + nI 5) = i + 5 := gax (n := n) (by omega) hn
  simp only [v1, x1, v2, x2, v3, x3, v4, x4, v5, x5, if_true, hx, Option.bind_some, h1, hy]
theorem k_winters : gCase sInv r_L_law_769 := by
  intro n f g I L i hw hI hin hn
  obtain ⟨v, I1, L1, I2, L2, hx, hy, h1, hI'⟩ := ag_case hw hI (ag_winters (I 1 (i + 1))) ⟨fun f g I L z hw e a ha => w_X7_winters (by omega) e, fun I L z e a ha => w_X8_winters (by omega) e⟩
  refine ⟨I2, L2, fun K => ?_, hI'⟩
  unfold r_L_law_769
  have v1 : gvp (nI i + nI 1) n = true := gat (by omega) hn
  have x1 : gx (nI i + nI 1) = i + 1 := gax (n := n) (by omega) hn
  simp only [v1, x1, if_true, hx, Option.bind_some, h1, hy]
theorem k_keep : gCase sInv r_L_law_786 := by
  intro n f g I L i hw hI hin hn
  obtain ⟨v, I1, L1, I2, L2, hx, hy, h1, hI'⟩ := ag_case hw hI (ag_keep (I 1 (i + 1))) ⟨fun f g I L z hw e a ha => w_X7_keep (by omega) e, fun I L z e a ha => w_X8_keep (by omega) e⟩
  refine ⟨I2, L2, fun K => ?_, hI'⟩
  unfold r_L_law_786
  have v1 : gvp (nI i + nI 1) n = true := gat (by omega) hn
  have x1 : gx (nI i + nI 1) = i + 1 := gax (n := n) (by omega) hn
  simp only [v1, x1, if_true, hx, Option.bind_some, h1, hy]
theorem k_again : gCase sInv r_L_law_803 := by
  intro n f g I L i hw hI hin hn
  obtain ⟨v, I1, L1, I2, L2, hx, hy, h1, hI'⟩ := ag_case hw hI (ag_again (I 1 (i + 1))) ⟨fun f g I L z hw e a ha => w_X7_again (by omega) e, fun I L z e a ha => w_X8_again (by omega) e⟩
  refine ⟨I2, L2, fun K => ?_, hI'⟩
  unfold r_L_law_803
  have v1 : gvp (nI i + nI 1) n = true := gat (by omega) hn
  have x1 : gx (nI i + nI 1) = i + 1 := gax (n := n) (by omega) hn
  simp only [v1, x1, if_true, hx, Option.bind_some, h1, hy]
theorem k_wipe : gCase sInv r_L_law_39 := by
  intro n f g I L i hw hI hin hn
  obtain ⟨v, I1, L1, I2, L2, hx, hy, h1, hI'⟩ := ag_case hw hI ag_wipe ⟨fun f g I L z hw e a ha => fr_some e ⟨wi_X7_wipe (by omega), rfl⟩, fun I L z e a ha => fr_some e ⟨wi_X8_wipe (by omega), rfl⟩⟩
  simp only [Option.some.injEq, Prod.mk.injEq] at hx hy
  obtain ⟨a1, a2, a3⟩ := hx
  obtain ⟨b1, b2, b3⟩ := hy
  subst a3
  subst b3
  refine ⟨I2, L, fun K => ?_, hI'⟩
  unfold r_L_law_39
  rw [a2, a1, b1, b2, if_pos rfl]
theorem k_unhear : gCase sInv r_L_law_556 := by
  intro n f g I L i hw hI hin hn
  obtain ⟨v, I1, L1, I2, L2, hx, hy, h1, hI'⟩ := ag_case hw hI ag_unhear ⟨fun f g I L z hw e a ha => fr_some e ⟨wi_X7_unhear (by omega), rfl⟩, fun I L z e a ha => fr_some e ⟨wi_X8_unhear (by omega), rfl⟩⟩
  simp only [Option.some.injEq, Prod.mk.injEq] at hx hy
  obtain ⟨a1, a2, a3⟩ := hx
  obtain ⟨b1, b2, b3⟩ := hy
  subst a3
  subst b3
  refine ⟨I2, L, fun K => ?_, hI'⟩
  unfold r_L_law_556
  rw [a2, a1, b1, b2, if_pos rfl]
theorem k_count : gCase sInv r_L_law_820 := by
  intro n f g I L i hw hI hin hn
  obtain ⟨v, I1, L1, I2, L2, hx, hy, h1, hI'⟩ := ag_case hw hI (ag_count (I 1 (i + 1))) ⟨fun f g I L z hw e a ha => fr_some e ⟨rfl, rfl⟩, fun I L z e a ha => fr_some e ⟨rfl, rfl⟩⟩
  simp only [Option.some.injEq, Prod.mk.injEq] at hx hy
  obtain ⟨a1, a2, a3⟩ := hx
  obtain ⟨b1, b2, b3⟩ := hy
  subst a3
  subst b3
  subst a2
  subst b2
  refine ⟨I, L, fun K => ?_, hI'⟩
  unfold r_L_law_820
  have v1 : gvp (nI i + nI 1) n = true := gat (by omega) hn
  have x1 : gx (nI i + nI 1) = i + 1 := gax (n := n) (by omega) hn
  rw [if_pos v1, if_pos v1, x1, a1, b1, if_pos rfl]
theorem k_sung : gCase sInv r_L_law_178 := by
  intro n f g I L i hw hI hin hn
  obtain ⟨v, I1, L1, I2, L2, hx, hy, h1, hI'⟩ := ag_case hw hI (ag_sung (I 1 (i + 1))) ⟨fun f g I L z hw e a ha => fr_some e ⟨rfl, rfl⟩, fun I L z e a ha => w_X8_sung (fun h => h) e⟩
  simp only [Option.some.injEq, Prod.mk.injEq] at hx
  obtain ⟨a1, a2, a3⟩ := hx
  subst a3
  subst a2
  refine ⟨I2, L2, fun K => ?_, hI'⟩
  unfold r_L_law_178
  have v1 : gvp (nI i + nI 1) n = true := gat (by omega) hn
  have x1 : gx (nI i + nI 1) = i + 1 := gax (n := n) (by omega) hn
  rw [if_pos v1, if_pos v1, x1, hy, Option.bind_some, a1, if_pos rfl]
theorem gcmp_self (x : Int64) : lg_cmp x x = 0 := by
  simp [lg_cmp]
theorem k_seed : gCase sInv r_L_law_727 := by
  intro n f g I L i hw hI hin hn
  obtain ⟨S, hS, hc, hr⟩ := hI
  have v1 : gvp (nI i + nI 1) n = true := gat (by omega) hn
  have v2 : gvp (nI i + nI 2) n = true := gat (by omega) hn
  generalize hv : ((glshl (Int32.toInt64 (I 1 (gx (nI i + nI 1)))) (nI 32)) ||| ((Int32.toInt64 (I 1 (gx (nI i + nI 2)))) &&& (lN 4294967295))) = v
  obtain ⟨hS2, hC, hR⟩ := ag_seed v hS
  obtain ⟨e1, c1⟩ := hC f I L hc
  have r1 : rSt I (gu2 L 2 14 v) S := rSt_far hS (fun a ha => ⟨rfl, gu2_other (by omega)⟩) hr
  obtain ⟨e2, r2⟩ := hR I (gu2 L 2 14 v) r1
  refine ⟨I, gu2 (gu2 L 2 14 v) 57 33 v, fun K => ?_, _, hS2, cSt_kept (fun a ha => ⟨rfl, gu2_other ?_⟩) c1, r2⟩
  · unfold r_L_law_727
    rw [hv, if_pos v1, if_pos v2, if_pos v1, if_pos v2]
    have e3 : f_X7_seed f g I L v = f_X8_seed I (l_X7_seed f g I L v) v := e1.trans e2.symm
    rw [e3, if_pos (gcmp_self _)]
    rfl
  · have := cHold_lt hw ha
    omega
