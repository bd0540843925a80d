/-! DOINGS TOLD, WINTERS -/
def rT (I I' : gII) : Prop := (∀ a, a ≠ 57 → a ≠ 63 → a ≠ 69 → I' a = I a) ∧ (∀ j, j ≠ 24 → I' 57 j = I 57 j) ∧ ∀ j, j < 27 → I' 63 j = I 63 j
theorem rT_refl {I : gII} : rT I I := ⟨fun _ _ _ _ => rfl, fun _ _ => rfl, fun _ _ => rfl⟩
theorem rT_trans {I I' I'' : gII} (h : rT I I') (k : rT I' I'') : rT I I'' := ⟨fun a a1 a2 a3 => (k.1 a a1 a2 a3).trans (h.1 a a1 a2 a3), fun j hj => (k.2.1 j hj).trans (h.2.1 j hj), fun j hj => (k.2.2 j hj).trans (h.2.2 j hj)⟩
theorem rT_fen {I I' : gII} {F : TFen} (h : rT I I') (hc : rFen I F) : rFen I' F := rFen_kept (fun j hj => h.2.1 j (by omega)) (fun a q1 q2 => h.1 a (by omega) (by omega) (by omega)) hc
theorem rT_same {I I' : gII} {L : gLL} (h : rT I I') : rSame I I' L L := ⟨fun a q => h.1 a (by omega) (by omega) (by omega), h.2.2, fun j q => h.2.1 j (by omega), rfl⟩
theorem rT_mom0 {I I' : gII} {V : TMom} (hl : (ms V).length ≤ 12) (h : rT I I') (hM : rMom I 63 0 V) : rMom I' 63 0 V := rMom0_same hl h.2.2 hM
theorem rT_trial {I I' : gII} (k : ∀ a, a ≠ 63 → I' a = I a) (h : ∀ j, j < 27 → I' 63 j = I 63 j) : rT I I' := ⟨fun a _ a2 _ => k a a2, fun j _ => by rw [k 57 (by decide)], h⟩
theorem rT_put {I : gII} {k : Nat} {x : Int32} (hk : 27 ≤ k) : rT I (gu2 I 63 k x) := ⟨fun a _ a2 _ => gu2_other a2, fun j _ => by rw [gu2_other (by decide)], fun j hj => g2n (by omega)⟩
theorem inb_v {k n : Nat} (hk : k < 2147483648) (hn : n ≤ 100) : inb (nI k) n = nI (if k < n then 1 else 0) := by
  unfold inb
  simp (disch := omega) only [n_le, n_lt, n_eq, n_eq0, n_0lt, n_le0, n_lt0, n_0le, n_gvp, n_gx, n_add, n_mul, decide_eq_true_eq, Option.bind_some, if_false, if_true, not_false_eq_true, not_true_eq_false]
  by_cases q : k < n
  · rw [if_neg (by omega), if_pos q]
  · rw [if_pos (by omega), if_neg q]
/-- a doing that is told; none: it can not be -/
def goS (F : TFen) (W : TMom) (d k : Nat) : Option TMom := if d < fB F ∧ k < fL F ∧ mh W / 2 ^ d % 2 = 0 then some (driveS F W d k) else none
def doS (F : TFen) (W : TMom) (d k : Nat) : Option TMom :=
  if d = 5 then (if k < fG F then some (mQ W (mo W ^^^ 2 ^ k) (mi W) (mh W) (mf W)) else none)
  else if d = 6 then (if k < fG F then some (mQ W (mo W) (mi W ^^^ 2 ^ k) (mh W) (mf W)) else none)
  else if d = 7 then (if k < fB F ∧ mh W / 2 ^ k % 2 = 1 then some (mQ W (mo W) (mi W) (mh W ^^^ 2 ^ k) (mf W)) else none)
  else if d = 8 then (if k < fV F ∧ 3 ≤ fitL F (ms W) k then some W else none)
  else goS F W d k
theorem goS_ok {F : TFen} {W W' : TMom} {d k : Nat} (hW : okM F W) (h : goS F W d k = some W') : okM F W' := by
  unfold goS at h
  split at h
  · rename_i q
    cases h
    exact driveS_ok q.1 hW
  · cases h
theorem x2lt {a k n : Nat} (ha : a < 2 ^ n) (hk : k < n) : a ^^^ 2 ^ k < 2 ^ n := Nat.xor_lt_two_pow ha (Nat.pow_lt_pow_right (by decide) hk)
theorem doS_ok {F : TFen} {W W' : TMom} {d k : Nat} (hW : okM F W) (h : doS F W d k = some W') : okM F W' := by
  unfold doS at h
  split at h
  · split at h
    · cases h
      exact mQ_ok hW (x2lt hW.2.2.1 (by assumption)) hW.2.2.2.1 hW.2.2.2.2.1 hW.2.2.2.2.2.1
    · cases h
  · split at h
    · split at h
      · cases h
        exact mQ_ok hW hW.2.2.1 (x2lt hW.2.2.2.1 (by assumption)) hW.2.2.2.2.1 hW.2.2.2.2.2.1
      · cases h
    · split at h
      · split at h
        · rename_i q
          cases h
          exact mQ_ok hW hW.2.2.1 hW.2.2.2.1 (x2lt hW.2.2.2.2.1 q.1) hW.2.2.2.2.2.1
        · cases h
      · split at h
        · split at h
          · cases h
            exact hW
          · cases h
        · exact goS_ok hW h
theorem zn0 : ¬ ¬ (nI 0 : Int32) = 0 := by decide
theorem zd0 : (nI 0 : Int32) = 0 ∨ (nI 0 : Int32) = 1 := by decide
theorem zd1 : (nI 1 : Int32) = 0 ∨ (nI 1 : Int32) = 1 := by decide
theorem doS5 {F : TFen} {W : TMom} {d k : Nat} (h : d = 5) : doS F W d k = if k < fG F then some (mQ W (mo W ^^^ 2 ^ k) (mi W) (mh W) (mf W)) else none := by
  unfold doS
  rw [if_pos h]
theorem doS6 {F : TFen} {W : TMom} {d k : Nat} (h : d = 6) : doS F W d k = if k < fG F then some (mQ W (mo W) (mi W ^^^ 2 ^ k) (mh W) (mf W)) else none := by
  subst h
  rfl
theorem doS7 {F : TFen} {W : TMom} {d k : Nat} (h : d = 7) : doS F W d k = if k < fB F ∧ mh W / 2 ^ k % 2 = 1 then some (mQ W (mo W) (mi W) (mh W ^^^ 2 ^ k) (mf W)) else none := by
  subst h
  rfl
theorem doS8 {F : TFen} {W : TMom} {d k : Nat} (h : d = 8) : doS F W d k = if k < fV F ∧ 3 ≤ fitL F (ms W) k then some W else none := by
  subst h
  rfl
theorem doSg {F : TFen} {W : TMom} {d k : Nat} (h5 : ¬ d = 5) (h6 : ¬ d = 6) (h7 : ¬ d = 7) (h8 : ¬ d = 8) : doS F W d k = goS F W d k := by
  unfold doS
  rw [if_neg h5, if_neg h6, if_neg h7, if_neg h8]
theorem goesHome_c {I : gII} {L : gLL} {F : TFen} {W : TMom} {f g d k : Nat} (hw : gfw f g) (hF : okF F) (hc : cFen I f F) (hW : okM F W) (hM : cMom I L 19 W) (hd : d < 32) (hk : k < 32) : ∃ I' L', r_X7_goesHome f g I L 19 (nI d) (nI k) = some (nI (oN (goS F W d k)), I', L') ∧ ∀ W', goS F W d k = some W' → cMom I' L' 19 W' ∧ cSong I' 53 (song F W d k) := by
  have hB := hF.2.2.1
  have hL := hF.2.1
  have h32 := okM_h32 hF hW
  have hf := gfe_or hw.f
  have ec : f_X1_canGoHome I L f 19 (nI d) (nI k) = if d < fB F ∧ k < fL F ∧ mh W / 2 ^ d % 2 = 0 then nI 1 else nI 0 := by
    unfold f_X1_canGoHome
    rw [isBeast_c hc, isLane_c hc, inb_v (by omega) (by omega), inb_v (by omega) (by omega), isHome_c hM.2.2.2.2.1 (by omega) hd]
    by_cases q1 : d < fB F
    · by_cases q2 : k < fL F
      · rw [if_pos q1, if_pos q2, if_neg z1, if_neg z1]
        rcases (by omega : mh W / 2 ^ d % 2 = 0 ∨ mh W / 2 ^ d % 2 = 1) with q | q
        · rw [q, if_neg zn0, if_pos ⟨q1, q2, rfl⟩]
        · rw [q, if_pos z1, if_neg (by omega)]
      · rw [if_pos q1, if_neg q2, if_neg z1, if_pos z0, if_neg (by omega)]
    · rw [if_neg q1, if_pos z0, if_neg (by omega)]
  unfold r_X7_goesHome goS
  rw [ec]
  by_cases q : d < fB F ∧ k < fL F ∧ mh W / 2 ^ d % 2 = 0
  · rw [if_pos q, if_pos z1, if_pos q]
    obtain ⟨I2, L2, e2, m2, s2, k2⟩ := sendHome_c (s := 53) hw.f rfl rfl (fun a q1 q2 => by omega) hF hc hW hM q.1 q.2.1
    refine ⟨I2, L2, ?_, fun W' h => ?_⟩
    · rw [e2]
      rfl
    · cases h
      exact ⟨m2, s2⟩
  · rw [if_neg q, if_neg zn0, if_neg q]
    exact ⟨I, L, rfl, fun W' h => by cases h⟩
theorem doesDoing_c {I : gII} {L : gLL} {F : TFen} {W : TMom} {f g d k : Nat} (hw : gfw f g) (hF : okF F) (hc : cFen I f F) (hW : okM F W) (hM : cMom I L 19 W) (hd : d < 10) (hk : k < 10) : ∃ I' L', r_X7_doesDoing f g I L 19 (nI d) (nI k) = some (nI (oN (doS F W d k)), I', L') ∧ ∀ W', doS F W d k = some W' → cMom I' L' 19 W' := by
  have hG := hF.1
  have hB := hF.2.2.1
  have hV2 := hF.2.2.2.1
  have h32 := okM_h32 hF hW
  unfold r_X7_doesDoing
  simp (disch := omega) only [n_le, n_lt, n_eq, n_eq0, n_0lt, n_le0, n_lt0, n_0le, n_gvp, n_gx, n_add, n_mul, decide_eq_true_eq, Option.bind_some, if_false, if_true, not_false_eq_true, not_true_eq_false]
  by_cases q5 : d = 5
  · rw [if_pos q5, doS5 q5]
    unfold f_X7_togglesOpen i_X7_togglesOpen
    rw [isGate_c hc, inb_v (by omega) (by omega)]
    by_cases q : k < fG F
    · have p2 : 2 ^ k ≤ 32 := pow_le5 (by omega)
      simp only [q, if_true]
      rw [if_pos z1, if_pos zd1, if_pos z1, hM.2.2.1, n_shl (by omega) (by omega), n_xor, Nat.one_mul]
      exact ⟨_, L, rfl, fun W' h => by cases h; exact cMom_o hM⟩
    · simp only [q, if_false]
      rw [if_neg zn0, if_pos zd0, if_neg zn0]
      exact ⟨_, L, rfl, fun W' h => by cases h⟩
  rw [if_neg q5]
  by_cases q6 : d = 6
  · rw [if_pos q6, doS6 q6]
    unfold f_X7_togglesOil i_X7_togglesOil
    rw [isGate_c hc, inb_v (by omega) (by omega)]
    by_cases q : k < fG F
    · have p2 : 2 ^ k ≤ 32 := pow_le5 (by omega)
      simp only [q, if_true]
      rw [if_pos z1, if_pos zd1, if_pos z1, hM.2.2.2.1, n_shl (by omega) (by omega), n_xor, Nat.one_mul]
      exact ⟨_, L, rfl, fun W' h => by cases h; exact cMom_i hM⟩
    · simp only [q, if_false]
      rw [if_neg zn0, if_pos zd0, if_neg zn0]
      exact ⟨_, L, rfl, fun W' h => by cases h⟩
  rw [if_neg q6]
  by_cases q7 : d = 7
  · rw [if_pos q7, doS7 q7]
    unfold f_X7_turnsOut i_X7_turnsOut
    rw [isBeast_c hc, inb_v (by omega) (by omega)]
    by_cases q : k < fB F
    · have p2 : 2 ^ k ≤ 32 := pow_le5 (by omega)
      simp only [q, if_true, true_and]
      rw [if_neg z1, isHome_c hM.2.2.2.2.1 (by omega) (by omega)]
      rcases (by omega : mh W / 2 ^ k % 2 = 0 ∨ mh W / 2 ^ k % 2 = 1) with qq | qq
      · rw [qq, if_neg zn0, if_pos rfl, if_pos zd0, if_pos rfl]
        exact ⟨_, L, rfl, fun W' h => by cases h⟩
      · have ff : ¬ false = true := by decide
        rw [qq, if_pos z1, if_neg ff, if_pos zd1, if_neg ff, if_pos rfl, hM.2.2.2.2.1, n_shl (by omega) (by omega), n_xor, Nat.one_mul]
        exact ⟨_, L, rfl, fun W' h => by cases h; exact cMom_h hM⟩
    · simp only [q, if_false, false_and]
      rw [if_pos z0, if_pos rfl, if_pos zd0, if_pos rfl]
      exact ⟨_, L, rfl, fun W' h => by cases h⟩
  rw [if_neg q7]
  by_cases q8 : d = 8
  · rw [if_pos q8, doS8 q8, isVerse_c hc, inb_v (by omega) (by omega)]
    by_cases q : k < fV F
    · have fl4 := fitL_le F (ms W) k
      simp only [q, if_true, true_and]
      rw [if_neg z1, fitIn_c hw (Or.inr rfl) hF hc hW hM q]
      unfold r_X7_doesDoing_30
      simp (disch := omega) only [n_le, n_lt, n_eq, n_eq0, n_0lt, n_le0, n_lt0, n_0le, n_gvp, n_gx, n_add, n_mul, decide_eq_true_eq, Option.bind_some, if_false, if_true, not_false_eq_true, not_true_eq_false]
      by_cases qq : fitL F (ms W) k < 3
      · have qq' : ¬ 3 ≤ fitL F (ms W) k := by omega
        rw [if_pos qq, if_neg qq']
        exact ⟨_, L, rfl, fun W' h => by cases h⟩
      · have qq' : 3 ≤ fitL F (ms W) k := by omega
        rw [if_neg qq, if_pos qq']
        exact ⟨_, L, rfl, fun W' h => by cases h; exact cMom_kept (gu2_other (by decide)) rfl hM⟩
    · unfold r_X7_doesDoing_30
      simp only [q, if_false, false_and]
      rw [if_pos z0]
      exact ⟨_, L, rfl, fun W' h => by cases h⟩
  rw [if_neg q8, doSg q5 q6 q7 q8]
  obtain ⟨I', L', e, m⟩ := goesHome_c hw hF hc hW hM (show d < 32 by omega) (show k < 32 by omega)
  refine ⟨I', L', ?_, fun W' h => (m W' h).1⟩
  rw [e]
  simp only [Option.bind_some]
  cases goS F W d k with
  | none => exact if_pos zd0
  | some _ => exact if_pos zd1
theorem canDrive_any {I : gII} {L : gLL} {F : TFen} {W : TMom} {d k : Nat} (hF : okF F) (hc : rFen I F) (hW : okM F W) (hM : rMom I 63 27 W) (hd : d < 32) (hk : k < 32) : r_X8_canDrive I L (nI 1) (nI d) (nI k) = some (nI (oN (goS F W d k)), I, L) := by
  have hB := hF.2.2.1
  have hL := hF.2.1
  by_cases q1 : d < fB F
  · by_cases q2 : k < fL F
    · rw [canDrive_m (lv := 1) (by omega) hF hc hW hM q1 q2]
      unfold goS
      rcases (by omega : mh W / 2 ^ d % 2 = 0 ∨ mh W / 2 ^ d % 2 = 1) with q | q
      · rw [q, if_pos ⟨q1, q2, rfl⟩]
        rfl
      · rw [q, if_neg (by omega)]
        rfl
    · unfold r_X8_canDrive r_X8_canDrive_22 goS
      have q3 : ¬ (d < fB F ∧ k < fL F ∧ mh W / 2 ^ d % 2 = 0) := by omega
      rw [isBeast_m hF hc, Option.bind_some, inb_v (by omega) (by omega), isLane_m hF hc, if_neg q3]
      simp only [q1, if_true, Option.bind_some]
      rw [if_neg z1, inb_v (by omega) (by omega)]
      simp only [q2, if_false]
      rw [if_pos z0, if_pos zd0]
      rfl
  · unfold r_X8_canDrive r_X8_canDrive_22 goS
    have q3 : ¬ (d < fB F ∧ k < fL F ∧ mh W / 2 ^ d % 2 = 0) := by omega
    rw [isBeast_m hF hc, inb_v (by omega) (by omega), if_neg q3]
    simp only [q1, if_false, Option.bind_some]
    rw [if_pos z0, if_pos zd0]
    rfl
theorem driveOn_1 {I : gII} {L : gLL} {F : TFen} {W W' : TMom} {d k : Nat} (hF : okF F) (hc : rFen I F) (hW : okM F W) (hM : rMom I 63 27 W) (h : goS F W d k = some W') : ∃ I', r_X8_driveOn I L (nI 1) (nI d) (nI k) = some (nI (cnt (song F W d k)), I', L) ∧ rMom I' 63 27 W' ∧ rT I I' := by
  unfold goS at h
  split at h
  · rename_i q
    cases h
    obtain ⟨I', e, m, s, k1, j1, w1⟩ := driveOn_r (L := L) (lv := 1) (by omega) hF hc hW hM q.1 q.2.1
    exact ⟨I', e, m, k1, j1, fun j hj => w1 j (by omega)⟩
  · cases h
theorem tryThing_r {I : gII} {L : gLL} {F : TFen} {W : TMom} {d k : Nat} (hF : okF F) (hc : rFen I F) (hW : okM F W) (hM : rMom I 63 27 W) (hd : d < 10) (hk : k < 10) : ∃ I', r_X8_tryThing I L (nI d) (nI k) = some (nI (oN (doS F W d k)), I', L) ∧ (∀ W', doS F W d k = some W' → rMom I' 63 27 W') ∧ rT I I' := by
  have hG := hF.1
  have hB := hF.2.2.1
  have hV2 := hF.2.2.2.1
  have h32 := okM_h32 hF hW
  have m10 : I 63 37 = nI (mo W) := hM.2.2.1
  have m11 : I 63 38 = nI (mi W) := hM.2.2.2.1
  have m12 : I 63 39 = nI (mh W) := hM.2.2.2.2.1
  have t0 : ∀ dd, r_X8_tryThing_60 (nI dd) (nI k) (nI 0) I L = some (nI 0, I, L) := fun dd => by
    unfold r_X8_tryThing_60
    rw [if_pos zd0]
    simp only [z0, if_true]
  have t1 : r_X8_tryThing_60 (nI d) (nI k) (nI 1) I L = some (nI 1, (if ¬ d = 5 then (if ¬ d = 6 then (if ¬ d = 7 then I else gu2 I 63 39 (nI (mh W) &&& ((gshl (nI 1) (nI k)) ^^^ (-1 : Int32)))) else gu2 I 63 38 (nI (mi W) ^^^ gshl (nI 1) (nI k))) else gu2 I 63 37 (nI (mo W) ^^^ gshl (nI 1) (nI k))), L) := by
    unfold r_X8_tryThing_60
    rw [if_pos zd1]
    simp only [z1, if_false]
    simp (disch := omega) only [n_le, n_lt, n_eq, n_eq0, n_0lt, n_le0, n_lt0, n_0le, n_gvp, n_gx, n_add, n_mul, decide_eq_true_eq, Option.bind_some, if_false, if_true, not_false_eq_true, not_true_eq_false, m10, m11, m12]
  unfold r_X8_tryThing r_X8_tryThing_59 r_X8_tryThing_42
  rw [t0]
  simp (disch := omega) only [n_le, n_lt, n_eq, n_eq0, n_0lt, n_le0, n_lt0, n_0le, n_gvp, n_gx, n_add, n_mul, decide_eq_true_eq, Option.bind_some, if_false, if_true, not_false_eq_true, not_true_eq_false]
  by_cases q5 : d < 5
  · have q5' : ¬ 5 ≤ d := by omega
    rw [if_neg q5', canDrive_any hF hc hW hM (by omega) (by omega), doSg (by omega) (by omega) (by omega) (by omega)]
    simp only [Option.bind_some]
    unfold r_X8_tryThing_17
    cases hg : goS F W d k with
    | none =>
      rw [show nI (oN (none : Option TMom)) = nI 0 from rfl, if_pos z0, if_pos zd0]
      exact ⟨I, rfl, fun W' h => (by cases h), rT_refl⟩
    | some W' =>
      obtain ⟨I', e', m, t⟩ := driveOn_1 (L := L) hF hc hW hM hg
      rw [show nI (oN (some W')) = nI 1 from rfl, if_neg z1, e']
      simp only [Option.bind_some]
      rw [if_pos zd1]
      exact ⟨I', rfl, fun W'' h => by cases h; exact m, t⟩
  have q5' : 5 ≤ d := by omega
  rw [if_pos q5']
  by_cases q7 : d < 7
  · have q7' : ¬ 7 ≤ d := by omega
    rw [if_neg q7', isGate_m hF hc, inb_v (by omega) (by omega)]
    simp only [Option.bind_some]
    by_cases q : k < fG F
    · have p2 : 2 ^ k ≤ 32 := pow_le5 (by omega)
      simp only [q, if_true]
      rw [t1]
      rcases (by omega : d = 5 ∨ d = 6) with rfl | rfl
      · have f5 : ¬ ¬ (5 : Nat) = 5 := by decide
        rw [if_neg f5, n_shl (by omega) (by omega), n_xor, Nat.one_mul, doS5 rfl, if_pos q]
        exact ⟨_, rfl, fun W' h => by cases h; exact rMom_o hM, rT_put (k := 37) (by omega)⟩
      · have f5 : ¬ (6 : Nat) = 5 := by decide
        have f6 : ¬ ¬ (6 : Nat) = 6 := by decide
        rw [if_pos f5, if_neg f6, n_shl (by omega) (by omega), n_xor, Nat.one_mul, doS6 rfl, if_pos q]
        exact ⟨_, rfl, fun W' h => by cases h; exact rMom_i hM, rT_put (k := 38) (by omega)⟩
    · have e : doS F W d k = none := by
        rcases (by omega : d = 5 ∨ d = 6) with h | h
        · rw [doS5 h, if_neg q]
        · rw [doS6 h, if_neg q]
      simp only [q, if_false]
      rw [t0, e]
      exact ⟨I, rfl, fun W' h => (by cases h), rT_refl⟩
  have q7' : 7 ≤ d := by omega
  rw [if_pos q7']
  by_cases q7 : d = 7
  · have f7 : ¬ ¬ d = 7 := fun h => h q7
    rw [if_neg f7, isBeast_m hF hc, inb_v (by omega) (by omega), doS7 q7]
    simp only [Option.bind_some]
    by_cases q : k < fB F
    · have p2 : 2 ^ k ≤ 32 := pow_le5 (by omega)
      simp only [q, if_true, true_and]
      rw [if_neg z1, m12, bit_r (by omega) (by omega)]
      rcases (by omega : mh W / 2 ^ k % 2 = 0 ∨ mh W / 2 ^ k % 2 = 1) with qq | qq
      · have f0 : ¬ (0 : Nat) = 1 := by decide
        rw [qq, if_pos z0, if_neg f0]
        exact ⟨I, rfl, fun W' h => (by cases h), rT_refl⟩
      · have f5 : ¬ d = 5 := by omega
        have f6 : ¬ d = 6 := by omega
        rw [qq, if_neg z1, if_pos rfl, t1, if_pos f5, if_pos f6, if_neg f7, out_all _ (by omega) _ (by omega) qq]
        exact ⟨_, rfl, fun W' h => by cases h; exact rMom_h hM, rT_put (k := 39) (by omega)⟩
    · simp only [q, if_false, false_and]
      rw [if_pos z0]
      exact ⟨I, rfl, fun W' h => (by cases h), rT_refl⟩
  rw [if_pos q7]
  by_cases q8 : d = 8
  · have f8 : ¬ ¬ d = 8 := fun h => h q8
    rw [if_neg f8, isVerse_m hF hc, inb_v (by omega) (by omega), doS8 q8]
    simp only [Option.bind_some]
    by_cases q : k < fV F
    · have fl4 := fitL_le F (ms W) k
      simp only [q, if_true, true_and]
      rw [if_neg z1, fitOn_r (lv := 1) (by omega) hF hc hW hM q]
      simp (disch := omega) only [n_le, n_lt, n_eq, n_eq0, n_0lt, n_le0, n_lt0, n_0le, n_gvp, n_gx, n_add, n_mul, decide_eq_true_eq, Option.bind_some, if_false, if_true, not_false_eq_true, not_true_eq_false]
      by_cases qq : fitL F (ms W) k ≤ 2
      · have qq' : ¬ 3 ≤ fitL F (ms W) k := by omega
        rw [if_pos qq, if_neg qq']
        exact ⟨I, rfl, fun W' h => (by cases h), rT_refl⟩
      · have qq' : 3 ≤ fitL F (ms W) k := by omega
        have f5 : ¬ d = 5 := by omega
        have f6 : ¬ d = 6 := by omega
        rw [if_neg qq, if_pos qq', t1, if_pos f5, if_pos f6, if_pos q7]
        exact ⟨I, rfl, fun W' h => by cases h; exact hM, rT_refl⟩
    · simp only [q, if_false, false_and]
      rw [if_pos z0]
      exact ⟨I, rfl, fun W' h => (by cases h), rT_refl⟩
  · have e : doS F W d k = none := by
      rw [doSg (by omega) (by omega) q7 q8]
      unfold goS
      exact if_neg (by omega)
    rw [if_pos q8, e]
    exact ⟨I, rfl, fun W' h => (by cases h), rT_refl⟩
theorem power_r {I : gII} {L : gLL} {v n : Nat} (hn : n < 99) : r_X8_power I L (nI v) (nI n) = some (nI (v ^ n), I, L) := by
  have h := gloopE (fun m j (c : Int32) => r_X8_power_4 m (nI v) (nI n) c (nI j) I L) (fun j c => c = nI (v ^ j)) (fun z => z = (nI (v ^ n), I, L)) (n := n)
    (fun m j c hj hp => Or.inl ⟨nI (v ^ (j + 1)), by
      show r_X8_power_4 (m + 1) (nI v) (nI n) c (nI j) I L = r_X8_power_4 m (nI v) (nI n) _ (nI (j + 1)) I L
      rw [hp, r_X8_power_4]
      simp (disch := omega) only [n_le, n_lt, n_eq, n_eq0, n_0lt, n_le0, n_lt0, n_0le, n_gvp, n_gx, n_add, n_mul, decide_eq_true_eq, Option.bind_some, if_false, if_true, not_false_eq_true, not_true_eq_false]
      rw [if_neg (by omega), Nat.pow_succ], rfl⟩)
    (fun m c hp => ⟨(nI (v ^ n), I, L), by
      show r_X8_power_4 (m + 1) (nI v) (nI n) c (nI n) I L = _
      rw [hp, r_X8_power_4, if_pos (by simp (disch := omega) only [n_le, n_lt, n_eq, n_eq0, n_0lt, n_le0, n_lt0, n_0le, n_gvp, n_gx, n_add, n_mul, decide_eq_true_eq, Option.bind_some, if_false, if_true, not_false_eq_true, not_true_eq_false]; omega)], rfl⟩) (d := n) (j := 0) (N := 100) (s := nI 1) (by omega) (by omega) rfl
  obtain ⟨z, e, rfl⟩ := h
  exact e
